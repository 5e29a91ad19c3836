/-! ===== rows on shifts; the JDK's small methods ===== -/
section Layer4
variable {p : Program} {l : Launch} {e : Env} {Rm : Room} {s : State} {m : MethodId} {args : Array Value} {below : List Frame} {meth : Method} {c : Code} {H : Heap} {locs : List Loc} {cells slots : Nat} {Q : State → Prop}
variable {cc : ByteArray} {nL pc : Nat} {own : String} {ls : Array Slot} {rest : List Value}
theorem k_ushr (C : CallFix p m c cc nL s args GW own) {a k : Nat} (hdg : decode cc pc = .ok (.iushr, 1)) (ha : a < 2 ^ 32) (hk : (((nI k).toUInt32 &&& Int32.toUInt32 31).toBitVec % 32).toNat = k) (kk : W p l e Rm s m args below meth c H locs cells slots Q (F0 m (pc + 1) ls (.int (nI (a / 2 ^ k)) :: rest))) : W p l e Rm s m args below meth c H locs cells slots Q (F0 m pc ls (.int (nI k) :: .int (nI a) :: rest)) := lv_iushr C.1 C.2.1 hdg (pk_ushrN ha (nI k) k hk) kk
theorem k_and (C : CallFix p m c cc nL s args GW own) {a b : Nat} (k : Nat) (hdg : decode cc pc = .ok (.iand, 1)) (ha : a < 2 ^ 32) (hk : (nI b).toBitVec.toNat = 2 ^ k - 1) (kk : W p l e Rm s m args below meth c H locs cells slots Q (F0 m (pc + 1) ls (.int (nI (a % 2 ^ k)) :: rest))) : W p l e Rm s m args below meth c H locs cells slots Q (F0 m pc ls (.int (nI b) :: .int (nI a) :: rest)) := lv_iand C.1 C.2.1 hdg (k_ti (pk_andN ha k hk) kk)
end Layer4
theorem dec1m (a : Nat) : nI a + Int32.ofInt (-1) = nI a - 1 := by rw [Int32.sub_eq_add_neg]; rfl
def fFill (n x : Nat) (F : Nat → Nat) : Nat → Nat := fun j => if j < n then x else F j
def fFillR (n : Nat) (x : Int32) (F : Nat → Int32) : Nat → Int32 := fun j => if j < n then x else F j
theorem fFill_s (n x : Nat) (F : Nat → Nat) : va_up (fFill n x F) n x = fFill (n + 1) x F := by
  funext j
  simp only [va_up, fFill]
  by_cases h1 : j = n
  · rw [if_pos h1, if_pos (by omega)]
  · rw [if_neg h1]
    by_cases h2 : j < n
    · rw [if_pos h2, if_pos (by omega)]
    · rw [if_neg h2, if_neg (by omega)]
theorem fFillR_s (n : Nat) (x : Int32) (F : Nat → Int32) : upd (fFillR n x F) n x = fFillR (n + 1) x F := by
  funext j
  simp only [upd, fFillR]
  by_cases h1 : j = n
  · rw [if_pos h1, if_pos (by omega)]
  · rw [if_neg h1]
    by_cases h2 : j < n
    · rw [if_pos h2, if_pos (by omega)]
    · rw [if_neg h2, if_neg (by omega)]
theorem fFill_0 (x : Nat) (F : Nat → Nat) : fFill 0 x F = F := by funext j; simp [fFill]
theorem fFillR_0 (x : Int32) (F : Nat → Int32) : fFillR 0 x F = F := by funext j; simp [fFillR]

abbrev rm_J7_fill_53178 : Room := { frames := 0, cells := 0, slots := 0, locals := 0 }

set_option maxHeartbeats 800000 in
set_option maxRecDepth 100000 in
/-- Arrays.fill -/
theorem c_J7_fill_53178 {l : Launch} {D : va_G} {ca : Nat → ClassId} {tB tS R : Nat} {ad : Nat → Nat} {g : Nat → va_E} {sz : Nat} (t n : Nat) (x : Nat) (F1 : Nat → Nat) (ht : t < R) (hn : n < 2 ^ 31) (eT : g t = na ca n F1) : MV l yJ7_fill_53178 cJ7_fill_53178 4 rm_J7_fill_53178 D ca tB tS R ad g sz [.ref (ad t), .int (nI x)] (fun g1 => (∀ z, z ≠ t → g1 z = g z) ∧ g1 t = na ca n (fFill n x F1)) := by
  refine m_startV (by decide +kernel) (Nat.le_of_ble_eq_true rfl) (fun p e s m args below meth c ls Q hsz C hnm hl F hw hret => ?_)
  have hl : lv_has ls 4 [(0, .ref (ad t)), (1, .int (nI x))] := hl
  generalize s.heap = H at hw ⊢
  generalize ([] : List Loc) = locs at hw ⊢
  refine k_icn C 0 dJ7_fill_53178_0 (by decide) ?_
  refine lv_istore_n (lv' := [(2, .int (nI 0)), (0, .ref (ad t)), (1, .int (nI x))]) C.1 C.2.1 dJ7_fill_53178_1 rfl hl (by decide) rfl (fun ls hl => ?_)
  refine lv_aload_n C.1 C.2.1 dJ7_fill_53178_2 rfl (lv_at hl 1 rfl) ?_
  refine k_alen C F hw (t) (by omega) eT dJ7_fill_53178_3 ?_
  refine lv_istore_n (lv' := [(3, .int (nI n)), (2, .int (nI 0)), (0, .ref (ad t)), (1, .int (nI x))]) C.1 C.2.1 dJ7_fill_53178_4 rfl hl (by decide) rfl (fun ls hl => ?_)
  have loop5 : ∀ (fuel : Nat) (i : Nat) (f1 : Nat → Nat) (gL : Nat → va_E) (H : Heap) (locs : List Loc) (ls : Array Slot), ((n - i) + 1 ≤ fuel) → (i ≤ n) → (f1 = fFill i x F1) → (∀ z, z ≠ t → gL z = g z) → (gL (t) = na ca n (f1)) → Wd D (AA R ad sz) s R ad gL H locs → lv_has ls 4 [(0, .ref (ad t)), (1, .int (nI x)), (2, .int (nI i)), (3, .int (nI n))] → W p l e rm_J7_fill_53178 s m args below meth c H locs 0 0 Q (F0 m 5 ls []) := by
    intro fuel
    induction fuel with
    | zero =>
      intro i f1 gL H locs ls hfu5
      exact absurd hfu5 (by omega)
    | succ fuel5 ih5 =>
      intro i f1 gL H locs ls hfu5 hi hF1 hsL5 eL5_0 hw hl
      refine lv_iload_n C.1 C.2.1 dJ7_fill_53178_5 rfl (lv_at hl 2 rfl) ?_
      refine lv_iload_n C.1 C.2.1 dJ7_fill_53178_6 rfl (lv_at hl 3 rfl) ?_
      refine k_ige (tgt := 20) C dJ7_fill_53178_7 (by decide) (by omega) (by omega) (fun hc7 => ?_) (fun hc7 => ?_)
      · exact hret H locs ls _ _ dJ7_fill_53178_20 hw (⟨hsL5, by rw [eL5_0, hF1, show i = n by omega]⟩)
      · refine lv_aload_n C.1 C.2.1 dJ7_fill_53178_10 rfl (lv_at hl 0 rfl) ?_
        refine lv_iload_n C.1 C.2.1 dJ7_fill_53178_11 rfl (lv_at hl 2 rfl) ?_
        refine lv_iload_n C.1 C.2.1 dJ7_fill_53178_12 rfl (lv_at hl 1 rfl) ?_
        refine k_iast C F hw (t) (by omega) eL5_0 (i) (x) (by omega) (by omega) dJ7_fill_53178_13 (fun H locs hw => ?_)
        have hw : Wd D (AA R ad sz) s R ad (va_up gL (t) (na ca n (va_up f1 i x))) H locs := hw
        obtain ⟨g1, hg1⟩ : ∃ z, z = va_up gL (t) (na ca n (va_up f1 i x)) := ⟨_, rfl⟩
        rw [← hg1] at hw
        have hk2 : ∀ z, z ≠ t → g1 z = gL z := fun z hz => by rw [hg1]; exact va_up_ne _ _ hz
        have e3 : g1 (t) = na ca n (va_up f1 i x) := by rw [hg1]; exact va_up_self _ _ _
        have hs4 : ∀ z, z ≠ t → g1 z = g z := fun z hz => (hk2 z (by omega)).trans (hsL5 z hz)
        refine k_inc C (i + 1) (lv' := [(2, .int (nI (i + 1))), (0, .ref (ad t)), (1, .int (nI x)), (3, .int (nI n))]) dJ7_fill_53178_14 hl (k := 2) rfl (inc1 _) (by decide) rfl (fun ls hl => ?_)
        refine lv_goto (tgt := 5) C.1 C.2.1 dJ7_fill_53178_17 (by decide) ?_
        exact ih5 (i + 1) (va_up f1 i x) g1 H locs ls (by omega) (by omega) (by rw [hF1, fFill_s]) hs4 e3 hw (lv_sub hl [1, 2, 0, 3] rfl)
  exact loop5 _ 0 F1 g H locs ls (Nat.le_refl _) (Nat.zero_le _) ((fFill_0 x F1).symm) (fun z _ => rfl) eT hw (lv_sub hl [2, 3, 1, 0] rfl)

set_option maxHeartbeats 800000 in
set_option maxRecDepth 100000 in
/-- Arrays.fill -/
theorem c_J7_fill_53178R {l : Launch} {D : va_G} {ca : Nat → ClassId} {tB tS R : Nat} {ad : Nat → Nat} {g : Nat → va_E} {sz : Nat} (t n : Nat) (x : Int32) (F1 : Nat → Int32) (ht : t < R) (hn : n < 2 ^ 31) (eT : g t = ia ca n F1) : MV l yJ7_fill_53178 cJ7_fill_53178 4 rm_J7_fill_53178 D ca tB tS R ad g sz [.ref (ad t), .int (x)] (fun g1 => (∀ z, z ≠ t → g1 z = g z) ∧ g1 t = ia ca n (fFillR n x F1)) := by
  refine m_startV (by decide +kernel) (Nat.le_of_ble_eq_true rfl) (fun p e s m args below meth c ls Q hsz C hnm hl F hw hret => ?_)
  have hl : lv_has ls 4 [(0, .ref (ad t)), (1, .int (x))] := hl
  generalize s.heap = H at hw ⊢
  generalize ([] : List Loc) = locs at hw ⊢
  refine k_icn C 0 dJ7_fill_53178_0 (by decide) ?_
  refine lv_istore_n (lv' := [(2, .int (nI 0)), (0, .ref (ad t)), (1, .int (x))]) C.1 C.2.1 dJ7_fill_53178_1 rfl hl (by decide) rfl (fun ls hl => ?_)
  refine lv_aload_n C.1 C.2.1 dJ7_fill_53178_2 rfl (lv_at hl 1 rfl) ?_
  refine k_alenR C F hw (t) (by omega) eT dJ7_fill_53178_3 ?_
  refine lv_istore_n (lv' := [(3, .int (nI n)), (2, .int (nI 0)), (0, .ref (ad t)), (1, .int (x))]) C.1 C.2.1 dJ7_fill_53178_4 rfl hl (by decide) rfl (fun ls hl => ?_)
  have loop5 : ∀ (fuel : Nat) (i : Nat) (f1 : Nat → Int32) (gL : Nat → va_E) (H : Heap) (locs : List Loc) (ls : Array Slot), ((n - i) + 1 ≤ fuel) → (i ≤ n) → (f1 = fFillR i x F1) → (∀ z, z ≠ t → gL z = g z) → (gL (t) = ia ca n (f1)) → Wd D (AA R ad sz) s R ad gL H locs → lv_has ls 4 [(0, .ref (ad t)), (1, .int (x)), (2, .int (nI i)), (3, .int (nI n))] → W p l e rm_J7_fill_53178 s m args below meth c H locs 0 0 Q (F0 m 5 ls []) := by
    intro fuel
    induction fuel with
    | zero =>
      intro i f1 gL H locs ls hfu5
      exact absurd hfu5 (by omega)
    | succ fuel5 ih5 =>
      intro i f1 gL H locs ls hfu5 hi hF1 hsL5 eL5_0 hw hl
      refine lv_iload_n C.1 C.2.1 dJ7_fill_53178_5 rfl (lv_at hl 2 rfl) ?_
      refine lv_iload_n C.1 C.2.1 dJ7_fill_53178_6 rfl (lv_at hl 3 rfl) ?_
      refine k_ige (tgt := 20) C dJ7_fill_53178_7 (by decide) (by omega) (by omega) (fun hc7 => ?_) (fun hc7 => ?_)
      · exact hret H locs ls _ _ dJ7_fill_53178_20 hw (⟨hsL5, by rw [eL5_0, hF1, show i = n by omega]⟩)
      · refine lv_aload_n C.1 C.2.1 dJ7_fill_53178_10 rfl (lv_at hl 0 rfl) ?_
        refine lv_iload_n C.1 C.2.1 dJ7_fill_53178_11 rfl (lv_at hl 2 rfl) ?_
        refine lv_iload_n C.1 C.2.1 dJ7_fill_53178_12 rfl (lv_at hl 1 rfl) ?_
        refine k_iastR C F hw (t) (by omega) eL5_0 (i) (x) (by omega) (by omega) dJ7_fill_53178_13 (fun H locs hw => ?_)
        have hw : Wd D (AA R ad sz) s R ad (va_up gL (t) (ia ca n (upd f1 i (x)))) H locs := hw
        obtain ⟨g1, hg1⟩ : ∃ z, z = va_up gL (t) (ia ca n (upd f1 i (x))) := ⟨_, rfl⟩
        rw [← hg1] at hw
        have hk2 : ∀ z, z ≠ t → g1 z = gL z := fun z hz => by rw [hg1]; exact va_up_ne _ _ hz
        have e3 : g1 (t) = ia ca n (upd f1 i (x)) := by rw [hg1]; exact va_up_self _ _ _
        have hs4 : ∀ z, z ≠ t → g1 z = g z := fun z hz => (hk2 z (by omega)).trans (hsL5 z hz)
        refine k_inc C (i + 1) (lv' := [(2, .int (nI (i + 1))), (0, .ref (ad t)), (1, .int (x)), (3, .int (nI n))]) dJ7_fill_53178_14 hl (k := 2) rfl (inc1 _) (by decide) rfl (fun ls hl => ?_)
        refine lv_goto (tgt := 5) C.1 C.2.1 dJ7_fill_53178_17 (by decide) ?_
        exact ih5 (i + 1) (upd f1 i (x)) g1 H locs ls (by omega) (by omega) (by rw [hF1, fFillR_s]) hs4 e3 hw (lv_sub hl [1, 2, 0, 3] rfl)
  exact loop5 _ 0 F1 g H locs ls (Nat.le_refl _) (Nat.zero_le _) ((fFillR_0 x F1).symm) (fun z _ => rfl) eT hw (lv_sub hl [2, 3, 1, 0] rfl)

abbrev rm_J9_min_7cf53 : Room := { frames := 0, cells := 0, slots := 0, locals := 0 }

set_option maxHeartbeats 800000 in
set_option maxRecDepth 100000 in
/-- Math.min -/
theorem c_J9_min_7cf53 {l : Launch} {D : va_G} {ca : Nat → ClassId} {tB tS R : Nat} {ad : Nat → Nat} {g : Nat → va_E} {sz : Nat} (a b : Nat) (ha : a < 2 ^ 31) (hb : b < 2 ^ 31) : MI l yJ9_min_7cf53 cJ9_min_7cf53 2 .int rm_J9_min_7cf53 D ca tB tS R ad g sz [.int (nI a), .int (nI b)] (fun r g1 => r = nI (min a b) ∧ g1 = g) := by
  refine m_startI (by decide +kernel) (Nat.le_of_ble_eq_true rfl) (fun p e s m args below meth c ls Q hsz C hl F hw hret => ?_)
  have hl : lv_has ls 2 [(0, .int (nI a)), (1, .int (nI b))] := hl
  generalize s.heap = H at hw ⊢
  generalize ([] : List Loc) = locs at hw ⊢
  refine lv_iload_n C.1 C.2.1 dJ9_min_7cf53_0 rfl (lv_at hl 0 rfl) ?_
  refine lv_iload_n C.1 C.2.1 dJ9_min_7cf53_1 rfl (lv_at hl 1 rfl) ?_
  refine k_igt (tgt := 9) C dJ9_min_7cf53_2 (by decide) (by omega) (by omega) (fun hc2 => ?_) (fun hc2 => ?_)
  · refine lv_iload_n C.1 C.2.1 dJ9_min_7cf53_9 rfl (lv_at hl 1 rfl) ?_
    exact hret H locs ls _ _ _ dJ9_min_7cf53_10 hw (⟨by congr 1; omega, rfl⟩)
  · refine lv_iload_n C.1 C.2.1 dJ9_min_7cf53_5 rfl (lv_at hl 0 rfl) ?_
    refine lv_goto (tgt := 10) C.1 C.2.1 dJ9_min_7cf53_6 (by decide) ?_
    exact hret H locs ls _ _ _ dJ9_min_7cf53_10 hw (⟨by congr 1; omega, rfl⟩)

abbrev rm_J9_max_7cf53 : Room := { frames := 0, cells := 0, slots := 0, locals := 0 }

set_option maxHeartbeats 800000 in
set_option maxRecDepth 100000 in
/-- Math.max -/
theorem c_J9_max_7cf53 {l : Launch} {D : va_G} {ca : Nat → ClassId} {tB tS R : Nat} {ad : Nat → Nat} {g : Nat → va_E} {sz : Nat} (a b : Int32) : MI l yJ9_max_7cf53 cJ9_max_7cf53 2 .int rm_J9_max_7cf53 D ca tB tS R ad g sz [.int (a), .int (b)] (fun r g1 => r = (if a < b then b else a) ∧ g1 = g) := by
  refine m_startI (by decide +kernel) (Nat.le_of_ble_eq_true rfl) (fun p e s m args below meth c ls Q hsz C hl F hw hret => ?_)
  have hl : lv_has ls 2 [(0, .int (a)), (1, .int (b))] := hl
  generalize s.heap = H at hw ⊢
  generalize ([] : List Loc) = locs at hw ⊢
  refine lv_iload_n C.1 C.2.1 dJ9_max_7cf53_0 rfl (lv_at hl 0 rfl) ?_
  refine lv_iload_n C.1 C.2.1 dJ9_max_7cf53_1 rfl (lv_at hl 1 rfl) ?_
  refine lv_icmp_lt (tgt := 9) C.1 C.2.1 dJ9_max_7cf53_2 (by decide) (fun hc2 => ?_) (fun hc2 => ?_)
  · refine lv_iload_n C.1 C.2.1 dJ9_max_7cf53_9 rfl (lv_at hl 1 rfl) ?_
    exact hret H locs ls _ _ _ dJ9_max_7cf53_10 hw (⟨by simp [*], rfl⟩)
  · refine lv_iload_n C.1 C.2.1 dJ9_max_7cf53_5 rfl (lv_at hl 0 rfl) ?_
    refine lv_goto (tgt := 10) C.1 C.2.1 dJ9_max_7cf53_6 (by decide) ?_
    exact hret H locs ls _ _ _ dJ9_max_7cf53_10 hw (⟨by simp [*], rfl⟩)
