/-! ===== System.arraycopy; Block; Catcher ===== -/
set_option maxRecDepth 20000 in
theorem ac_1 : Cond.methodLink RX0 35 arraycopyName ∈ GW := gw_in 468 (by rfl) rfl
set_option maxRecDepth 20000 in
theorem ac_2 : Cond.native arraycopyName ∈ GW := gw_in 470 (by rfl) rfl
set_option maxRecDepth 20000 in
theorem ac_3 : Cond.static arraycopyName ∈ GW := gw_in 469 (by rfl) rfl
set_option maxRecDepth 20000 in
theorem ac_4 : Cond.initialized "java/lang/System" ∈ GW := gw_in 46 (by rfl) rfl
theorem cpy_na (f g : Nat → Nat) (sp dp n : Nat) : va_cpy (fun j => nI (f j)) (fun j => nI (g j)) sp dp n = fun j => nI (va_cpy f g sp dp n j) := by
  funext j
  unfold va_cpy
  split <;> rfl
section Layer5
variable {p : Program} {l : Launch} {e : Env} {Rm : Room} {s : State} {m : MethodId} {args : Array Value} {below : List Frame} {meth : Method} {c : Code} {H : Heap} {locs : List Loc} {cells slots : Nat} {Q : State → Prop}
variable {cc : ByteArray} {nL pc : Nat} {ls : Array Slot} {rest : List Value} {D : va_G} {ca : Nat → ClassId} {tB tS : Nat} {A : Nat → Prop} {R : Nat} {ad : Nat → Nat} {g : Nat → va_E}
theorem k_copy (C : CallFix p m c cc nL s args GW RX0) (F : Fx D ca tB tS A s) (hw : Wd D A s R ad g H locs) (hls : ls.size = nL) (i0 i1 : Nat) {n0 n1 : Nat} {f f2 : Nat → Nat} (hi0 : i0 < R) (hi1 : i1 < R) (he0 : g i0 = na ca n0 f) (he1 : g i1 = na ca n1 f2) (sp dp n : Nat) (h4 : sp + n ≤ n0) (h5 : dp + n ≤ n1) (h6 : n0 < 2 ^ 31 ∧ n1 < 2 ^ 31)
    (hfr : 1 ≤ Rm.frames) (hlo : (rest.map fun v => v.category).sum + (nativeFrameWords "java/lang/System" "arraycopy" 5 + 11) ≤ Rm.locals) (hdg : decode cc pc = .ok (.invokestatic 35, 3))
    (kk : ∀ (H1 : Heap) (locs1 : List Loc), Wd D A s R ad (va_up g i1 (na ca n1 (va_cpy f f2 sp dp n))) H1 locs1 → W p l e Rm s m args below meth c H1 locs1 cells slots Q (F0 m (pc + 3) ls rest)) : W p l e Rm s m args below meth c H locs cells slots Q (F0 m pc ls (.int (nI n) :: .int (nI dp) :: .ref (ad i1) :: .int (nI sp) :: .ref (ad i0) :: rest)) := by
  refine va_copyi C.1 C.2.1 (C.2.2.1.trans hls.symm) C.2.2.2.1 (C.2.2.2.2 _ ac_1) (C.2.2.2.2 _ ac_2) (C.2.2.2.2 _ ac_3) (C.2.2.2.2 _ ac_4) F.1 hw.1 hw.2.1 hw.2.2 i0 i1 0 0 (ww_at i0 hi0 he0) (ww_at i1 hi1 he1) rfl rfl rfl (nI_pos (by omega)) (nI_pos (by omega)) (nI_pos (by omega)) ?_ ?_ (fun _ _ => rfl) hfr hlo hdg (fun H1 locs1 h1 h2 h3 => ?_)
  · rw [nI_clamp (by omega), nI_clamp (by omega)]; exact h4
  · rw [nI_clamp (by omega), nI_clamp (by omega)]; exact h5
  · rw [ww_set, nI_clamp (by omega), nI_clamp (by omega), nI_clamp (by omega), cpy_na] at h1 h2
    exact kk H1 locs1 ⟨h1, h2, h3⟩
end Layer5
def ldStep (T : Nat) (M : Nat → Nat → Nat) (i : Nat) (BM : Nat → Nat → Nat) : Nat → Nat → Nat := va_up BM i (va_cpy (M i) (BM i) 0 0 T)
def vlN (BM : Nat → Nat → Nat) (pl : Nat → Nat) (i : Nat) (v : Nat) : Nat := fr (fun j a => a ^^^ BM (pl j) i) v 0
theorem learnR_cases (pw ex : Nat → Nat) (L T : Nat) (s : EqS) : learnR pw ex L T s = -1 ∨ learnR pw ex L T s = 0 ∨ learnR pw ex L T s = 1 := by
  cases hq : learnQ pw ex L T s with
  | zero =>
    rw [(learn_0 hq).2]
    split
    · exact Or.inl rfl
    · exact Or.inr (Or.inl rfl)
  | succ q => rw [(learn_1 hq).2]; exact Or.inr (Or.inr rfl)

abbrev rm_X0_load : Room := { frames := 1, cells := 0, slots := 0, locals := 60 }

set_option maxHeartbeats 800000 in
set_option maxRecDepth 100000 in
/-- Block.load -/
theorem c_X0_load {l : Launch} {D : va_G} {ca : Nat → ClassId} {tB tS R : Nat} {ad : Nat → Nat} {g : Nat → va_E} {sz : Nat} (hR : 197 < R) (bk bt btn : Nat) (BM : Nat → Nat → Nat) (hB : BlkAt ca ad g bk bt btn BM) (L T : Nat) (sv : EqS) (hE : EqAtS ca ad g 8 1 L T sv) (hL : L ≤ 59) (hT : T ≤ 16) (k t : Nat) : MV l yX0_load cX0_load 5 rm_X0_load D ca tB tS R ad g sz [.ref (ad 73), .ref (ad 8), .int (nI k), .int (nI t)] (fun g1 => (∀ z, (z < 73 ∨ 133 < z) → g1 z = g z) ∧ BlkAt ca ad g1 k T t (fr (ldStep T sv.2.1) L BM)) := by
  refine m_startV (by decide +kernel) (Nat.le_of_ble_eq_true rfl) (fun p e s m args below meth c ls Q hsz C hnm hl F hw hret => ?_)
  have hl : lv_has ls 5 [(0, .ref (ad 73)), (1, .ref (ad 8)), (2, .int (nI k)), (3, .int (nI t))] := hl
  generalize s.heap = H at hw ⊢
  generalize ([] : List Loc) = locs at hw ⊢
  refine lv_aload_n C.1 C.2.1 dX0_load_0 rfl (lv_at hl 0 rfl) ?_
  refine lv_iload_n C.1 C.2.1 dX0_load_1 rfl (lv_at hl 2 rfl) ?_
  refine k_put C F hw (73) (by omega) hB.1 rfl in_X0 tyX0_ok nmX0 1 (by decide) fl_X0_16 rfl (v := .int (nI k)) rfl rfl (Nat.le_of_ble_eq_true rfl) dX0_load_2 (fun H locs hw => ?_)
  have hw : Wd D (AA R ad sz) s R ad (va_up g (73) (.inr (0, [.ref (ad 74), .int (nI k), .int (nI bt), .int (nI btn)]))) H locs := hw
  obtain ⟨g1, hg1⟩ : ∃ z, z = va_up g (73) (.inr (0, [.ref (ad 74), .int (nI k), .int (nI bt), .int (nI btn)])) := ⟨_, rfl⟩
  rw [← hg1] at hw
  have hk2 : ∀ z, z ≠ 73 → g1 z = g z := fun z hz => by rw [hg1]; exact va_up_ne _ _ hz
  have e3 : g1 (73) = .inr (0, [.ref (ad 74), .int (nI k), .int (nI bt), .int (nI btn)]) := by rw [hg1]; exact va_up_self _ _ _
  have e4 : g1 (8) = .inr (2, [.ref (ad 1), .ref (ad (8 + 1)), .ref (ad (8 + 61)), .ref (ad (8 + 62)), .int (nI L), .int (nI T), .int (nI (sv.1))]) := (hk2 _ (by omega)).trans hE.1
  have e5 : g1 (8 + 1) = qa ca 59 (fun i => if i < 59 then some (ad (8 + 2 + i)) else none) := (hk2 _ (by omega)).trans hE.2.1
  have e6 : g1 (8 + 61) = za ca 59 (sv.2.2.1) := (hk2 _ (by omega)).trans hE.2.2.2.1
  have e7 : g1 (8 + 62) = na ca 75 (sv.2.2.2) := (hk2 _ (by omega)).trans hE.2.2.2.2
  have e8 : g1 (74) = qa ca 59 (fun i => if i < 59 then some (ad (75 + i)) else none) := (hk2 _ (by omega)).trans hB.2.1
  have hr9 : ∀ p9, p9 < 59 → g1 (8 + 2 + p9) = na ca 75 (sv.2.1 p9) := fun p9 hp9 => (hk2 _ (by omega)).trans (hE.2.2.1 p9 hp9)
  have hr10 : ∀ p9, p9 < 59 → g1 (75 + p9) = na ca 16 (BM p9) := fun p9 hp9 => (hk2 _ (by omega)).trans (hB.2.2 p9 hp9)
  have hs11 : ∀ z, (z < 73 ∨ 133 < z) → g1 z = g z := fun z hz => hk2 z (by omega)
  refine lv_aload_n C.1 C.2.1 dX0_load_5 rfl (lv_at hl 0 rfl) ?_
  refine lv_iload_n C.1 C.2.1 dX0_load_6 rfl (lv_at hl 3 rfl) ?_
  refine k_put C F hw (73) (by omega) e3 rfl in_X0 tyX0_ok nmX0 3 (by decide) fl_X0_23 rfl (v := .int (nI t)) rfl rfl (Nat.le_of_ble_eq_true rfl) dX0_load_7 (fun H locs hw => ?_)
  have hw : Wd D (AA R ad sz) s R ad (va_up g1 (73) (.inr (0, [.ref (ad 74), .int (nI k), .int (nI bt), .int (nI t)]))) H locs := hw
  obtain ⟨g12, hg12⟩ : ∃ z, z = va_up g1 (73) (.inr (0, [.ref (ad 74), .int (nI k), .int (nI bt), .int (nI t)])) := ⟨_, rfl⟩
  rw [← hg12] at hw
  have hk13 : ∀ z, z ≠ 73 → g12 z = g1 z := fun z hz => by rw [hg12]; exact va_up_ne _ _ hz
  have e14 : g12 (73) = .inr (0, [.ref (ad 74), .int (nI k), .int (nI bt), .int (nI t)]) := by rw [hg12]; exact va_up_self _ _ _
  have e15 : g12 (8) = .inr (2, [.ref (ad 1), .ref (ad (8 + 1)), .ref (ad (8 + 61)), .ref (ad (8 + 62)), .int (nI L), .int (nI T), .int (nI (sv.1))]) := (hk13 _ (by omega)).trans e4
  have e16 : g12 (8 + 1) = qa ca 59 (fun i => if i < 59 then some (ad (8 + 2 + i)) else none) := (hk13 _ (by omega)).trans e5
  have e17 : g12 (8 + 61) = za ca 59 (sv.2.2.1) := (hk13 _ (by omega)).trans e6
  have e18 : g12 (8 + 62) = na ca 75 (sv.2.2.2) := (hk13 _ (by omega)).trans e7
  have e19 : g12 (74) = qa ca 59 (fun i => if i < 59 then some (ad (75 + i)) else none) := (hk13 _ (by omega)).trans e8
  have hr20 : ∀ p9, p9 < 59 → g12 (8 + 2 + p9) = na ca 75 (sv.2.1 p9) := fun p9 hp9 => (hk13 _ (by omega)).trans (hr9 p9 hp9)
  have hr21 : ∀ p9, p9 < 59 → g12 (75 + p9) = na ca 16 (BM p9) := fun p9 hp9 => (hk13 _ (by omega)).trans (hr10 p9 hp9)
  have hs22 : ∀ z, (z < 73 ∨ 133 < z) → g12 z = g z := fun z hz => (hk13 z (by omega)).trans (hs11 z hz)
  refine lv_aload_n C.1 C.2.1 dX0_load_10 rfl (lv_at hl 0 rfl) ?_
  refine lv_aload_n C.1 C.2.1 dX0_load_11 rfl (lv_at hl 1 rfl) ?_
  refine k_getN C F hw (8) (by omega) e15 rfl in_X2 5 (by decide) fl_X0_26 rfl dX0_load_12 ?_
  refine k_put C F hw (73) (by omega) e14 rfl in_X0 tyX0_ok nmX0 2 (by decide) fl_X0_20 rfl (v := .int (nI T)) rfl rfl (Nat.le_of_ble_eq_true rfl) dX0_load_15 (fun H locs hw => ?_)
  have hw : Wd D (AA R ad sz) s R ad (va_up g12 (73) (.inr (0, [.ref (ad 74), .int (nI k), .int (nI T), .int (nI t)]))) H locs := hw
  obtain ⟨g23, hg23⟩ : ∃ z, z = va_up g12 (73) (.inr (0, [.ref (ad 74), .int (nI k), .int (nI T), .int (nI t)])) := ⟨_, rfl⟩
  rw [← hg23] at hw
  have hk24 : ∀ z, z ≠ 73 → g23 z = g12 z := fun z hz => by rw [hg23]; exact va_up_ne _ _ hz
  have e25 : g23 (73) = .inr (0, [.ref (ad 74), .int (nI k), .int (nI T), .int (nI t)]) := by rw [hg23]; exact va_up_self _ _ _
  have e26 : g23 (8) = .inr (2, [.ref (ad 1), .ref (ad (8 + 1)), .ref (ad (8 + 61)), .ref (ad (8 + 62)), .int (nI L), .int (nI T), .int (nI (sv.1))]) := (hk24 _ (by omega)).trans e15
  have e27 : g23 (8 + 1) = qa ca 59 (fun i => if i < 59 then some (ad (8 + 2 + i)) else none) := (hk24 _ (by omega)).trans e16
  have e28 : g23 (8 + 61) = za ca 59 (sv.2.2.1) := (hk24 _ (by omega)).trans e17
  have e29 : g23 (8 + 62) = na ca 75 (sv.2.2.2) := (hk24 _ (by omega)).trans e18
  have e30 : g23 (74) = qa ca 59 (fun i => if i < 59 then some (ad (75 + i)) else none) := (hk24 _ (by omega)).trans e19
  have hr31 : ∀ p9, p9 < 59 → g23 (8 + 2 + p9) = na ca 75 (sv.2.1 p9) := fun p9 hp9 => (hk24 _ (by omega)).trans (hr20 p9 hp9)
  have hr32 : ∀ p9, p9 < 59 → g23 (75 + p9) = na ca 16 (BM p9) := fun p9 hp9 => (hk24 _ (by omega)).trans (hr21 p9 hp9)
  have hs33 : ∀ z, (z < 73 ∨ 133 < z) → g23 z = g z := fun z hz => (hk24 z (by omega)).trans (hs22 z hz)
  refine k_icn C 0 dX0_load_18 (by decide) ?_
  refine lv_istore (lv' := [(4, .int (nI 0)), (0, .ref (ad 73)), (1, .ref (ad 8)), (2, .int (nI k)), (3, .int (nI t))]) C.1 C.2.1 dX0_load_19 hl (by decide) rfl (fun ls hl => ?_)
  have loop21 : ∀ (fuel : Nat) (i : Nat) (Bx : Nat → Nat → Nat) (gL : Nat → va_E) (H : Heap) (locs : List Loc) (ls : Array Slot), ((L - i) + 1 ≤ fuel) → (i ≤ L) → (Bx = fr (ldStep T sv.2.1) i BM) → (∀ z, (z < 73 ∨ 133 < z) → gL z = g z) → (gL (73) = .inr (0, [.ref (ad 74), .int (nI k), .int (nI T), .int (nI t)])) → (gL (74) = qa ca 59 (fun i => if i < 59 then some (ad (75 + i)) else none)) → (∀ p9, p9 < 59 → gL (75 + p9) = na ca 16 (Bx p9)) → Wd D (AA R ad sz) s R ad gL H locs → lv_has ls 5 [(0, .ref (ad 73)), (1, .ref (ad 8)), (2, .int (nI k)), (3, .int (nI t)), (4, .int (nI i))] → W p l e rm_X0_load s m args below meth c H locs 0 0 Q (F0 m 21 ls []) := by
    intro fuel
    induction fuel with
    | zero =>
      intro i Bx gL H locs ls hfu21
      exact absurd hfu21 (by omega)
    | succ fuel21 ih21 =>
      intro i Bx gL H locs ls hfu21 hi hBx hsL21 eL21_0 eL21_1 hrL21_1 hw hl
      have e34 : gL (8) = .inr (2, [.ref (ad 1), .ref (ad (8 + 1)), .ref (ad (8 + 61)), .ref (ad (8 + 62)), .int (nI L), .int (nI T), .int (nI (sv.1))]) := (hsL21 _ (by omega)).trans hE.1
      have e35 : gL (8 + 1) = qa ca 59 (fun i => if i < 59 then some (ad (8 + 2 + i)) else none) := (hsL21 _ (by omega)).trans hE.2.1
      have e36 : gL (8 + 61) = za ca 59 (sv.2.2.1) := (hsL21 _ (by omega)).trans hE.2.2.2.1
      have e37 : gL (8 + 62) = na ca 75 (sv.2.2.2) := (hsL21 _ (by omega)).trans hE.2.2.2.2
      have hr38 : ∀ p9, p9 < 59 → gL (8 + 2 + p9) = na ca 75 (sv.2.1 p9) := fun p9 hp9 => (hsL21 _ (by omega)).trans (hE.2.2.1 p9 hp9)
      refine lv_iload C.1 C.2.1 dX0_load_21 (lv_at hl 4 rfl) ?_
      refine lv_aload_n C.1 C.2.1 dX0_load_23 rfl (lv_at hl 1 rfl) ?_
      refine k_getN C F hw (8) (by omega) e34 rfl in_X2 4 (by decide) fl_X0_29 rfl dX0_load_24 ?_
      refine k_ige (tgt := 59) C dX0_load_27 (by decide) (by omega) (by omega) (fun hc27 => ?_) (fun hc27 => ?_)
      · exact hret H locs ls _ _ dX0_load_59 hw (⟨hsL21, eL21_0, eL21_1, by rw [← show i = L by omega, ← hBx]; exact hrL21_1⟩)
      · refine lv_aload_n C.1 C.2.1 dX0_load_30 rfl (lv_at hl 1 rfl) ?_
        refine k_getN C F hw (8) (by omega) e34 rfl in_X2 1 (by decide) fl_X0_32 rfl dX0_load_31 ?_
        refine lv_iload C.1 C.2.1 dX0_load_34 (lv_at hl 4 rfl) ?_
        refine k_aald C F hw (8 + 1) (by omega) e35 (a := ad (8 + 2 + i)) (i) (by omega) (by decide) (if_pos (by omega)) dX0_load_36 ?_
        refine k_icn C 0 dX0_load_37 (by decide) ?_
        refine lv_aload_n C.1 C.2.1 dX0_load_38 rfl (lv_at hl 0 rfl) ?_
        refine k_get C F hw (73) (by omega) eL21_0 rfl in_X0 0 (by decide) fl_X0_11 rfl dX0_load_39 ?_
        refine lv_iload C.1 C.2.1 dX0_load_42 (lv_at hl 4 rfl) ?_
        refine k_aald C F hw (74) (by omega) eL21_1 (a := ad (75 + i)) (i) (by omega) (by decide) (if_pos (by omega)) dX0_load_44 ?_
        refine k_icn C 0 dX0_load_45 (by decide) ?_
        refine lv_aload_n C.1 C.2.1 dX0_load_46 rfl (lv_at hl 0 rfl) ?_
        refine k_get C F hw (73) (by omega) eL21_0 rfl in_X0 2 (by decide) fl_X0_20 rfl dX0_load_47 ?_
        refine k_copy C F hw hl.1 (8 + 2 + i) (75 + i) (by omega) (by omega) (hr38 i (by omega)) (hrL21_1 i (by omega)) 0 0 T (by omega) (by omega) (by decide) (by decide) (Nat.le_of_ble_eq_true rfl) dX0_load_50 (fun H locs hw => ?_)
        have hw : Wd D (AA R ad sz) s R ad (va_up gL (75 + i) (na ca 16 (va_cpy (sv.2.1 i) (Bx i) 0 0 T))) H locs := hw
        obtain ⟨g39, hg39⟩ : ∃ z, z = va_up gL (75 + i) (na ca 16 (va_cpy (sv.2.1 i) (Bx i) 0 0 T)) := ⟨_, rfl⟩
        rw [← hg39] at hw
        have hk40 : ∀ z, z ≠ (75 + i) → g39 z = gL z := fun z hz => by rw [hg39]; exact va_up_ne _ _ hz
        have e41 : g39 (75 + i) = na ca 16 (va_cpy (sv.2.1 i) (Bx i) 0 0 T) := by rw [hg39]; exact va_up_self _ _ _
        have e42 : g39 (8) = .inr (2, [.ref (ad 1), .ref (ad (8 + 1)), .ref (ad (8 + 61)), .ref (ad (8 + 62)), .int (nI L), .int (nI T), .int (nI (sv.1))]) := (hk40 _ (by omega)).trans e34
        have e43 : g39 (8 + 1) = qa ca 59 (fun i => if i < 59 then some (ad (8 + 2 + i)) else none) := (hk40 _ (by omega)).trans e35
        have e44 : g39 (8 + 61) = za ca 59 (sv.2.2.1) := (hk40 _ (by omega)).trans e36
        have e45 : g39 (8 + 62) = na ca 75 (sv.2.2.2) := (hk40 _ (by omega)).trans e37
        have e46 : g39 (73) = .inr (0, [.ref (ad 74), .int (nI k), .int (nI T), .int (nI t)]) := (hk40 _ (by omega)).trans eL21_0
        have e47 : g39 (74) = qa ca 59 (fun i => if i < 59 then some (ad (75 + i)) else none) := (hk40 _ (by omega)).trans eL21_1
        have hr48 : ∀ p9, p9 < 59 → g39 (8 + 2 + p9) = na ca 75 (sv.2.1 p9) := fun p9 hp9 => (hk40 _ (by omega)).trans (hr38 p9 hp9)
        have hr49 : ∀ p9, p9 < 59 → g39 (75 + p9) = na ca 16 ((va_up Bx i (va_cpy (sv.2.1 i) (Bx i) 0 0 T)) p9) := fun p9 hp9 => by
          by_cases h9 : p9 = i
          · subst h9; rw [e41, va_up_self]
          · rw [hk40 _ (by omega), va_up_ne _ _ h9]; exact hrL21_1 p9 hp9
        have hs50 : ∀ z, (z < 73 ∨ 133 < z) → g39 z = g z := fun z hz => (hk40 z (by omega)).trans (hsL21 z hz)
        refine k_inc C (i + 1) (lv' := [(4, .int (nI (i + 1))), (0, .ref (ad 73)), (1, .ref (ad 8)), (2, .int (nI k)), (3, .int (nI t))]) dX0_load_53 hl (k := 4) rfl (inc1 _) (by decide) rfl (fun ls hl => ?_)
        refine lv_goto (tgt := 21) C.1 C.2.1 dX0_load_56 (by decide) ?_
        exact ih21 (i + 1) (va_up Bx i (va_cpy (sv.2.1 i) (Bx i) 0 0 T)) g39 H locs ls (by omega) (by omega) (by rw [fr_s, ← hBx]; rfl) hs50 e46 e47 hr49 hw (lv_sub hl [1, 2, 3, 4, 0] rfl)
  exact loop21 _ 0 BM g23 H locs ls (Nat.le_refl _) (by omega) ((fr_0 _ _).symm) hs33 e25 e30 hr32 hw (lv_sub hl [1, 2, 3, 4, 0] rfl)

abbrev rm_X0_valueOf : Room := { frames := 0, cells := 0, slots := 0, locals := 0 }

set_option maxHeartbeats 800000 in
set_option maxRecDepth 100000 in
/-- Block.valueOf -/
theorem c_X0_valueOf {l : Launch} {D : va_G} {ca : Nat → ClassId} {tB tS R : Nat} {ad : Nat → Nat} {g : Nat → va_E} {sz : Nat} (hR : 197 < R) (bk bt btn : Nat) (BM : Nat → Nat → Nat) (hB : BlkAt ca ad g bk bt btn BM) (v : Nat) (pl : Nat → Nat) (hK : PkAt ca ad g 6 v pl) (hv : v ≤ 59) (hpl : ∀ j, j < v → pl j < 59) (i : Nat) (hi : i < 16) : MI l yX0_valueOf cX0_valueOf 5 .int rm_X0_valueOf D ca tB tS R ad g sz [.ref (ad 73), .ref (ad 6), .int (nI i)] (fun r g1 => r = nI (vlN BM pl i v) ∧ g1 = g) := by
  refine m_startI (by decide +kernel) (Nat.le_of_ble_eq_true rfl) (fun p e s m args below meth c ls Q hsz C hl F hw hret => ?_)
  have hl : lv_has ls 5 [(0, .ref (ad 73)), (1, .ref (ad 6)), (2, .int (nI i))] := hl
  generalize s.heap = H at hw ⊢
  generalize ([] : List Loc) = locs at hw ⊢
  refine k_icn C 0 dX0_valueOf_0 (by decide) ?_
  refine lv_istore_n (lv' := [(3, .int (nI 0)), (0, .ref (ad 73)), (1, .ref (ad 6)), (2, .int (nI i))]) C.1 C.2.1 dX0_valueOf_1 rfl hl (by decide) rfl (fun ls hl => ?_)
  refine k_icn C 0 dX0_valueOf_2 (by decide) ?_
  refine lv_istore (lv' := [(4, .int (nI 0)), (3, .int (nI 0)), (0, .ref (ad 73)), (1, .ref (ad 6)), (2, .int (nI i))]) C.1 C.2.1 dX0_valueOf_3 hl (by decide) rfl (fun ls hl => ?_)
  have loop5 : ∀ (fuel : Nat) (j : Nat) (gL : Nat → va_E) (H : Heap) (locs : List Loc) (ls : Array Slot), ((v - j) + 1 ≤ fuel) → (j ≤ v) → (∀ z, True → gL z = g z) → Wd D (AA R ad sz) s R ad gL H locs → lv_has ls 5 [(0, .ref (ad 73)), (1, .ref (ad 6)), (2, .int (nI i)), (3, .int (nI (vlN BM pl i j))), (4, .int (nI j))] → W p l e rm_X0_valueOf s m args below meth c H locs 0 0 Q (F0 m 5 ls []) := by
    intro fuel
    induction fuel with
    | zero =>
      intro j gL H locs ls hfu5
      exact absurd hfu5 (by omega)
    | succ fuel5 ih5 =>
      intro j gL H locs ls hfu5 hj hsL5  hw hl
      have e1 : gL (73) = .inr (0, [.ref (ad 74), .int (nI bk), .int (nI bt), .int (nI btn)]) := (hsL5 _ trivial).trans hB.1
      have e2 : gL (74) = qa ca 59 (fun i => if i < 59 then some (ad (75 + i)) else none) := (hsL5 _ trivial).trans hB.2.1
      have e3 : gL (6) = .inr (4, [.ref (ad (6 + 1)), .int (nI v)]) := (hsL5 _ trivial).trans hK.1
      have e4 : gL (6 + 1) = na ca 59 (pl) := (hsL5 _ trivial).trans hK.2
      have hr5 : ∀ p9, p9 < 59 → gL (75 + p9) = na ca 16 (BM p9) := fun p9 hp9 => (hsL5 _ trivial).trans (hB.2.2 p9 hp9)
      refine lv_iload C.1 C.2.1 dX0_valueOf_5 (lv_at hl 4 rfl) ?_
      refine lv_aload_n C.1 C.2.1 dX0_valueOf_7 rfl (lv_at hl 1 rfl) ?_
      refine k_getN C F hw (6) (by omega) e3 rfl in_X4 1 (by decide) fl_X0_41 rfl dX0_valueOf_8 ?_
      refine k_ige (tgt := 37) C dX0_valueOf_11 (by decide) (by omega) (by omega) (fun hc11 => ?_) (fun hc11 => ?_)
      · refine lv_iload_n C.1 C.2.1 dX0_valueOf_37 rfl (lv_at hl 3 rfl) ?_
        exact hret H locs ls _ _ _ dX0_valueOf_38 hw (⟨by rw [show j = v by omega], funext (fun z => hsL5 z trivial)⟩)
      · refine lv_iload_n C.1 C.2.1 dX0_valueOf_14 rfl (lv_at hl 3 rfl) ?_
        refine lv_aload_n C.1 C.2.1 dX0_valueOf_15 rfl (lv_at hl 0 rfl) ?_
        refine k_get C F hw (73) (by omega) e1 rfl in_X0 0 (by decide) fl_X0_11 rfl dX0_valueOf_16 ?_
        refine lv_aload_n C.1 C.2.1 dX0_valueOf_19 rfl (lv_at hl 1 rfl) ?_
        refine k_getN C F hw (6) (by omega) e3 rfl in_X4 0 (by decide) fl_X0_46 rfl dX0_valueOf_20 ?_
        refine lv_iload C.1 C.2.1 dX0_valueOf_23 (lv_at hl 4 rfl) ?_
        refine k_iald C F hw (6 + 1) (by omega) e4 (j) (by omega) (by decide) dX0_valueOf_25 ?_
        have hpj := hpl j (by omega)
        refine k_aald C F hw (74) (by omega) e2 (a := ad (75 + pl j)) (pl j) (by omega) (by decide) (if_pos (by omega)) dX0_valueOf_26 ?_
        refine lv_iload_n C.1 C.2.1 dX0_valueOf_27 rfl (lv_at hl 2 rfl) ?_
        refine k_iald C F hw (75 + pl j) (by omega) (hr5 (pl j) (by omega)) (i) (by omega) (by decide) dX0_valueOf_28 ?_
        refine k_xor C dX0_valueOf_29 ?_
        refine k_ti (x' := nI (vlN BM pl i (j + 1))) (rfl) ?_
        refine lv_istore_n (lv' := [(3, .int (nI (vlN BM pl i (j + 1)))), (0, .ref (ad 73)), (1, .ref (ad 6)), (2, .int (nI i)), (4, .int (nI j))]) C.1 C.2.1 dX0_valueOf_30 rfl hl (by decide) rfl (fun ls hl => ?_)
        refine k_inc C (j + 1) (lv' := [(4, .int (nI (j + 1))), (3, .int (nI (vlN BM pl i (j + 1)))), (0, .ref (ad 73)), (1, .ref (ad 6)), (2, .int (nI i))]) dX0_valueOf_31 hl (k := 4) rfl (inc1 _) (by decide) rfl (fun ls hl => ?_)
        refine lv_goto (tgt := 5) C.1 C.2.1 dX0_valueOf_34 (by decide) ?_
        exact ih5 (j + 1) gL H locs ls (by omega) (by omega) hsL5  hw (lv_sub hl [2, 3, 4, 1, 0] rfl)
  exact loop5 _ 0 g H locs ls (Nat.le_refl _) (by omega) (fun z _ => rfl)  hw (lv_sub hl [2, 3, 4, 1, 0] rfl)

def CtAt (ca : Nat → ClassId) (ad : Nat → Nat) (g : Nat → va_E) (ck ct ctn cn : Nat) : Prop := g 134 = .inr (1, [.ref (ad 135), .int (nI ck), .int (nI ct), .int (nI ctn), .int (nI cn)])

abbrev rm_X1_begin : Room := { frames := 4, cells := 0, slots := 0, locals := 96 }

set_option maxHeartbeats 800000 in
set_option maxRecDepth 100000 in
/-- Catcher.begin -/
theorem c_X1_begin {l : Launch} {D : va_G} {ca : Nat → ClassId} {tB tS R : Nat} {ad : Nat → Nat} {g : Nat → va_E} {sz : Nat} (pw ex : Nat → Nat) (hF : FieldAt ca ad g 1 pw ex) (hX : ExOk ex) (hP : PwOk pw) (hR : 197 < R) (ck ct ctn cn : Nat) (hC : CtAt ca ad g ck ct ctn cn) (L0 T0 : Nat) (s0 : EqS) (hE : EqAtS ca ad g 135 1 L0 T0 s0) (hB0 : EqBy s0) (k t tn : Nat) (hk : 1 ≤ k ∧ k ≤ 48) (ht : t ≤ 16) : MV l yX1_begin cX1_begin 4 rm_X1_begin D ca tB tS R ad g sz [.ref (ad 134), .int (nI k), .int (nI t), .int (nI tn)] (fun g1 => (∀ z, z < 134 ∨ 197 < z → g1 z = g z) ∧ CtAt ca ad g1 k t tn 0 ∧ EqAtS ca ad g1 135 1 (k + 11) t (startS pw ex k t s0)) := by
  refine m_startV (by decide +kernel) (Nat.le_of_ble_eq_true rfl) (fun p e s m args below meth c ls Q hsz C hnm hl F hw hret => ?_)
  have hl : lv_has ls 4 [(0, .ref (ad 134)), (1, .int (nI k)), (2, .int (nI t)), (3, .int (nI tn))] := hl
  generalize s.heap = H at hw ⊢
  generalize ([] : List Loc) = locs at hw ⊢
  refine lv_aload_n C.1 C.2.1 dX1_begin_0 rfl (lv_at hl 0 rfl) ?_
  refine lv_iload_n C.1 C.2.1 dX1_begin_1 rfl (lv_at hl 1 rfl) ?_
  refine k_put C F hw (134) (by omega) hC rfl in_X1 tyX1_ok nmX1 1 (by decide) fl_X1_20 rfl (v := .int (nI k)) rfl rfl (Nat.le_of_ble_eq_true rfl) dX1_begin_2 (fun H locs hw => ?_)
  have hw : Wd D (AA R ad sz) s R ad (va_up g (134) (.inr (1, [.ref (ad 135), .int (nI k), .int (nI ct), .int (nI ctn), .int (nI cn)]))) H locs := hw
  obtain ⟨g1, hg1⟩ : ∃ z, z = va_up g (134) (.inr (1, [.ref (ad 135), .int (nI k), .int (nI ct), .int (nI ctn), .int (nI cn)])) := ⟨_, rfl⟩
  rw [← hg1] at hw
  have hk2 : ∀ z, z ≠ 134 → g1 z = g z := fun z hz => by rw [hg1]; exact va_up_ne _ _ hz
  have e3 : g1 (134) = .inr (1, [.ref (ad 135), .int (nI k), .int (nI ct), .int (nI ctn), .int (nI cn)]) := by rw [hg1]; exact va_up_self _ _ _
  have e4 : g1 (135) = .inr (2, [.ref (ad 1), .ref (ad (135 + 1)), .ref (ad (135 + 61)), .ref (ad (135 + 62)), .int (nI L0), .int (nI T0), .int (nI (s0.1))]) := (hk2 _ (by omega)).trans hE.1
  have e5 : g1 (135 + 1) = qa ca 59 (fun i => if i < 59 then some (ad (135 + 2 + i)) else none) := (hk2 _ (by omega)).trans hE.2.1
  have e6 : g1 (135 + 61) = za ca 59 (s0.2.2.1) := (hk2 _ (by omega)).trans hE.2.2.2.1
  have e7 : g1 (135 + 62) = na ca 75 (s0.2.2.2) := (hk2 _ (by omega)).trans hE.2.2.2.2
  have e8 : g1 (1) = .inr (3, [.ref (ad (1 + 1)), .ref (ad (1 + 2))]) := (hk2 _ (by omega)).trans hF.1
  have e9 : g1 (1 + 1) = na ca 510 (pw) := (hk2 _ (by omega)).trans hF.2.1
  have e10 : g1 (1 + 2) = na ca 256 (ex) := (hk2 _ (by omega)).trans hF.2.2
  have hr11 : ∀ p9, p9 < 59 → g1 (135 + 2 + p9) = na ca 75 (s0.2.1 p9) := fun p9 hp9 => (hk2 _ (by omega)).trans (hE.2.2.1 p9 hp9)
  have hs12 : ∀ z, (z < 134 ∨ 197 < z) → g1 z = g z := fun z hz => hk2 z (by omega)
  refine lv_aload_n C.1 C.2.1 dX1_begin_5 rfl (lv_at hl 0 rfl) ?_
  refine lv_iload_n C.1 C.2.1 dX1_begin_6 rfl (lv_at hl 2 rfl) ?_
  refine k_put C F hw (134) (by omega) e3 rfl in_X1 tyX1_ok nmX1 2 (by decide) fl_X1_24 rfl (v := .int (nI t)) rfl rfl (Nat.le_of_ble_eq_true rfl) dX1_begin_7 (fun H locs hw => ?_)
  have hw : Wd D (AA R ad sz) s R ad (va_up g1 (134) (.inr (1, [.ref (ad 135), .int (nI k), .int (nI t), .int (nI ctn), .int (nI cn)]))) H locs := hw
  obtain ⟨g13, hg13⟩ : ∃ z, z = va_up g1 (134) (.inr (1, [.ref (ad 135), .int (nI k), .int (nI t), .int (nI ctn), .int (nI cn)])) := ⟨_, rfl⟩
  rw [← hg13] at hw
  have hk14 : ∀ z, z ≠ 134 → g13 z = g1 z := fun z hz => by rw [hg13]; exact va_up_ne _ _ hz
  have e15 : g13 (134) = .inr (1, [.ref (ad 135), .int (nI k), .int (nI t), .int (nI ctn), .int (nI cn)]) := by rw [hg13]; exact va_up_self _ _ _
  have e16 : g13 (135) = .inr (2, [.ref (ad 1), .ref (ad (135 + 1)), .ref (ad (135 + 61)), .ref (ad (135 + 62)), .int (nI L0), .int (nI T0), .int (nI (s0.1))]) := (hk14 _ (by omega)).trans e4
  have e17 : g13 (135 + 1) = qa ca 59 (fun i => if i < 59 then some (ad (135 + 2 + i)) else none) := (hk14 _ (by omega)).trans e5
  have e18 : g13 (135 + 61) = za ca 59 (s0.2.2.1) := (hk14 _ (by omega)).trans e6
  have e19 : g13 (135 + 62) = na ca 75 (s0.2.2.2) := (hk14 _ (by omega)).trans e7
  have e20 : g13 (1) = .inr (3, [.ref (ad (1 + 1)), .ref (ad (1 + 2))]) := (hk14 _ (by omega)).trans e8
  have e21 : g13 (1 + 1) = na ca 510 (pw) := (hk14 _ (by omega)).trans e9
  have e22 : g13 (1 + 2) = na ca 256 (ex) := (hk14 _ (by omega)).trans e10
  have hr23 : ∀ p9, p9 < 59 → g13 (135 + 2 + p9) = na ca 75 (s0.2.1 p9) := fun p9 hp9 => (hk14 _ (by omega)).trans (hr11 p9 hp9)
  have hs24 : ∀ z, (z < 134 ∨ 197 < z) → g13 z = g z := fun z hz => (hk14 z (by omega)).trans (hs12 z hz)
  refine lv_aload_n C.1 C.2.1 dX1_begin_10 rfl (lv_at hl 0 rfl) ?_
  refine lv_iload_n C.1 C.2.1 dX1_begin_11 rfl (lv_at hl 3 rfl) ?_
  refine k_put C F hw (134) (by omega) e15 rfl in_X1 tyX1_ok nmX1 3 (by decide) fl_X1_27 rfl (v := .int (nI tn)) rfl rfl (Nat.le_of_ble_eq_true rfl) dX1_begin_12 (fun H locs hw => ?_)
  have hw : Wd D (AA R ad sz) s R ad (va_up g13 (134) (.inr (1, [.ref (ad 135), .int (nI k), .int (nI t), .int (nI tn), .int (nI cn)]))) H locs := hw
  obtain ⟨g25, hg25⟩ : ∃ z, z = va_up g13 (134) (.inr (1, [.ref (ad 135), .int (nI k), .int (nI t), .int (nI tn), .int (nI cn)])) := ⟨_, rfl⟩
  rw [← hg25] at hw
  have hk26 : ∀ z, z ≠ 134 → g25 z = g13 z := fun z hz => by rw [hg25]; exact va_up_ne _ _ hz
  have e27 : g25 (134) = .inr (1, [.ref (ad 135), .int (nI k), .int (nI t), .int (nI tn), .int (nI cn)]) := by rw [hg25]; exact va_up_self _ _ _
  have e28 : g25 (135) = .inr (2, [.ref (ad 1), .ref (ad (135 + 1)), .ref (ad (135 + 61)), .ref (ad (135 + 62)), .int (nI L0), .int (nI T0), .int (nI (s0.1))]) := (hk26 _ (by omega)).trans e16
  have e29 : g25 (135 + 1) = qa ca 59 (fun i => if i < 59 then some (ad (135 + 2 + i)) else none) := (hk26 _ (by omega)).trans e17
  have e30 : g25 (135 + 61) = za ca 59 (s0.2.2.1) := (hk26 _ (by omega)).trans e18
  have e31 : g25 (135 + 62) = na ca 75 (s0.2.2.2) := (hk26 _ (by omega)).trans e19
  have e32 : g25 (1) = .inr (3, [.ref (ad (1 + 1)), .ref (ad (1 + 2))]) := (hk26 _ (by omega)).trans e20
  have e33 : g25 (1 + 1) = na ca 510 (pw) := (hk26 _ (by omega)).trans e21
  have e34 : g25 (1 + 2) = na ca 256 (ex) := (hk26 _ (by omega)).trans e22
  have hr35 : ∀ p9, p9 < 59 → g25 (135 + 2 + p9) = na ca 75 (s0.2.1 p9) := fun p9 hp9 => (hk26 _ (by omega)).trans (hr23 p9 hp9)
  have hs36 : ∀ z, (z < 134 ∨ 197 < z) → g25 z = g z := fun z hz => (hk26 z (by omega)).trans (hs24 z hz)
  refine lv_aload_n C.1 C.2.1 dX1_begin_15 rfl (lv_at hl 0 rfl) ?_
  refine k_icn C 0 dX1_begin_16 (by decide) ?_
  refine k_put C F hw (134) (by omega) e27 rfl in_X1 tyX1_ok nmX1 4 (by decide) fl_X1_30 rfl (v := .int (nI 0)) rfl rfl (Nat.le_of_ble_eq_true rfl) dX1_begin_17 (fun H locs hw => ?_)
  have hw : Wd D (AA R ad sz) s R ad (va_up g25 (134) (.inr (1, [.ref (ad 135), .int (nI k), .int (nI t), .int (nI tn), .int (nI 0)]))) H locs := hw
  obtain ⟨g37, hg37⟩ : ∃ z, z = va_up g25 (134) (.inr (1, [.ref (ad 135), .int (nI k), .int (nI t), .int (nI tn), .int (nI 0)])) := ⟨_, rfl⟩
  rw [← hg37] at hw
  have hk38 : ∀ z, z ≠ 134 → g37 z = g25 z := fun z hz => by rw [hg37]; exact va_up_ne _ _ hz
  have e39 : g37 (134) = .inr (1, [.ref (ad 135), .int (nI k), .int (nI t), .int (nI tn), .int (nI 0)]) := by rw [hg37]; exact va_up_self _ _ _
  have e40 : g37 (135) = .inr (2, [.ref (ad 1), .ref (ad (135 + 1)), .ref (ad (135 + 61)), .ref (ad (135 + 62)), .int (nI L0), .int (nI T0), .int (nI (s0.1))]) := (hk38 _ (by omega)).trans e28
  have e41 : g37 (135 + 1) = qa ca 59 (fun i => if i < 59 then some (ad (135 + 2 + i)) else none) := (hk38 _ (by omega)).trans e29
  have e42 : g37 (135 + 61) = za ca 59 (s0.2.2.1) := (hk38 _ (by omega)).trans e30
  have e43 : g37 (135 + 62) = na ca 75 (s0.2.2.2) := (hk38 _ (by omega)).trans e31
  have e44 : g37 (1) = .inr (3, [.ref (ad (1 + 1)), .ref (ad (1 + 2))]) := (hk38 _ (by omega)).trans e32
  have e45 : g37 (1 + 1) = na ca 510 (pw) := (hk38 _ (by omega)).trans e33
  have e46 : g37 (1 + 2) = na ca 256 (ex) := (hk38 _ (by omega)).trans e34
  have hr47 : ∀ p9, p9 < 59 → g37 (135 + 2 + p9) = na ca 75 (s0.2.1 p9) := fun p9 hp9 => (hk38 _ (by omega)).trans (hr35 p9 hp9)
  have hs48 : ∀ z, (z < 134 ∨ 197 < z) → g37 z = g z := fun z hz => (hk38 z (by omega)).trans (hs36 z hz)
  refine lv_aload_n C.1 C.2.1 dX1_begin_20 rfl (lv_at hl 0 rfl) ?_
  refine k_get C F hw (134) (by omega) e39 rfl in_X1 0 (by decide) fl_X1_14 rfl dX1_begin_21 ?_
  refine lv_iload_n C.1 C.2.1 dX1_begin_24 rfl (lv_at hl 1 rfl) ?_
  refine lv_iload_n C.1 C.2.1 dX1_begin_25 rfl (lv_at hl 2 rfl) ?_
  have hE49 : EqAt ca ad g37 135 1 L0 T0 s0.1 s0.2.1 s0.2.2.1 s0.2.2.2 := ⟨e40, e41, hr47, e42, e43⟩
  have hF50 : FieldAt ca ad g37 1 pw ex := ⟨e44, e45, e46⟩
  refine k_Vv C F hw (i := 135) (As := [.int (nI k), .int (nI t)]) (rest := []) (c_X2_start 135 1 L0 T0 s0.1 s0.2.1 s0.2.2.1 s0.2.2.2 hE49 (by omega) pw ex hF50 hX hP (by omega) hB0.1 hB0.2 k t hk ht) (by omega) e40 rfl (cwV _ C.2.2.2.2 gm_X1_33 rfl rfl rfl cd_X2_start ⟨by decide, by decide⟩) hl.1 rfl (Nat.le_of_ble_eq_true rfl) dX1_begin_26 ⟨by decide, by decide⟩ (fun g52 H locs hp hw => ?_)
  obtain ⟨hs53, hE54⟩ := hp
  have e55 : g52 (1) = .inr (3, [.ref (ad (1 + 1)), .ref (ad (1 + 2))]) := (hs53 _ (by omega)).trans e44
  have e56 : g52 (1 + 1) = na ca 510 (pw) := (hs53 _ (by omega)).trans e45
  have e57 : g52 (1 + 2) = na ca 256 (ex) := (hs53 _ (by omega)).trans e46
  have e58 : g52 (134) = .inr (1, [.ref (ad 135), .int (nI k), .int (nI t), .int (nI tn), .int (nI 0)]) := (hs53 _ (by omega)).trans e39
  have hs59 : ∀ z, (z < 134 ∨ 197 < z) → g52 z = g z := fun z hz => (hs53 z (by omega)).trans (hs48 z hz)
  have hE60 : EqAt ca ad g52 135 1 (k + 11) t ((startS pw ex k t s0).1) ((startS pw ex k t s0).2.1) ((startS pw ex k t s0).2.2.1) ((startS pw ex k t s0).2.2.2) := ⟨hE54.1, hE54.2.1, hE54.2.2.1, hE54.2.2.2.1, hE54.2.2.2.2⟩
  exact hret H locs ls _ _ dX1_begin_29 hw (⟨hs59, e58, hE60⟩)

abbrev rm_X1_catchLine : Room := { frames := 3, cells := 0, slots := 0, locals := 73 }

set_option maxHeartbeats 800000 in
set_option maxRecDepth 100000 in
/-- Catcher.catchLine -/
theorem c_X1_catchLine {l : Launch} {D : va_G} {ca : Nat → ClassId} {tB tS R : Nat} {ad : Nat → Nat} {g : Nat → va_E} {sz : Nat} (pw ex : Nat → Nat) (hF : FieldAt ca ad g 1 pw ex) (hX : ExOk ex) (hP : PwOk pw) (hR : 197 < R) (ck ct ctn cn : Nat) (hC : CtAt ca ad g ck ct ctn cn) (L T : Nat) (s0 : EqS) (hE : EqAtS ca ad g 135 1 L T s0) (hB0 : EqBy s0) (hL : 1 ≤ L ∧ L ≤ 59) (hT : T ≤ 16) : MI l yX1_catchLine cX1_catchLine 2 .int rm_X1_catchLine D ca tB tS R ad g sz [.ref (ad 134)] (fun r g1 => (∀ z, z < 134 ∨ 197 < z → g1 z = g z) ∧ r = learnR pw ex L T s0 ∧ CtAt ca ad g1 ck ct ctn (if learnR pw ex L T s0 = -1 then cn else cn + 1) ∧ EqAtS ca ad g1 135 1 L T (learnS pw ex L T s0)) := by
  refine m_startI (by decide +kernel) (Nat.le_of_ble_eq_true rfl) (fun p e s m args below meth c ls Q hsz C hl F hw hret => ?_)
  have hl : lv_has ls 2 [(0, .ref (ad 134))] := hl
  generalize s.heap = H at hw ⊢
  generalize ([] : List Loc) = locs at hw ⊢
  refine lv_aload_n C.1 C.2.1 dX1_catchLine_0 rfl (lv_at hl 0 rfl) ?_
  refine k_get C F hw (134) (by omega) hC rfl in_X1 0 (by decide) fl_X1_14 rfl dX1_catchLine_1 ?_
  have hE1 : EqAt ca ad g 135 1 L T s0.1 s0.2.1 s0.2.2.1 s0.2.2.2 := ⟨hE.1, hE.2.1, hE.2.2.1, hE.2.2.2.1, hE.2.2.2.2⟩
  have hF2 : FieldAt ca ad g 1 pw ex := ⟨hF.1, hF.2.1, hF.2.2⟩
  refine k_Vi C F hw (i := 135) (As := []) (rest := []) (c_X2_learn 135 1 (L) T s0.1 s0.2.1 s0.2.2.1 s0.2.2.2 hE1 (by omega) hL (by omega) pw ex hF2 hX hP (by omega) hB0.1 hB0.2) (by omega) hE.1 rfl (cwV _ C.2.2.2.2 gm_X1_37 rfl rfl rfl cd_X2_learn ⟨by decide, by decide⟩) hl.1 rfl (Nat.le_of_ble_eq_true rfl) dX1_catchLine_4 ⟨by decide, by decide⟩ (fun r3 g4 H locs hp hw => ?_)
  obtain ⟨hs5, hr9, hE6⟩ := hp
  have hr9 : r3 = learnR pw ex L T s0 := hr9
  subst hr9
  have e7 : g4 (1) = .inr (3, [.ref (ad (1 + 1)), .ref (ad (1 + 2))]) := (hs5 _ (by omega)).trans hF.1
  have e8 : g4 (1 + 1) = na ca 510 (pw) := (hs5 _ (by omega)).trans hF.2.1
  have e9 : g4 (1 + 2) = na ca 256 (ex) := (hs5 _ (by omega)).trans hF.2.2
  have e10 : g4 (134) = .inr (1, [.ref (ad 135), .int (nI ck), .int (nI ct), .int (nI ctn), .int (nI cn)]) := (hs5 _ (by omega)).trans hC
  have hs11 : ∀ z, (z < 134 ∨ 197 < z) → g4 z = g z := fun z hz => hs5 z (by omega)
  refine lv_istore_n (lv' := [(1, .int (learnR pw ex L T s0)), (0, .ref (ad 134))]) C.1 C.2.1 dX1_catchLine_7 rfl hl (by decide) rfl (fun ls hl => ?_)
  refine lv_iload_n C.1 C.2.1 dX1_catchLine_8 rfl (lv_at hl 0 rfl) ?_
  refine lv_iconst (v := -1) C.1 C.2.1 dX1_catchLine_9 (by decide) ?_
  refine lv_icmp_eq (tgt := 23) C.1 C.2.1 dX1_catchLine_10 (by decide) (fun hc10 => ?_) (fun hc10 => ?_)
  · refine lv_iload_n C.1 C.2.1 dX1_catchLine_23 rfl (lv_at hl 0 rfl) ?_
    have hE12 : EqAt ca ad g4 135 1 L T ((learnS pw ex L T s0).1) ((learnS pw ex L T s0).2.1) ((learnS pw ex L T s0).2.2.1) ((learnS pw ex L T s0).2.2.2) := ⟨hE6.1, hE6.2.1, hE6.2.2.1, hE6.2.2.2.1, hE6.2.2.2.2⟩
    exact hret H locs ls _ _ _ dX1_catchLine_24 hw (⟨hs11, rfl, by unfold CtAt; rw [if_pos hc10]; exact e10, hE12⟩)
  · refine lv_aload_n C.1 C.2.1 dX1_catchLine_13 rfl (lv_at hl 1 rfl) ?_
    refine lv_dup C.1 C.2.1 dX1_catchLine_14 rfl ?_
    refine k_get C F hw (134) (by omega) e10 rfl in_X1 4 (by decide) fl_X1_30 rfl dX1_catchLine_15 ?_
    refine k_icn C 1 dX1_catchLine_18 (by decide) ?_
    refine k_add C dX1_catchLine_19 ?_
    refine k_put C F hw (134) (by omega) e10 rfl in_X1 tyX1_ok nmX1 4 (by decide) fl_X1_30 rfl (v := .int (nI (cn + 1))) rfl rfl (Nat.le_of_ble_eq_true rfl) dX1_catchLine_20 (fun H locs hw => ?_)
    have hw : Wd D (AA R ad sz) s R ad (va_up g4 (134) (.inr (1, [.ref (ad 135), .int (nI ck), .int (nI ct), .int (nI ctn), .int (nI (cn + 1))]))) H locs := hw
    obtain ⟨g13, hg13⟩ : ∃ z, z = va_up g4 (134) (.inr (1, [.ref (ad 135), .int (nI ck), .int (nI ct), .int (nI ctn), .int (nI (cn + 1))])) := ⟨_, rfl⟩
    rw [← hg13] at hw
    have hk14 : ∀ z, z ≠ 134 → g13 z = g4 z := fun z hz => by rw [hg13]; exact va_up_ne _ _ hz
    have e15 : g13 (134) = .inr (1, [.ref (ad 135), .int (nI ck), .int (nI ct), .int (nI ctn), .int (nI (cn + 1))]) := by rw [hg13]; exact va_up_self _ _ _
    have e16 : g13 (1) = .inr (3, [.ref (ad (1 + 1)), .ref (ad (1 + 2))]) := (hk14 _ (by omega)).trans e7
    have e17 : g13 (1 + 1) = na ca 510 (pw) := (hk14 _ (by omega)).trans e8
    have e18 : g13 (1 + 2) = na ca 256 (ex) := (hk14 _ (by omega)).trans e9
    have e19 : g13 (135) = .inr (2, [.ref (ad 1), .ref (ad (135 + 1)), .ref (ad (135 + 61)), .ref (ad (135 + 62)), .int (nI L), .int (nI T), .int (nI ((learnS pw ex L T s0).1))]) := (hk14 _ (by omega)).trans hE6.1
    have e20 : g13 (135 + 1) = qa ca 59 (fun i => if i < 59 then some (ad (135 + 2 + i)) else none) := (hk14 _ (by omega)).trans hE6.2.1
    have e21 : g13 (135 + 61) = za ca 59 ((learnS pw ex L T s0).2.2.1) := (hk14 _ (by omega)).trans hE6.2.2.2.1
    have e22 : g13 (135 + 62) = na ca 75 ((learnS pw ex L T s0).2.2.2) := (hk14 _ (by omega)).trans hE6.2.2.2.2
    have hr23 : ∀ p9, p9 < 59 → g13 (135 + 2 + p9) = na ca 75 (((learnS pw ex L T s0).2.1) p9) := fun p9 hp9 => (hk14 _ (by omega)).trans (hE6.2.2.1 p9 hp9)
    have hs24 : ∀ z, (z < 134 ∨ 197 < z) → g13 z = g z := fun z hz => (hk14 z (by omega)).trans (hs11 z hz)
    refine lv_iload_n C.1 C.2.1 dX1_catchLine_23 rfl (lv_at hl 0 rfl) ?_
    have hE25 : EqAt ca ad g13 135 1 L T ((learnS pw ex L T s0).1) ((learnS pw ex L T s0).2.1) ((learnS pw ex L T s0).2.2.1) ((learnS pw ex L T s0).2.2.2) := ⟨e19, e20, hr23, e21, e22⟩
    exact hret H locs ls _ _ _ dX1_catchLine_24 hw (⟨hs24, rfl, by unfold CtAt; rw [if_neg hc10]; exact e15, hE25⟩)
