/-! ===== Turns (roles: field 1, packet 6, work 8, turns 71) ===== -/
abbrev FlS : Type := EqS × (Nat → Nat) × Nat
noncomputable def flIn (k t i : Nat) (s : FlS) : EqS := (s.1.1, s.1.2.1, s.1.2.2.1, lnPk 0 (pkOut k i t s.2.1).2.1 (pkOut k i t s.2.1).1 s.1.2.2.2)
noncomputable def flSt (pw ex : Nat → Nat) (k t i : Nat) (s : FlS) : FlS := (learnS pw ex (k + 11) 0 (flIn k t i s), (pkOut k i t s.2.1).1, (pkOut k i t s.2.1).2.1)
theorem flSt_1 (pw ex : Nat → Nat) (k t i : Nat) (s : FlS) : (flSt pw ex k t i s).1 = learnS pw ex (k + 11) 0 (flIn k t i s) := rfl
theorem flSt_by {pw ex : Nat → Nat} {k t i : Nat} {s : FlS} (hp : PwOk pw) (h : EqBy s.1) : EqBy (flSt pw ex k t i s).1 := by
  rw [flSt_1]
  exact learnS_by hp ⟨h.1, By.pk h.2⟩
theorem flSt_rk {pw ex : Nat → Nat} {k t i n : Nat} {s : FlS} (h : s.1.1 ≤ n) : (flSt pw ex k t i s).1.1 ≤ n + 1 := by
  rw [flSt_1]
  exact Nat.le_trans (learnS_rk pw ex (k + 11) 0 (flIn k t i s)) (Nat.succ_le_succ h)
noncomputable def flR (pw ex : Nat → Nat) (k t i : Nat) (s : FlS) : Int32 := learnR pw ex (k + 11) 0 (flIn k t i s)
noncomputable def flAt (pw ex : Nat → Nat) (k t : Nat) (s : EqS) (pl : Nat → Nat) (i : Nat) : FlS := fr (flSt pw ex k t) i (startS pw ex k 0 s, pl, 0)
theorem flAt_s (pw ex : Nat → Nat) (k t : Nat) (s : EqS) (pl : Nat → Nat) (i : Nat) : flAt pw ex k t s pl (i + 1) = flSt pw ex k t i (flAt pw ex k t s pl i) := by
  unfold flAt
  rw [fr_s]
theorem flAt_0 (pw ex : Nat → Nat) (k t : Nat) (s : EqS) (pl : Nat → Nat) : flAt pw ex k t s pl 0 = (startS pw ex k 0 s, pl, 0) := by
  unfold flAt
  rw [fr_0]
noncomputable def fillB (pw ex : Nat → Nat) (k t : Nat) (s : EqS) (pl : Nat → Nat) : Bool := by
  classical
  exact decide (∀ i, i < k → flR pw ex k t i (flAt pw ex k t s pl i) = 1)
theorem fillB_t {pw ex : Nat → Nat} {k t : Nat} {s : EqS} {pl : Nat → Nat} (h : ∀ i, i < k → flR pw ex k t i (flAt pw ex k t s pl i) = 1) : fillB pw ex k t s pl = true := by
  unfold fillB
  exact decide_eq_true h
theorem fillB_f {pw ex : Nat → Nat} {k t : Nat} {s : EqS} {pl : Nat → Nat} {i : Nat} (hi : i < k) (h : flR pw ex k t i (flAt pw ex k t s pl i) ≠ 1) : fillB pw ex k t s pl = false := by
  unfold fillB
  exact decide_eq_false (fun z => h (z i hi))
def tnF (fb : Nat → Bool) : Nat → Nat → Nat
  | 0, t => t
  | n + 1, t => if fb t = true then t else tnF fb n (t + 1)
def tnN (fb : Nat → Bool) : Nat := tnF fb 1000 0
theorem tnF_le (fb : Nat → Bool) : ∀ n t, tnF fb n t ≤ t + n
  | 0, t => Nat.le_refl _
  | n + 1, t => by
    unfold tnF
    split
    · omega
    · have := tnF_le fb n (t + 1); omega
theorem tnN_le (fb : Nat → Bool) : tnN fb ≤ 1000 := by have := tnF_le fb 1000 0; unfold tnN; omega
theorem startS_by {pw ex : Nat → Nat} {k T : Nat} {s : EqS} (hp : PwOk pw) (h : EqBy s) : EqBy (startS pw ex k T s) ∧ (startS pw ex k T s).1 ≤ 11 := by
  have h1 : ∀ n, EqBy (fr (stSum pw ex k T) n (0, s.2.1, (fun p => if p < 59 then false else s.2.2.1 p), s.2.2.2)) ∧ (fr (stSum pw ex k T) n (0, s.2.1, (fun p => if p < 59 then false else s.2.2.1 p), s.2.2.2)).1 ≤ n := by
    intro n
    induction n with
    | zero => exact ⟨h, Nat.le_refl _⟩
    | succ n ih =>
      rw [fr_s]
      refine ⟨learnS_by hp ⟨ih.1.1, By.sum ih.1.2⟩, ?_⟩
      have := learnS_rk pw ex (k + 11) T ((fr (stSum pw ex k T) n (0, s.2.1, (fun p => if p < 59 then false else s.2.2.1 p), s.2.2.2)).1, (fr (stSum pw ex k T) n (0, s.2.1, (fun p => if p < 59 then false else s.2.2.1 p), s.2.2.2)).2.1, (fr (stSum pw ex k T) n (0, s.2.1, (fun p => if p < 59 then false else s.2.2.1 p), s.2.2.2)).2.2.1, lnSum T k n (fr (stSum pw ex k T) n (0, s.2.1, (fun p => if p < 59 then false else s.2.2.1 p), s.2.2.2)).2.2.2)
      exact Nat.le_trans this (Nat.succ_le_succ ih.2)
  have h2 : ∀ n, EqBy (fr (stPow pw ex k T) n (fr (stSum pw ex k T) 7 (0, s.2.1, (fun p => if p < 59 then false else s.2.2.1 p), s.2.2.2))) ∧ (fr (stPow pw ex k T) n (fr (stSum pw ex k T) 7 (0, s.2.1, (fun p => if p < 59 then false else s.2.2.1 p), s.2.2.2))).1 ≤ 7 + n := by
    intro n
    induction n with
    | zero => rw [fr_0]; exact h1 7
    | succ n ih =>
      rw [fr_s]
      refine ⟨learnS_by hp ⟨ih.1.1, By.pow hp ih.1.2⟩, ?_⟩
      have := learnS_rk pw ex (k + 11) T ((fr (stPow pw ex k T) n (fr (stSum pw ex k T) 7 (0, s.2.1, (fun p => if p < 59 then false else s.2.2.1 p), s.2.2.2))).1, (fr (stPow pw ex k T) n (fr (stSum pw ex k T) 7 (0, s.2.1, (fun p => if p < 59 then false else s.2.2.1 p), s.2.2.2))).2.1, (fr (stPow pw ex k T) n (fr (stSum pw ex k T) 7 (0, s.2.1, (fun p => if p < 59 then false else s.2.2.1 p), s.2.2.2))).2.2.1, lnPow pw T k n (fr (stPow pw ex k T) n (fr (stSum pw ex k T) 7 (0, s.2.1, (fun p => if p < 59 then false else s.2.2.1 p), s.2.2.2))).2.2.2)
      exact Nat.le_trans this (by have := ih.2; omega)
  exact ⟨(h2 4).1, (h2 4).2⟩
/-- the places that find leaves are places -/
theorem pkRun_ok {L P st d : Nat} : ∀ (n : Nat) (s : (Nat → Nat) × Nat × Nat), (∀ j, j < s.2.1 → s.1 j < L) → s.2.1 ≤ d → (∀ j, j < (pkRun L P st d n s).2.1 → (pkRun L P st d n s).1 j < L) ∧ (pkRun L P st d n s).2.1 ≤ d
  | 0, s, h1, h2 => ⟨h1, h2⟩
  | n + 1, s, h1, h2 => by
    unfold pkRun
    split
    · rename_i hlt
      refine pkRun_ok n (pkStep L P st s) ?_ ?_
      · unfold pkStep
        by_cases ha : s.2.2 < L
        · simp only [ha, if_true]
          intro j hj
          by_cases hjs : j = s.2.1
          · rw [hjs, va_up_self]; exact ha
          · rw [va_up_ne _ _ hjs]; exact h1 j (by omega)
        · simp only [ha, if_false]
          exact h1
      · unfold pkStep
        by_cases ha : s.2.2 < L
        · simp only [ha, if_true]; omega
        · simp only [ha, if_false]; exact h2
    · exact ⟨h1, h2⟩
theorem pkOut_ok (k x t : Nat) (p0 : Nat → Nat) (hk : k ≤ 48) : (∀ j, j < (pkOut k x t p0).2.1 → (pkOut k x t p0).1 j < k + 11) ∧ (pkOut k x t p0).2.1 ≤ 59 ∧ (pkOut k x t p0).2.1 ≤ pkD k x t := by
  have h := pkRun_ok (L := k + 11) (P := lpN (k + 11)) (st := pkT k x t) (d := pkD k x t) (lpN (k + 11)) (p0, 0, pkA k x t) (fun j hj => absurd hj (Nat.not_lt_zero _)) (Nat.zero_le _)
  rw [← pkOut_eq] at h
  have hd : pkD k x t ≤ 59 := by unfold pkD; have := Nat.min_le_right (szN (chN (x + 65536 * t) 0 1000)) (k + 11); omega
  exact ⟨h.1, Nat.le_trans h.2 hd, h.2⟩
/-- what stands at 6 and 8, whatever it holds -/
def PkWf (ca : Nat → ClassId) (ad : Nat → Nat) (g : Nat → va_E) : Prop := ∃ (v : Nat) (pl : Nat → Nat), PkAt ca ad g 6 v pl
def WkWf (ca : Nat → ClassId) (ad : Nat → Nat) (g : Nat → va_E) : Prop := ∃ (L T : Nat) (s : EqS), EqAtS ca ad g 8 1 L T s ∧ EqBy s

abbrev rm_X6_fillsRank : Room := { frames := 4, cells := 0, slots := 0, locals := 96 }

set_option maxHeartbeats 800000 in
set_option maxRecDepth 100000 in
/-- Turns.fillsRank -/
theorem c_X6_fillsRank {l : Launch} {D : va_G} {ca : Nat → ClassId} {tB tS R : Nat} {ad : Nat → Nat} {g : Nat → va_E} {sz : Nat} (pw ex : Nat → Nat) (hF : FieldAt ca ad g 1 pw ex) (hX : ExOk ex) (hP : PwOk pw) (hR : 197 < R) (L0 T0 : Nat) (s0 : EqS) (hE : EqAtS ca ad g 8 1 L0 T0 s0) (hB0 : EqBy s0) (v0 : Nat) (pl0 : Nat → Nat) (hK : PkAt ca ad g 6 v0 pl0) (eT : g 71 = .inr (6, [.ref (ad 8), .ref (ad 6), .ref (ad 72)])) (k t : Nat) (hk : 1 ≤ k ∧ k ≤ 48) (ht : t < 1000) : MI l yX6_fillsRank cX6_fillsRank 4 .boolean rm_X6_fillsRank D ca tB tS R ad g sz [.ref (ad 71), .int (nI k), .int (nI t)] (fun r g1 => (∀ z, (z < 6 ∨ 70 < z) → g1 z = g z) ∧ r = bI (fillB pw ex k t s0 pl0) ∧ WkWf ca ad g1 ∧ PkWf ca ad g1) := by
  refine m_startZ (by decide +kernel) (Nat.le_of_ble_eq_true rfl) (fun p e s m args below meth c ls Q hsz C hl F hw hret => ?_)
  have hl : lv_has ls 4 [(0, .ref (ad 71)), (1, .int (nI k)), (2, .int (nI t))] := hl
  generalize s.heap = H at hw ⊢
  generalize ([] : List Loc) = locs at hw ⊢
  refine lv_aload_n C.1 C.2.1 dX6_fillsRank_0 rfl (lv_at hl 0 rfl) ?_
  refine k_get C F hw (71) (by omega) eT rfl in_X6 0 (by decide) fl_X6_9 rfl dX6_fillsRank_1 ?_
  refine lv_iload_n C.1 C.2.1 dX6_fillsRank_4 rfl (lv_at hl 1 rfl) ?_
  refine k_icn C 0 dX6_fillsRank_5 (by decide) ?_
  have hE1 : EqAt ca ad g 8 1 L0 T0 s0.1 s0.2.1 s0.2.2.1 s0.2.2.2 := ⟨hE.1, hE.2.1, hE.2.2.1, hE.2.2.2.1, hE.2.2.2.2⟩
  have hF2 : FieldAt ca ad g 1 pw ex := ⟨hF.1, hF.2.1, hF.2.2⟩
  refine k_Vv C F hw (i := 8) (As := [.int (nI k), .int (nI 0)]) (rest := []) (c_X2_start 8 1 L0 T0 s0.1 s0.2.1 s0.2.2.1 s0.2.2.2 hE1 (by omega) pw ex hF2 hX hP (by omega) hB0.1 hB0.2 k 0 hk (by omega)) (by omega) hE.1 rfl (cwV _ C.2.2.2.2 gm_X6_33 rfl rfl rfl cd_X2_start ⟨by decide, by decide⟩) hl.1 rfl (Nat.le_of_ble_eq_true rfl) dX6_fillsRank_6 ⟨by decide, by decide⟩ (fun g4 H locs hp hw => ?_)
  obtain ⟨hs5, hE6⟩ := hp
  have e7 : g4 (1) = .inr (3, [.ref (ad (1 + 1)), .ref (ad (1 + 2))]) := (hs5 _ (by omega)).trans hF.1
  have e8 : g4 (1 + 1) = na ca 510 (pw) := (hs5 _ (by omega)).trans hF.2.1
  have e9 : g4 (1 + 2) = na ca 256 (ex) := (hs5 _ (by omega)).trans hF.2.2
  have e10 : g4 (6) = .inr (4, [.ref (ad (6 + 1)), .int (nI v0)]) := (hs5 _ (by omega)).trans hK.1
  have e11 : g4 (6 + 1) = na ca 59 (pl0) := (hs5 _ (by omega)).trans hK.2
  have e12 : g4 (71) = .inr (6, [.ref (ad 8), .ref (ad 6), .ref (ad 72)]) := (hs5 _ (by omega)).trans eT
  have hs13 : ∀ z, (z < 6 ∨ 70 < z) → g4 z = g z := fun z hz => hs5 z (by omega)
  refine k_icn C 0 dX6_fillsRank_9 (by decide) ?_
  refine lv_istore_n (lv' := [(3, .int (nI 0)), (0, .ref (ad 71)), (1, .int (nI k)), (2, .int (nI t))]) C.1 C.2.1 dX6_fillsRank_10 rfl hl (by decide) rfl (fun ls hl => ?_)
  have loop11 : ∀ (fuel : Nat) (i : Nat) (sv : FlS) (v : Nat) (gL : Nat → va_E) (H : Heap) (locs : List Loc) (ls : Array Slot), ((k - i) + 1 ≤ fuel) → (i ≤ k) → (sv = flAt pw ex k t s0 pl0 i) → (EqBy sv.1) → (sv.1.1 ≤ 11 + i) → (∀ j, j < i → flR pw ex k t j (flAt pw ex k t s0 pl0 j) = 1) → (∀ z, (z < 6 ∨ 70 < z) → gL z = g z) → (gL (8) = .inr (2, [.ref (ad 1), .ref (ad (8 + 1)), .ref (ad (8 + 61)), .ref (ad (8 + 62)), .int (nI (k + 11)), .int (nI 0), .int (nI (sv.1.1))])) → (gL (8 + 1) = qa ca 59 (fun i => if i < 59 then some (ad (8 + 2 + i)) else none)) → (gL (8 + 61) = za ca 59 (sv.1.2.2.1)) → (gL (8 + 62) = na ca 75 (sv.1.2.2.2)) → (gL (6) = .inr (4, [.ref (ad (6 + 1)), .int (nI v)])) → (gL (6 + 1) = na ca 59 (sv.2.1)) → (∀ p9, p9 < 59 → gL (8 + 2 + p9) = na ca 75 (sv.1.2.1 p9)) → Wd D (AA R ad sz) s R ad gL H locs → lv_has ls 4 [(0, .ref (ad 71)), (1, .int (nI k)), (2, .int (nI t)), (3, .int (nI i))] → W p l e rm_X6_fillsRank s m args below meth c H locs 0 0 Q (F0 m 11 ls []) := by
    intro fuel
    induction fuel with
    | zero =>
      intro i sv v gL H locs ls hfu11
      exact absurd hfu11 (by omega)
    | succ fuel11 ih11 =>
      intro i sv v gL H locs ls hfu11 hi hsv hsb hsr hall hsL11 eL11_0 eL11_1 eL11_2 eL11_3 eL11_4 eL11_5 hrL11_0 hw hl
      have e14 : gL (1) = .inr (3, [.ref (ad (1 + 1)), .ref (ad (1 + 2))]) := (hsL11 _ (by omega)).trans hF.1
      have e15 : gL (1 + 1) = na ca 510 (pw) := (hsL11 _ (by omega)).trans hF.2.1
      have e16 : gL (1 + 2) = na ca 256 (ex) := (hsL11 _ (by omega)).trans hF.2.2
      have e17 : gL (71) = .inr (6, [.ref (ad 8), .ref (ad 6), .ref (ad 72)]) := (hsL11 _ (by omega)).trans eT
      refine lv_iload_n C.1 C.2.1 dX6_fillsRank_11 rfl (lv_at hl 3 rfl) ?_
      refine lv_iload_n C.1 C.2.1 dX6_fillsRank_12 rfl (lv_at hl 1 rfl) ?_
      refine k_ige (tgt := 56) C dX6_fillsRank_13 (by decide) (by omega) (by omega) (fun hc13 => ?_) (fun hc13 => ?_)
      · refine k_icn C 1 dX6_fillsRank_56 (by decide) ?_
        have hE18 : EqAt ca ad gL 8 1 (k + 11) 0 sv.1.1 sv.1.2.1 sv.1.2.2.1 sv.1.2.2.2 := ⟨eL11_0, eL11_1, hrL11_0, eL11_2, eL11_3⟩
        have hK19 : PkAt ca ad gL 6 v sv.2.1 := ⟨eL11_4, eL11_5⟩
        exact hret H locs ls _ true _ _ dX6_fillsRank_57 hw (by rfl) (⟨hsL11, by rw [fillB_t (fun j hj => hall j (by omega))], ⟨_, _, sv.1, hE18, hsb⟩, ⟨_, _, hK19⟩⟩)
      · refine lv_aload_n C.1 C.2.1 dX6_fillsRank_16 rfl (lv_at hl 0 rfl) ?_
        refine k_get C F hw (71) (by omega) e17 rfl in_X6 1 (by decide) fl_X6_15 rfl dX6_fillsRank_17 ?_
        refine lv_iload_n C.1 C.2.1 dX6_fillsRank_20 rfl (lv_at hl 1 rfl) ?_
        refine lv_iload_n C.1 C.2.1 dX6_fillsRank_21 rfl (lv_at hl 3 rfl) ?_
        refine lv_iload_n C.1 C.2.1 dX6_fillsRank_22 rfl (lv_at hl 2 rfl) ?_
        refine k_Vv C F hw (i := 6) (As := [.int (nI k), .int (nI i), .int (nI t)]) (rest := []) (c_X4_find 6 k i t v sv.2.1 (by omega) hk (by omega) (by omega) eL11_4 eL11_5) (by omega) eL11_4 rfl (cwV _ C.2.2.2.2 gm_X6_39 rfl rfl rfl cd_X4_find ⟨by decide, by decide⟩) hl.1 rfl (Nat.le_of_ble_eq_true rfl) dX6_fillsRank_23 ⟨by decide, by decide⟩ (fun g21 H locs hp hw => ?_)
        obtain ⟨hs22, e23, e24⟩ := hp
        have e25 : g21 (1) = .inr (3, [.ref (ad (1 + 1)), .ref (ad (1 + 2))]) := (hs22 _ (by omega)).trans e14
        have e26 : g21 (1 + 1) = na ca 510 (pw) := (hs22 _ (by omega)).trans e15
        have e27 : g21 (1 + 2) = na ca 256 (ex) := (hs22 _ (by omega)).trans e16
        have e28 : g21 (71) = .inr (6, [.ref (ad 8), .ref (ad 6), .ref (ad 72)]) := (hs22 _ (by omega)).trans e17
        have e29 : g21 (8) = .inr (2, [.ref (ad 1), .ref (ad (8 + 1)), .ref (ad (8 + 61)), .ref (ad (8 + 62)), .int (nI (k + 11)), .int (nI 0), .int (nI (sv.1.1))]) := (hs22 _ (by omega)).trans eL11_0
        have e30 : g21 (8 + 1) = qa ca 59 (fun i => if i < 59 then some (ad (8 + 2 + i)) else none) := (hs22 _ (by omega)).trans eL11_1
        have e31 : g21 (8 + 61) = za ca 59 (sv.1.2.2.1) := (hs22 _ (by omega)).trans eL11_2
        have e32 : g21 (8 + 62) = na ca 75 (sv.1.2.2.2) := (hs22 _ (by omega)).trans eL11_3
        have hr33 : ∀ p9, p9 < 59 → g21 (8 + 2 + p9) = na ca 75 (sv.1.2.1 p9) := fun p9 hp9 => (hs22 _ (by omega)).trans (hrL11_0 p9 hp9)
        have hs34 : ∀ z, (z < 6 ∨ 70 < z) → g21 z = g z := fun z hz => (hs22 z (by omega)).trans (hsL11 z hz)
        have hpk := pkOut_ok k i t sv.2.1 (by omega)
        refine lv_aload_n C.1 C.2.1 dX6_fillsRank_26 rfl (lv_at hl 0 rfl) ?_
        refine k_get C F hw (71) (by omega) e28 rfl in_X6 0 (by decide) fl_X6_9 rfl dX6_fillsRank_27 ?_
        refine lv_aload_n C.1 C.2.1 dX6_fillsRank_30 rfl (lv_at hl 0 rfl) ?_
        refine k_get C F hw (71) (by omega) e28 rfl in_X6 1 (by decide) fl_X6_15 rfl dX6_fillsRank_31 ?_
        have hE35 : EqAt ca ad g21 8 1 (k + 11) 0 sv.1.1 sv.1.2.1 sv.1.2.2.1 sv.1.2.2.2 := ⟨e29, e30, hr33, e31, e32⟩
        have hK36 : PkAt ca ad g21 6 ((pkOut k i t sv.2.1).2.1) ((pkOut k i t sv.2.1).1) := ⟨e23, e24⟩
        refine k_Vv C F hw (i := 8) (As := [.ref (ad 6)]) (rest := []) (c_X2_setLine 8 1 (k + 11) 0 sv.1.1 sv.1.2.1 sv.1.2.2.1 sv.1.2.2.2 hE35 (by omega) (by omega) (by omega) 6 ((pkOut k i t sv.2.1).2.1) ((pkOut k i t sv.2.1).1) hK36 (by omega) (by omega) (fun j hj => by have := hpk.1 j hj; omega)) (by omega) e29 rfl (cwV _ C.2.2.2.2 gm_X6_45 rfl rfl rfl cd_X2_setLine ⟨by decide, by decide⟩) hl.1 rfl (Nat.le_of_ble_eq_true rfl) dX6_fillsRank_34 ⟨by decide, by decide⟩ (fun g38 H locs hp hw => ?_)
        obtain ⟨hs39, hE40⟩ := hp
        have e41 : g38 (1) = .inr (3, [.ref (ad (1 + 1)), .ref (ad (1 + 2))]) := (hs39 _ (by omega)).trans e25
        have e42 : g38 (1 + 1) = na ca 510 (pw) := (hs39 _ (by omega)).trans e26
        have e43 : g38 (1 + 2) = na ca 256 (ex) := (hs39 _ (by omega)).trans e27
        have e44 : g38 (71) = .inr (6, [.ref (ad 8), .ref (ad 6), .ref (ad 72)]) := (hs39 _ (by omega)).trans e28
        have e45 : g38 (6) = .inr (4, [.ref (ad (6 + 1)), .int (nI ((pkOut k i t sv.2.1).2.1))]) := (hs39 _ (by omega)).trans e23
        have e46 : g38 (6 + 1) = na ca 59 ((pkOut k i t sv.2.1).1) := (hs39 _ (by omega)).trans e24
        have hs47 : ∀ z, (z < 6 ∨ 70 < z) → g38 z = g z := fun z hz => (hs39 z (by omega)).trans (hs34 z hz)
        refine lv_aload_n C.1 C.2.1 dX6_fillsRank_37 rfl (lv_at hl 0 rfl) ?_
        refine k_get C F hw (71) (by omega) e44 rfl in_X6 0 (by decide) fl_X6_9 rfl dX6_fillsRank_38 ?_
        have hE48 : EqAt ca ad g38 8 1 (k + 11) 0 sv.1.1 sv.1.2.1 sv.1.2.2.1 (lnPk 0 (pkOut k i t sv.2.1).2.1 (pkOut k i t sv.2.1).1 sv.1.2.2.2) := ⟨hE40.1, hE40.2.1, hE40.2.2.1, hE40.2.2.2.1, hE40.2.2.2.2⟩
        have hF49 : FieldAt ca ad g38 1 pw ex := ⟨e41, e42, e43⟩
        refine k_Vi C F hw (i := 8) (As := []) (rest := []) (c_X2_learn 8 1 (k + 11) 0 sv.1.1 sv.1.2.1 sv.1.2.2.1 (lnPk 0 (pkOut k i t sv.2.1).2.1 (pkOut k i t sv.2.1).1 sv.1.2.2.2) hE48 (by omega) (by omega) (by omega) pw ex hF49 hX hP (by omega) hsb.1 (By.pk hsb.2)) (by omega) hE40.1 rfl (cwV _ C.2.2.2.2 gm_X6_49 rfl rfl rfl cd_X2_learn ⟨by decide, by decide⟩) hl.1 rfl (Nat.le_of_ble_eq_true rfl) dX6_fillsRank_41 ⟨by decide, by decide⟩ (fun r50 g51 H locs hp hw => ?_)
        obtain ⟨hs52, hr9, hE53⟩ := hp
        have hr9 : r50 = flR pw ex k t i sv := hr9
        subst hr9
        have e54 : g51 (1) = .inr (3, [.ref (ad (1 + 1)), .ref (ad (1 + 2))]) := (hs52 _ (by omega)).trans e41
        have e55 : g51 (1 + 1) = na ca 510 (pw) := (hs52 _ (by omega)).trans e42
        have e56 : g51 (1 + 2) = na ca 256 (ex) := (hs52 _ (by omega)).trans e43
        have e57 : g51 (71) = .inr (6, [.ref (ad 8), .ref (ad 6), .ref (ad 72)]) := (hs52 _ (by omega)).trans e44
        have e58 : g51 (6) = .inr (4, [.ref (ad (6 + 1)), .int (nI ((pkOut k i t sv.2.1).2.1))]) := (hs52 _ (by omega)).trans e45
        have e59 : g51 (6 + 1) = na ca 59 ((pkOut k i t sv.2.1).1) := (hs52 _ (by omega)).trans e46
        have hs60 : ∀ z, (z < 6 ∨ 70 < z) → g51 z = g z := fun z hz => (hs52 z (by omega)).trans (hs47 z hz)
        refine k_icn C 1 dX6_fillsRank_44 (by decide) ?_
        refine lv_icmp_eq (tgt := 50) C.1 C.2.1 dX6_fillsRank_45 (by decide) (fun hc45 => ?_) (fun hc45 => ?_)
        · refine k_inc C (i + 1) (lv' := [(3, .int (nI (i + 1))), (0, .ref (ad 71)), (1, .int (nI k)), (2, .int (nI t))]) dX6_fillsRank_50 hl (k := 3) rfl (inc1 _) (by decide) rfl (fun ls hl => ?_)
          refine lv_goto (tgt := 11) C.1 C.2.1 dX6_fillsRank_53 (by decide) ?_
          exact ih11 (i + 1) (flSt pw ex k t i sv) ((pkOut k i t sv.2.1).2.1) g51 H locs ls (by omega) (by omega) (by rw [flAt_s, ← hsv]) (flSt_by hP hsb) (flSt_rk hsr) (fun j hj => by by_cases h : j = i; (subst h; rw [← hsv]; exact hc45); exact hall j (by omega)) hs60 hE53.1 hE53.2.1 hE53.2.2.2.1 hE53.2.2.2.2 e58 e59 hE53.2.2.1 hw (lv_sub hl [1, 2, 3, 0] rfl)
        · refine k_icn C 0 dX6_fillsRank_48 (by decide) ?_
          have hE61 : EqAt ca ad g51 8 1 (k + 11) 0 ((flSt pw ex k t i sv).1.1) ((flSt pw ex k t i sv).1.2.1) ((flSt pw ex k t i sv).1.2.2.1) ((flSt pw ex k t i sv).1.2.2.2) := ⟨hE53.1, hE53.2.1, hE53.2.2.1, hE53.2.2.2.1, hE53.2.2.2.2⟩
          have hK62 : PkAt ca ad g51 6 ((pkOut k i t sv.2.1).2.1) ((pkOut k i t sv.2.1).1) := ⟨e58, e59⟩
          exact hret H locs ls _ false _ _ dX6_fillsRank_49 hw (by rfl) (⟨hs60, by rw [fillB_f (i := i) (by omega) (by rw [← hsv]; exact hc45)], ⟨_, _, (flSt pw ex k t i sv).1, hE61, flSt_by hP hsb⟩, ⟨_, _, hK62⟩⟩)
  have hst := startS_by (pw := pw) (ex := ex) (k := k) (T := 0) hP hB0
  exact loop11 _ 0 (startS pw ex k 0 s0, pl0, 0) v0 g4 H locs ls (Nat.le_refl _) (by omega) ((flAt_0 _ _ _ _ _ _).symm) hst.1 hst.2 (fun j hj => absurd hj (by omega)) hs13 hE6.1 hE6.2.1 hE6.2.2.2.1 hE6.2.2.2.2 e10 e11 hE6.2.2.1 hw (lv_sub hl [1, 2, 3, 0] rfl)
