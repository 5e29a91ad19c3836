/-! ===== symbolsThatFollow, count ===== -/
def cntN (dv : Nat → Bool) (n : Nat) : Nat := fr (fun x a => if dv x = true then a + 1 else a) n 0
theorem cntN_le (dv : Nat → Bool) : ∀ n, cntN dv n ≤ n
  | 0 => Nat.le_refl _
  | n + 1 => by
    have := cntN_le dv n
    show (if dv n = true then cntN dv n + 1 else cntN dv n) ≤ n + 1
    split <;> omega

abbrev rm_X7_symbolsThatFollow : Room := { frames := 4, cells := 0, slots := 0, locals := 100 }

set_option maxHeartbeats 800000 in
set_option maxRecDepth 100000 in
/-- FountainDesk.symbolsThatFollow -/
theorem c_X7_symbolsThatFollow {l : Launch} {D : va_G} {ca : Nat → ClassId} {tB tS R : Nat} {ad : Nat → Nat} {g : Nat → va_E} {sz : Nat} (pw ex : Nat → Nat) (hX : ExOk ex) (hP : PwOk pw) (hR : 197 < R) (fb : Nat → Nat → Bool) (hfb : ∀ k t s pl, 1 ≤ k → k ≤ 48 → EqBy s → t < 1000 → fillB pw ex k t s pl = fb k t) (len : Nat) (h : Nat → Nat) (bk bt : Nat) (BM : Nat → Nat → Nat) (ck ct cn rk : Nat) (M : Nat → Nat → Nat) (ld : Nat → Bool) (hI : DInv ca ad g pw ex fb len h bk bt BM ck ct cn rk M ld) (dv : Nat → Bool) (hdv : ∀ x ln pl, x < ck → By ln → drv pw ex ck ct x (tnN (fb ck)) (rk, M, ld, ln) pl = dv x)  : MI l yX7_symbolsThatFollow cX7_symbolsThatFollow 3 .int rm_X7_symbolsThatFollow D ca tB tS R ad g sz [.ref (ad 0)] (fun r g1 => (∀ z, 197 < z → g1 z = g z) ∧ r = nI (cntN dv ck) ∧ DInv ca ad g1 pw ex fb len h bk bt BM ck ct cn rk M ld) := by
  refine m_startI (by decide +kernel) (Nat.le_of_ble_eq_true rfl) (fun p e s m args below meth c ls Q hsz C hl F hw hret => ?_)
  have hl : lv_has ls 3 [(0, .ref (ad 0))] := hl
  generalize s.heap = H at hw ⊢
  generalize ([] : List Loc) = locs at hw ⊢
  obtain ⟨eO, hF, hT4, ⟨v0, pl0, hK⟩, ⟨Lw, Tw, sw, hEw, hBw⟩, eT, ⟨fd, eD, hfd⟩, hB, hC, ⟨ln0, hln0, hEc⟩, ⟨hlen, hh⟩, ⟨hbk, hBM⟩, ⟨hck, hM⟩⟩ := hI
  by_cases hne : ck = 0
  · refine k_icn C 0 dX7_symbolsThatFollow_0 (by decide) ?_
    refine lv_istore_n (lv' := [(1, .int (nI 0)), (0, .ref (ad 0))]) C.1 C.2.1 dX7_symbolsThatFollow_1 rfl hl (by decide) rfl (fun ls hl => ?_)
    refine k_icn C 0 dX7_symbolsThatFollow_2 (by decide) ?_
    refine lv_istore_n (lv' := [(2, .int (nI 0)), (1, .int (nI 0)), (0, .ref (ad 0))]) C.1 C.2.1 dX7_symbolsThatFollow_3 rfl hl (by decide) rfl (fun ls hl => ?_)
    refine lv_iload_n C.1 C.2.1 dX7_symbolsThatFollow_4 rfl (lv_at hl 0 rfl) ?_
    refine lv_aload_n C.1 C.2.1 dX7_symbolsThatFollow_5 rfl (lv_at hl 2 rfl) ?_
    refine k_get C F hw (0) (by omega) eO rfl in_X7 6 (by decide) fl_X7_58 rfl dX7_symbolsThatFollow_6 ?_
    refine k_getN C F hw (134) (by omega) hC rfl in_X1 1 (by decide) fl_X7_147 rfl dX7_symbolsThatFollow_9 ?_
    refine k_ige (tgt := 32) C dX7_symbolsThatFollow_12 (by decide) (by omega) (by omega) (fun hc12 => ?_) (fun hc12 => ?_)
    · refine lv_iload_n C.1 C.2.1 dX7_symbolsThatFollow_32 rfl (lv_at hl 1 rfl) ?_
      have hF2 : FieldAt ca ad g 1 pw ex := ⟨hF.1, hF.2.1, hF.2.2⟩
      have hK3 : PkAt ca ad g 6 v0 pl0 := ⟨hK.1, hK.2⟩
      have hE4 : EqAt ca ad g 8 1 Lw Tw sw.1 sw.2.1 sw.2.2.1 sw.2.2.2 := ⟨hEw.1, hEw.2.1, hEw.2.2.1, hEw.2.2.2.1, hEw.2.2.2.2⟩
      have hE5 : EqAt ca ad g 135 1 (if ck = 0 then 0 else ck + 11) ct rk M ld ln0 := ⟨hEc.1, hEc.2.1, hEc.2.2.1, hEc.2.2.2.1, hEc.2.2.2.2⟩
      have hI1 : DInv ca ad g pw ex fb len h bk bt BM ck ct cn rk M ld := ⟨eO, hF2, ⟨hT4.1, hT4.2⟩, ⟨_, _, hK3⟩, ⟨_, _, _, hE4, hBw⟩, eT, ⟨_, eD, hfd⟩, ⟨hB.1, hB.2.1, hB.2.2⟩, hC, ⟨_, hln0, hE5⟩, ⟨hlen, hh⟩, ⟨hbk, hBM⟩, ⟨hck, hM⟩⟩
      exact hret H locs ls _ _ _ dX7_symbolsThatFollow_33 hw (⟨fun z _ => rfl, by rw [hne]; rfl, hI1⟩)
    · exact absurd hc12 (by omega)
  · have hck9 : 1 ≤ ck ∧ ck ≤ 48 ∧ 1 ≤ ct ∧ ct ≤ 16 := by omega
    have hC5 : CtAt ca ad g ck ct (tnN (fb ck)) cn := by have h9 := hC; rw [if_neg hne] at h9; exact h9
    have hE5 : EqAt ca ad g 135 1 (ck + 11) ct rk M ld ln0 := by have h9 := hEc; rw [if_neg hne] at h9; exact h9
    have htnc := tnN_le (fb ck)
    refine k_icn C 0 dX7_symbolsThatFollow_0 (by decide) ?_
    refine lv_istore_n (lv' := [(1, .int (nI 0)), (0, .ref (ad 0))]) C.1 C.2.1 dX7_symbolsThatFollow_1 rfl hl (by decide) rfl (fun ls hl => ?_)
    refine k_icn C 0 dX7_symbolsThatFollow_2 (by decide) ?_
    refine lv_istore_n (lv' := [(2, .int (nI 0)), (1, .int (nI 0)), (0, .ref (ad 0))]) C.1 C.2.1 dX7_symbolsThatFollow_3 rfl hl (by decide) rfl (fun ls hl => ?_)
    have loop4 : ∀ (fuel : Nat) (x : Nat) (fc : Nat) (lc : Nat → Nat) (v : Nat) (pq : Nat → Nat) (gL : Nat → va_E) (H : Heap) (locs : List Loc) (ls : Array Slot), ((ck - x) + 1 ≤ fuel) → (x ≤ ck) → (fc = cntN dv x) → (By lc) → (∀ z, (z < 6 ∨ 7 < z ∧ z < 134 ∨ 197 < z) → gL z = g z) → (gL (134) = .inr (1, [.ref (ad 135), .int (nI ck), .int (nI ct), .int (nI (tnN (fb ck))), .int (nI cn)])) → (gL (135) = .inr (2, [.ref (ad 1), .ref (ad (135 + 1)), .ref (ad (135 + 61)), .ref (ad (135 + 62)), .int (nI (ck + 11)), .int (nI ct), .int (nI rk)])) → (gL (135 + 1) = qa ca 59 (fun i => if i < 59 then some (ad (135 + 2 + i)) else none)) → (gL (135 + 61) = za ca 59 (ld)) → (gL (135 + 62) = na ca 75 (lc)) → (gL (6) = .inr (4, [.ref (ad (6 + 1)), .int (nI v)])) → (gL (6 + 1) = na ca 59 (pq)) → (∀ p9, p9 < 59 → gL (135 + 2 + p9) = na ca 75 (M p9)) → Wd D (AA R ad sz) s R ad gL H locs → lv_has ls 3 [(0, .ref (ad 0)), (1, .int (nI fc)), (2, .int (nI x))] → W p l e rm_X7_symbolsThatFollow s m args below meth c H locs 0 0 Q (F0 m 4 ls []) := by
      intro fuel
      induction fuel with
      | zero =>
        intro x fc lc v pq gL H locs ls hfu4
        exact absurd hfu4 (by omega)
      | succ fuel4 ih4 =>
        intro x fc lc v pq gL H locs ls hfu4 hx hfc hlc hsL4 eL4_0 eL4_1 eL4_2 eL4_3 eL4_4 eL4_5 eL4_6 hrL4_2 hw hl
        have e6 : gL (0) = .inr (7, [.ref (ad 1), .ref (ad 4), .ref (ad 6), .ref (ad 8), .ref (ad 71), .ref (ad 73), .ref (ad 134)]) := (hsL4 _ (by omega)).trans eO
        have e7 : gL (1) = .inr (3, [.ref (ad (1 + 1)), .ref (ad (1 + 2))]) := (hsL4 _ (by omega)).trans hF.1
        have e8 : gL (1 + 1) = na ca 510 (pw) := (hsL4 _ (by omega)).trans hF.2.1
        have e9 : gL (1 + 2) = na ca 256 (ex) := (hsL4 _ (by omega)).trans hF.2.2
        have e10 : gL (4) = .inr (5, [.ref (ad (4 + 1)), .int (nI len)]) := (hsL4 _ (by omega)).trans hT4.1
        have e11 : gL (4 + 1) = na ca 800 (h) := (hsL4 _ (by omega)).trans hT4.2
        have e12 : gL (8) = .inr (2, [.ref (ad 1), .ref (ad (8 + 1)), .ref (ad (8 + 61)), .ref (ad (8 + 62)), .int (nI Lw), .int (nI Tw), .int (nI (sw.1))]) := (hsL4 _ (by omega)).trans hEw.1
        have e13 : gL (8 + 1) = qa ca 59 (fun i => if i < 59 then some (ad (8 + 2 + i)) else none) := (hsL4 _ (by omega)).trans hEw.2.1
        have e14 : gL (8 + 61) = za ca 59 (sw.2.2.1) := (hsL4 _ (by omega)).trans hEw.2.2.2.1
        have e15 : gL (8 + 62) = na ca 75 (sw.2.2.2) := (hsL4 _ (by omega)).trans hEw.2.2.2.2
        have e16 : gL (71) = .inr (6, [.ref (ad 8), .ref (ad 6), .ref (ad 72)]) := (hsL4 _ (by omega)).trans eT
        have e17 : gL (72) = ia ca 49 (fd) := (hsL4 _ (by omega)).trans eD
        have e18 : gL (73) = .inr (0, [.ref (ad 74), .int (nI bk), .int (nI bt), .int (nI (if bk = 0 then 0 else tnN (fb bk)))]) := (hsL4 _ (by omega)).trans hB.1
        have e19 : gL (74) = qa ca 59 (fun i => if i < 59 then some (ad (75 + i)) else none) := (hsL4 _ (by omega)).trans hB.2.1
        have hr20 : ∀ p9, p9 < 59 → gL (8 + 2 + p9) = na ca 75 (sw.2.1 p9) := fun p9 hp9 => (hsL4 _ (by omega)).trans (hEw.2.2.1 p9 hp9)
        have hr21 : ∀ p9, p9 < 59 → gL (75 + p9) = na ca 16 (BM p9) := fun p9 hp9 => (hsL4 _ (by omega)).trans (hB.2.2 p9 hp9)
        refine lv_iload_n C.1 C.2.1 dX7_symbolsThatFollow_4 rfl (lv_at hl 2 rfl) ?_
        refine lv_aload_n C.1 C.2.1 dX7_symbolsThatFollow_5 rfl (lv_at hl 0 rfl) ?_
        refine k_get C F hw (0) (by omega) e6 rfl in_X7 6 (by decide) fl_X7_58 rfl dX7_symbolsThatFollow_6 ?_
        refine k_getN C F hw (134) (by omega) eL4_0 rfl in_X1 1 (by decide) fl_X7_147 rfl dX7_symbolsThatFollow_9 ?_
        refine k_ige (tgt := 32) C dX7_symbolsThatFollow_12 (by decide) (by omega) (by omega) (fun hc12 => ?_) (fun hc12 => ?_)
        · refine lv_iload_n C.1 C.2.1 dX7_symbolsThatFollow_32 rfl (lv_at hl 1 rfl) ?_
          have hE22 : EqAt ca ad gL 135 1 (ck + 11) ct rk M ld lc := ⟨eL4_1, eL4_2, hrL4_2, eL4_3, eL4_4⟩
          have hC23 : CtAt ca ad gL ck ct (if ck = 0 then 0 else tnN (fb ck)) cn := by rw [if_neg hne]; exact eL4_0
          have hE24 : EqAt ca ad gL 135 1 (if ck = 0 then 0 else ck + 11) ct rk M ld lc := by rw [if_neg hne]; exact hE22
          have hF26 : FieldAt ca ad gL 1 pw ex := ⟨e7, e8, e9⟩
          have hK27 : PkAt ca ad gL 6 v pq := ⟨eL4_5, eL4_6⟩
          have hE28 : EqAt ca ad gL 8 1 Lw Tw sw.1 sw.2.1 sw.2.2.1 sw.2.2.2 := ⟨e12, e13, hr20, e14, e15⟩
          have hI25 : DInv ca ad gL pw ex fb len h bk bt BM ck ct cn rk M ld := ⟨e6, hF26, ⟨e10, e11⟩, ⟨_, _, hK27⟩, ⟨_, _, _, hE28, hBw⟩, e16, ⟨_, e17, hfd⟩, ⟨e18, e19, hr21⟩, hC23, ⟨_, hlc, hE24⟩, ⟨hlen, hh⟩, ⟨hbk, hBM⟩, ⟨hck, hM⟩⟩
          exact hret H locs ls _ _ _ dX7_symbolsThatFollow_33 hw (⟨fun z hz => hsL4 z (by omega), by rw [hfc, show x = ck by omega], hI25⟩)
        · refine lv_aload_n C.1 C.2.1 dX7_symbolsThatFollow_15 rfl (lv_at hl 0 rfl) ?_
          refine lv_iload_n C.1 C.2.1 dX7_symbolsThatFollow_16 rfl (lv_at hl 2 rfl) ?_
          have hF29 : FieldAt ca ad gL 1 pw ex := ⟨e7, e8, e9⟩
          have hE30 : EqAt ca ad gL 135 1 (ck + 11) ct rk M ld lc := ⟨eL4_1, eL4_2, hrL4_2, eL4_3, eL4_4⟩
          have hK31 : PkAt ca ad gL 6 v pq := ⟨eL4_5, eL4_6⟩
          refine k_Vi C F hw (i := 0) (As := [.int (nI x)]) (rest := []) (c_X7_catcherDerives pw ex hF29 hX hP hR e6 ck ct (tnN (fb ck)) cn eL4_0 ⟨hck9.1, hck9.2.1⟩ ⟨hck9.2.2.1, hck9.2.2.2⟩ htnc (rk, M, ld, lc) (EqAtS_mk hE30) ⟨hM, hlc⟩ v pq hK31 x (by omega)) (by omega) e6 rfl (cwV _ C.2.2.2.2 gm_X7_158 rfl rfl rfl cd_X7_catcherDerives ⟨by decide, by decide⟩) hl.1 rfl (Nat.le_of_ble_eq_true rfl) dX7_symbolsThatFollow_17 ⟨by decide, by decide⟩ (fun r32 g33 H locs hp hw => ?_)
          obtain ⟨hs34, hr9, hC34, hE34, hb34, ⟨v34, pl34, hK34⟩⟩ := hp
          rw [hdv x lc pq (by omega) hlc] at hr9
          subst hr9
          obtain ⟨lx, hlx⟩ : ∃ z, z = lnRed pw ex (ck + 11) ct M ld (lnPk ct (pkOut ck x (tnN (fb ck)) pq).2.1 (pkOut ck x (tnN (fb ck)) pq).1 lc) := ⟨_, rfl⟩
          dsimp only at hE34 hb34
          rw [← hlx] at hE34 hb34
          have e35 : g33 (0) = .inr (7, [.ref (ad 1), .ref (ad 4), .ref (ad 6), .ref (ad 8), .ref (ad 71), .ref (ad 73), .ref (ad 134)]) := (hs34 _ (by omega)).trans e6
          have e36 : g33 (1) = .inr (3, [.ref (ad (1 + 1)), .ref (ad (1 + 2))]) := (hs34 _ (by omega)).trans e7
          have e37 : g33 (1 + 1) = na ca 510 (pw) := (hs34 _ (by omega)).trans e8
          have e38 : g33 (1 + 2) = na ca 256 (ex) := (hs34 _ (by omega)).trans e9
          have e39 : g33 (4) = .inr (5, [.ref (ad (4 + 1)), .int (nI len)]) := (hs34 _ (by omega)).trans e10
          have e40 : g33 (4 + 1) = na ca 800 (h) := (hs34 _ (by omega)).trans e11
          have e41 : g33 (8) = .inr (2, [.ref (ad 1), .ref (ad (8 + 1)), .ref (ad (8 + 61)), .ref (ad (8 + 62)), .int (nI Lw), .int (nI Tw), .int (nI (sw.1))]) := (hs34 _ (by omega)).trans e12
          have e42 : g33 (8 + 1) = qa ca 59 (fun i => if i < 59 then some (ad (8 + 2 + i)) else none) := (hs34 _ (by omega)).trans e13
          have e43 : g33 (8 + 61) = za ca 59 (sw.2.2.1) := (hs34 _ (by omega)).trans e14
          have e44 : g33 (8 + 62) = na ca 75 (sw.2.2.2) := (hs34 _ (by omega)).trans e15
          have e45 : g33 (71) = .inr (6, [.ref (ad 8), .ref (ad 6), .ref (ad 72)]) := (hs34 _ (by omega)).trans e16
          have e46 : g33 (72) = ia ca 49 (fd) := (hs34 _ (by omega)).trans e17
          have e47 : g33 (73) = .inr (0, [.ref (ad 74), .int (nI bk), .int (nI bt), .int (nI (if bk = 0 then 0 else tnN (fb bk)))]) := (hs34 _ (by omega)).trans e18
          have e48 : g33 (74) = qa ca 59 (fun i => if i < 59 then some (ad (75 + i)) else none) := (hs34 _ (by omega)).trans e19
          have hr49 : ∀ p9, p9 < 59 → g33 (8 + 2 + p9) = na ca 75 (sw.2.1 p9) := fun p9 hp9 => (hs34 _ (by omega)).trans (hr20 p9 hp9)
          have hr50 : ∀ p9, p9 < 59 → g33 (75 + p9) = na ca 16 (BM p9) := fun p9 hp9 => (hs34 _ (by omega)).trans (hr21 p9 hp9)
          have hs51 : ∀ z, (z < 6 ∨ 7 < z ∧ z < 134 ∨ 197 < z) → g33 z = g z := fun z hz => (hs34 z (by omega)).trans (hsL4 z hz)
          refine k_beq (tgt := 26) C dX7_symbolsThatFollow_20 (by decide) (fun hc20 => ?_) (fun hc20 => ?_)
          · refine k_inc C (x + 1) (lv' := [(2, .int (nI (x + 1))), (0, .ref (ad 0)), (1, .int (nI fc))]) dX7_symbolsThatFollow_26 hl (k := 2) rfl (inc1 _) (by decide) rfl (fun ls hl => ?_)
            refine lv_goto (tgt := 4) C.1 C.2.1 dX7_symbolsThatFollow_29 (by decide) ?_
            exact ih4 (x + 1) fc lx v34 pl34 g33 H locs ls (by omega) (by omega) (by rw [hfc]; show _ = (if dv x = true then cntN dv x + 1 else cntN dv x); rw [hc20]; rfl) hb34 hs51 hC34 hE34.1 hE34.2.1 hE34.2.2.2.1 hE34.2.2.2.2 hK34.1 hK34.2 hE34.2.2.1 hw (lv_sub hl [1, 2, 0] rfl)
          · refine k_inc C (fc + 1) (lv' := [(1, .int (nI (fc + 1))), (0, .ref (ad 0)), (2, .int (nI x))]) dX7_symbolsThatFollow_23 hl (k := 1) rfl (inc1 _) (by decide) rfl (fun ls hl => ?_)
            refine k_inc C (x + 1) (lv' := [(2, .int (nI (x + 1))), (1, .int (nI (fc + 1))), (0, .ref (ad 0))]) dX7_symbolsThatFollow_26 hl (k := 2) rfl (inc1 _) (by decide) rfl (fun ls hl => ?_)
            refine lv_goto (tgt := 4) C.1 C.2.1 dX7_symbolsThatFollow_29 (by decide) ?_
            exact ih4 (x + 1) (fc + 1) lx v34 pl34 g33 H locs ls (by omega) (by omega) (by rw [hfc]; show _ = (if dv x = true then cntN dv x + 1 else cntN dv x); rw [hc20]; rfl) hb34 hs51 hC34 hE34.1 hE34.2.1 hE34.2.2.2.1 hE34.2.2.2.2 hK34.1 hK34.2 hE34.2.2.1 hw (lv_sub hl [2, 1, 0] rfl)
    exact loop4 _ 0 0 ln0 v0 pl0 g H locs ls (Nat.le_refl _) (by omega) rfl hln0 (fun z _ => rfl) hC5 hE5.1 hE5.2.1 hE5.2.2.2.1 hE5.2.2.2.2 hK.1 hK.2 hE5.2.2.1 hw (lv_sub hl [2, 1, 0] rfl)

abbrev rm_X7_count : Room := { frames := 6, cells := 1, slots := 6, locals := 125 }

set_option maxHeartbeats 800000 in
set_option maxRecDepth 100000 in
/-- FountainDesk.count -/
theorem c_X7_count {l : Launch} {D : va_G} {ca : Nat → ClassId} {tB tS R : Nat} {ad : Nat → Nat} {g : Nat → va_E} {sz : Nat} (hlt : l.stackTraces = false) (pw ex : Nat → Nat) (hX : ExOk ex) (hP : PwOk pw) (hR : 197 < R) (fb : Nat → Nat → Bool) (hfb : ∀ k t s pl, 1 ≤ k → k ≤ 48 → EqBy s → t < 1000 → fillB pw ex k t s pl = fb k t) (len : Nat) (h : Nat → Nat) (bk bt : Nat) (BM : Nat → Nat → Nat) (ck ct cn rk : Nat) (M : Nat → Nat → Nat) (ld : Nat → Bool) (hI : DInv ca ad g pw ex fb len h bk bt BM ck ct cn rk M ld) (dv : Nat → Bool) (hdv : ∀ x ln pl, x < ck → By ln → drv pw ex ck ct x (tnN (fb ck)) (rk, M, ld, ln) pl = dv x) (what : Int32) : XMI l yX7_count cX7_count 2 .int rm_X7_count D ca tB tS R ad g sz [.ref (ad 0), .int (what)] (fun r g1 => (∀ z, 197 < z → g1 z = g z) ∧ ∃ j : Nat, what = nI j ∧ j ≤ 6 ∧ r = nI (if j = 0 then len else if j = 1 then bk else if j = 2 then bt else if j = 3 then ck else if j = 4 then ct else if j = 5 then cn else cntN dv ck) ∧ DInv ca ad g1 pw ex fb len h bk bt BM ck ct cn rk M ld) (fun E g1 => E = xA ∧ (¬ ∃ j : Nat, what = nI j ∧ j ≤ 6) ∧ (∀ z, 197 < z → g1 z = g z) ∧ DInv ca ad g1 pw ex fb len h bk bt BM ck ct cn rk M ld) := by
  refine x_startI hlt (by decide) (Nat.le_of_ble_eq_true rfl) (fun p e s m args below meth c ls Q hsz C hl F hw hret hthr => ?_)
  have hl : lv_has ls 2 [(0, .ref (ad 0)), (1, .int (what))] := hl
  generalize s.heap = H at hw ⊢
  generalize ([] : List Loc) = locs at hw ⊢
  have hI0 := hI
  obtain ⟨eO, hF, hT4, ⟨v0, pl0, hK⟩, ⟨Lw, Tw, sw, hEw, hBw⟩, eT, ⟨fd, eD, hfd⟩, hB, hC, ⟨ln0, hln0, hEc⟩, ⟨hlen, hh⟩, ⟨hbk, hBM⟩, ⟨hck, hM⟩⟩ := hI
  refine lv_iload_n C.1 C.2.1 dX7_count_0 rfl (lv_at hl 1 rfl) ?_
  rcases pk_ix what (n := 7) (by decide) with hx | hx | ⟨j, hj, hwj⟩
  · refine lv_tableOut (tgt := 97) C.1 C.2.1 dX7_count_1 (Or.inl (by rw [← Int32.toInt_zero]; exact Int32.lt_iff_toInt_lt.mp hx)) (by decide) ?_
    have hF2 : FieldAt ca ad g 1 pw ex := ⟨hF.1, hF.2.1, hF.2.2⟩
    have hK3 : PkAt ca ad g 6 v0 pl0 := ⟨hK.1, hK.2⟩
    have hE4 : EqAt ca ad g 8 1 Lw Tw sw.1 sw.2.1 sw.2.2.1 sw.2.2.2 := ⟨hEw.1, hEw.2.1, hEw.2.2.1, hEw.2.2.2.1, hEw.2.2.2.2⟩
    have hE5 : EqAt ca ad g 135 1 (if ck = 0 then 0 else ck + 11) ct rk M ld ln0 := ⟨hEc.1, hEc.2.1, hEc.2.2.1, hEc.2.2.2.1, hEc.2.2.2.2⟩
    have hI1 : DInv ca ad g pw ex fb len h bk bt BM ck ct cn rk M ld := ⟨eO, hF2, ⟨hT4.1, hT4.2⟩, ⟨_, _, hK3⟩, ⟨_, _, _, hE4, hBw⟩, eT, ⟨_, eD, hfd⟩, ⟨hB.1, hB.2.1, hB.2.2⟩, hC, ⟨_, hln0, hE5⟩, ⟨hlen, hh⟩, ⟨hbk, hBM⟩, ⟨hck, hM⟩⟩
    exact hthr H locs ls _ _ _ xA 77 79 tw_A hw hl.1 dX7_count_97 dX7_count_100 dX7_count_101 dX7_count_104 (by decide) (Nat.le_of_ble_eq_true rfl) (by decide) (by decide) (⟨rfl, fun ⟨j, h1, h2⟩ => absurd hx (by rw [h1]; exact nI_pos (by omega)), (fun z _ => rfl), hI1⟩)
  · refine lv_tableOut (tgt := 97) C.1 C.2.1 dX7_count_1 (Or.inr (by have h9 := Int32.le_iff_toInt_le.mp hx; rw [nI_toInt (by decide)] at h9; omega)) (by decide) ?_
    have hF7 : FieldAt ca ad g 1 pw ex := ⟨hF.1, hF.2.1, hF.2.2⟩
    have hK8 : PkAt ca ad g 6 v0 pl0 := ⟨hK.1, hK.2⟩
    have hE9 : EqAt ca ad g 8 1 Lw Tw sw.1 sw.2.1 sw.2.2.1 sw.2.2.2 := ⟨hEw.1, hEw.2.1, hEw.2.2.1, hEw.2.2.2.1, hEw.2.2.2.2⟩
    have hE10 : EqAt ca ad g 135 1 (if ck = 0 then 0 else ck + 11) ct rk M ld ln0 := ⟨hEc.1, hEc.2.1, hEc.2.2.1, hEc.2.2.2.1, hEc.2.2.2.2⟩
    have hI6 : DInv ca ad g pw ex fb len h bk bt BM ck ct cn rk M ld := ⟨eO, hF7, ⟨hT4.1, hT4.2⟩, ⟨_, _, hK8⟩, ⟨_, _, _, hE9, hBw⟩, eT, ⟨_, eD, hfd⟩, ⟨hB.1, hB.2.1, hB.2.2⟩, hC, ⟨_, hln0, hE10⟩, ⟨hlen, hh⟩, ⟨hbk, hBM⟩, ⟨hck, hM⟩⟩
    exact hthr H locs ls _ _ _ xA 77 79 tw_A hw hl.1 dX7_count_97 dX7_count_100 dX7_count_101 dX7_count_104 (by decide) (Nat.le_of_ble_eq_true rfl) (by decide) (by decide) (⟨rfl, fun ⟨j, h1, h2⟩ => absurd hx (by rw [h1]; exact nI_ge (by omega) (by decide)), (fun z _ => rfl), hI6⟩)
  · subst hwj
    rcases (show j = 0 ∨ j = 1 ∨ j = 2 ∨ j = 3 ∨ j = 4 ∨ j = 5 ∨ j = 6 by omega) with rfl | rfl | rfl | rfl | rfl | rfl | rfl
    · refine lv_tableIn (off := 43) (tgt := 44) C.1 C.2.1 dX7_count_1 (by decide) (by decide) (by decide) (by decide) ?_
      refine lv_aload_n C.1 C.2.1 dX7_count_44 rfl (lv_at hl 0 rfl) ?_
      refine k_get C F hw (0) (by omega) eO rfl in_X7 1 (by decide) fl_X7_19 rfl dX7_count_45 ?_
      refine k_getN C F hw (4) (by omega) hT4.1 rfl in_X5 1 (by decide) fl_X7_73 rfl dX7_count_48 ?_
      have hF12 : FieldAt ca ad g 1 pw ex := ⟨hF.1, hF.2.1, hF.2.2⟩
      have hK13 : PkAt ca ad g 6 v0 pl0 := ⟨hK.1, hK.2⟩
      have hE14 : EqAt ca ad g 8 1 Lw Tw sw.1 sw.2.1 sw.2.2.1 sw.2.2.2 := ⟨hEw.1, hEw.2.1, hEw.2.2.1, hEw.2.2.2.1, hEw.2.2.2.2⟩
      have hE15 : EqAt ca ad g 135 1 (if ck = 0 then 0 else ck + 11) ct rk M ld ln0 := ⟨hEc.1, hEc.2.1, hEc.2.2.1, hEc.2.2.2.1, hEc.2.2.2.2⟩
      have hI11 : DInv ca ad g pw ex fb len h bk bt BM ck ct cn rk M ld := ⟨eO, hF12, ⟨hT4.1, hT4.2⟩, ⟨_, _, hK13⟩, ⟨_, _, _, hE14, hBw⟩, eT, ⟨_, eD, hfd⟩, ⟨hB.1, hB.2.1, hB.2.2⟩, hC, ⟨_, hln0, hE15⟩, ⟨hlen, hh⟩, ⟨hbk, hBM⟩, ⟨hck, hM⟩⟩
      exact hret H locs ls _ _ _ dX7_count_51 hw (⟨(fun z _ => rfl), 0, rfl, by decide, rfl, hI11⟩)
    · refine lv_tableIn (off := 51) (tgt := 52) C.1 C.2.1 dX7_count_1 (by decide) (by decide) (by decide) (by decide) ?_
      refine lv_aload_n C.1 C.2.1 dX7_count_52 rfl (lv_at hl 0 rfl) ?_
      refine k_get C F hw (0) (by omega) eO rfl in_X7 5 (by decide) fl_X7_51 rfl dX7_count_53 ?_
      refine k_getN C F hw (73) (by omega) hB.1 rfl in_X0 1 (by decide) fl_X7_98 rfl dX7_count_56 ?_
      have hF17 : FieldAt ca ad g 1 pw ex := ⟨hF.1, hF.2.1, hF.2.2⟩
      have hK18 : PkAt ca ad g 6 v0 pl0 := ⟨hK.1, hK.2⟩
      have hE19 : EqAt ca ad g 8 1 Lw Tw sw.1 sw.2.1 sw.2.2.1 sw.2.2.2 := ⟨hEw.1, hEw.2.1, hEw.2.2.1, hEw.2.2.2.1, hEw.2.2.2.2⟩
      have hE20 : EqAt ca ad g 135 1 (if ck = 0 then 0 else ck + 11) ct rk M ld ln0 := ⟨hEc.1, hEc.2.1, hEc.2.2.1, hEc.2.2.2.1, hEc.2.2.2.2⟩
      have hI16 : DInv ca ad g pw ex fb len h bk bt BM ck ct cn rk M ld := ⟨eO, hF17, ⟨hT4.1, hT4.2⟩, ⟨_, _, hK18⟩, ⟨_, _, _, hE19, hBw⟩, eT, ⟨_, eD, hfd⟩, ⟨hB.1, hB.2.1, hB.2.2⟩, hC, ⟨_, hln0, hE20⟩, ⟨hlen, hh⟩, ⟨hbk, hBM⟩, ⟨hck, hM⟩⟩
      exact hret H locs ls _ _ _ dX7_count_59 hw (⟨(fun z _ => rfl), 1, rfl, by decide, rfl, hI16⟩)
    · refine lv_tableIn (off := 59) (tgt := 60) C.1 C.2.1 dX7_count_1 (by decide) (by decide) (by decide) (by decide) ?_
      refine lv_aload_n C.1 C.2.1 dX7_count_60 rfl (lv_at hl 0 rfl) ?_
      refine k_get C F hw (0) (by omega) eO rfl in_X7 5 (by decide) fl_X7_51 rfl dX7_count_61 ?_
      refine k_getN C F hw (73) (by omega) hB.1 rfl in_X0 2 (by decide) fl_X7_107 rfl dX7_count_64 ?_
      have hF22 : FieldAt ca ad g 1 pw ex := ⟨hF.1, hF.2.1, hF.2.2⟩
      have hK23 : PkAt ca ad g 6 v0 pl0 := ⟨hK.1, hK.2⟩
      have hE24 : EqAt ca ad g 8 1 Lw Tw sw.1 sw.2.1 sw.2.2.1 sw.2.2.2 := ⟨hEw.1, hEw.2.1, hEw.2.2.1, hEw.2.2.2.1, hEw.2.2.2.2⟩
      have hE25 : EqAt ca ad g 135 1 (if ck = 0 then 0 else ck + 11) ct rk M ld ln0 := ⟨hEc.1, hEc.2.1, hEc.2.2.1, hEc.2.2.2.1, hEc.2.2.2.2⟩
      have hI21 : DInv ca ad g pw ex fb len h bk bt BM ck ct cn rk M ld := ⟨eO, hF22, ⟨hT4.1, hT4.2⟩, ⟨_, _, hK23⟩, ⟨_, _, _, hE24, hBw⟩, eT, ⟨_, eD, hfd⟩, ⟨hB.1, hB.2.1, hB.2.2⟩, hC, ⟨_, hln0, hE25⟩, ⟨hlen, hh⟩, ⟨hbk, hBM⟩, ⟨hck, hM⟩⟩
      exact hret H locs ls _ _ _ dX7_count_67 hw (⟨(fun z _ => rfl), 2, rfl, by decide, rfl, hI21⟩)
    · refine lv_tableIn (off := 67) (tgt := 68) C.1 C.2.1 dX7_count_1 (by decide) (by decide) (by decide) (by decide) ?_
      refine lv_aload_n C.1 C.2.1 dX7_count_68 rfl (lv_at hl 0 rfl) ?_
      refine k_get C F hw (0) (by omega) eO rfl in_X7 6 (by decide) fl_X7_58 rfl dX7_count_69 ?_
      refine k_getN C F hw (134) (by omega) hC rfl in_X1 1 (by decide) fl_X7_147 rfl dX7_count_72 ?_
      have hF27 : FieldAt ca ad g 1 pw ex := ⟨hF.1, hF.2.1, hF.2.2⟩
      have hK28 : PkAt ca ad g 6 v0 pl0 := ⟨hK.1, hK.2⟩
      have hE29 : EqAt ca ad g 8 1 Lw Tw sw.1 sw.2.1 sw.2.2.1 sw.2.2.2 := ⟨hEw.1, hEw.2.1, hEw.2.2.1, hEw.2.2.2.1, hEw.2.2.2.2⟩
      have hE30 : EqAt ca ad g 135 1 (if ck = 0 then 0 else ck + 11) ct rk M ld ln0 := ⟨hEc.1, hEc.2.1, hEc.2.2.1, hEc.2.2.2.1, hEc.2.2.2.2⟩
      have hI26 : DInv ca ad g pw ex fb len h bk bt BM ck ct cn rk M ld := ⟨eO, hF27, ⟨hT4.1, hT4.2⟩, ⟨_, _, hK28⟩, ⟨_, _, _, hE29, hBw⟩, eT, ⟨_, eD, hfd⟩, ⟨hB.1, hB.2.1, hB.2.2⟩, hC, ⟨_, hln0, hE30⟩, ⟨hlen, hh⟩, ⟨hbk, hBM⟩, ⟨hck, hM⟩⟩
      exact hret H locs ls _ _ _ dX7_count_75 hw (⟨(fun z _ => rfl), 3, rfl, by decide, rfl, hI26⟩)
    · refine lv_tableIn (off := 75) (tgt := 76) C.1 C.2.1 dX7_count_1 (by decide) (by decide) (by decide) (by decide) ?_
      refine lv_aload_n C.1 C.2.1 dX7_count_76 rfl (lv_at hl 0 rfl) ?_
      refine k_get C F hw (0) (by omega) eO rfl in_X7 6 (by decide) fl_X7_58 rfl dX7_count_77 ?_
      refine k_getN C F hw (134) (by omega) hC rfl in_X1 2 (by decide) fl_X7_148 rfl dX7_count_80 ?_
      have hF32 : FieldAt ca ad g 1 pw ex := ⟨hF.1, hF.2.1, hF.2.2⟩
      have hK33 : PkAt ca ad g 6 v0 pl0 := ⟨hK.1, hK.2⟩
      have hE34 : EqAt ca ad g 8 1 Lw Tw sw.1 sw.2.1 sw.2.2.1 sw.2.2.2 := ⟨hEw.1, hEw.2.1, hEw.2.2.1, hEw.2.2.2.1, hEw.2.2.2.2⟩
      have hE35 : EqAt ca ad g 135 1 (if ck = 0 then 0 else ck + 11) ct rk M ld ln0 := ⟨hEc.1, hEc.2.1, hEc.2.2.1, hEc.2.2.2.1, hEc.2.2.2.2⟩
      have hI31 : DInv ca ad g pw ex fb len h bk bt BM ck ct cn rk M ld := ⟨eO, hF32, ⟨hT4.1, hT4.2⟩, ⟨_, _, hK33⟩, ⟨_, _, _, hE34, hBw⟩, eT, ⟨_, eD, hfd⟩, ⟨hB.1, hB.2.1, hB.2.2⟩, hC, ⟨_, hln0, hE35⟩, ⟨hlen, hh⟩, ⟨hbk, hBM⟩, ⟨hck, hM⟩⟩
      exact hret H locs ls _ _ _ dX7_count_83 hw (⟨(fun z _ => rfl), 4, rfl, by decide, rfl, hI31⟩)
    · refine lv_tableIn (off := 83) (tgt := 84) C.1 C.2.1 dX7_count_1 (by decide) (by decide) (by decide) (by decide) ?_
      refine lv_aload_n C.1 C.2.1 dX7_count_84 rfl (lv_at hl 0 rfl) ?_
      refine k_get C F hw (0) (by omega) eO rfl in_X7 6 (by decide) fl_X7_58 rfl dX7_count_85 ?_
      refine k_getN C F hw (134) (by omega) hC rfl in_X1 4 (by decide) fl_X7_167 rfl dX7_count_88 ?_
      have hF37 : FieldAt ca ad g 1 pw ex := ⟨hF.1, hF.2.1, hF.2.2⟩
      have hK38 : PkAt ca ad g 6 v0 pl0 := ⟨hK.1, hK.2⟩
      have hE39 : EqAt ca ad g 8 1 Lw Tw sw.1 sw.2.1 sw.2.2.1 sw.2.2.2 := ⟨hEw.1, hEw.2.1, hEw.2.2.1, hEw.2.2.2.1, hEw.2.2.2.2⟩
      have hE40 : EqAt ca ad g 135 1 (if ck = 0 then 0 else ck + 11) ct rk M ld ln0 := ⟨hEc.1, hEc.2.1, hEc.2.2.1, hEc.2.2.2.1, hEc.2.2.2.2⟩
      have hI36 : DInv ca ad g pw ex fb len h bk bt BM ck ct cn rk M ld := ⟨eO, hF37, ⟨hT4.1, hT4.2⟩, ⟨_, _, hK38⟩, ⟨_, _, _, hE39, hBw⟩, eT, ⟨_, eD, hfd⟩, ⟨hB.1, hB.2.1, hB.2.2⟩, hC, ⟨_, hln0, hE40⟩, ⟨hlen, hh⟩, ⟨hbk, hBM⟩, ⟨hck, hM⟩⟩
      exact hret H locs ls _ _ _ dX7_count_91 hw (⟨(fun z _ => rfl), 5, rfl, by decide, rfl, hI36⟩)
    · refine lv_tableIn (off := 91) (tgt := 92) C.1 C.2.1 dX7_count_1 (by decide) (by decide) (by decide) (by decide) ?_
      refine lv_aload_n C.1 C.2.1 dX7_count_92 rfl (lv_at hl 0 rfl) ?_
      refine k_Vi C F hw (i := 0) (As := []) (rest := []) (c_X7_symbolsThatFollow pw ex hX hP hR fb hfb len h bk bt BM ck ct cn rk M ld hI0 dv hdv) (by omega) eO rfl (cwV _ C.2.2.2.2 gm_X7_170 rfl rfl rfl cd_X7_symbolsThatFollow ⟨by decide, by decide⟩) hl.1 rfl (Nat.le_of_ble_eq_true rfl) dX7_count_93 ⟨by decide, by decide⟩ (fun r41 g42 H locs hp hw => ?_)
      obtain ⟨hs9, hr9, hI9⟩ := hp
      subst hr9
      exact hret H locs ls _ _ _ dX7_count_96 hw (⟨hs9, 6, rfl, by decide, rfl, hI9⟩)
