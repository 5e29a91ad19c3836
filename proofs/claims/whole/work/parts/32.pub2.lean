/-! ===== block, byteAt, row, open, rank, product ===== -/

theorem ld_by {T : Nat} {M : Nat → Nat → Nat} (hM : ∀ p, By (M p)) : ∀ (n : Nat) (BM : Nat → Nat → Nat), (∀ p, By (BM p)) → ∀ p, By (fr (ldStep T M) n BM p)
  | 0, BM, h => h
  | n + 1, BM, h => by
    rw [fr_s]
    refine By2.up (ld_by hM n BM h) (fun j => ?_)
    unfold va_cpy
    split
    · exact hM _ _
    · exact ld_by hM n BM h _ _

abbrev rm_X7_block : Room := { frames := 6, cells := 1, slots := 6, locals := 150 }

theorem no_k {kx tx : Int32} {len : Nat} (h : decide (1 ≤ kx ∧ kx ≤ 48) = false) : ¬ ∃ k t : Nat, kx = nI k ∧ tx = nI t ∧ (1 ≤ k ∧ k ≤ 48) ∧ (1 ≤ t ∧ t ≤ 16) ∧ len = k * t := fun ⟨k, t, h1, h2, h3, h4, h5⟩ => of_decide_eq_false h ⟨by rw [h1]; exact nI_le (a := 1) h3.1 (by omega), by rw [h1]; exact nI_le (b := 48) h3.2 (by decide)⟩
theorem no_t {kx tx : Int32} {len : Nat} (h : decide (1 ≤ tx ∧ tx ≤ 16) = false) : ¬ ∃ k t : Nat, kx = nI k ∧ tx = nI t ∧ (1 ≤ k ∧ k ≤ 48) ∧ (1 ≤ t ∧ t ≤ 16) ∧ len = k * t := fun ⟨k, t, h1, h2, h3, h4, h5⟩ => of_decide_eq_false h ⟨by rw [h2]; exact nI_le (a := 1) h4.1 (by omega), by rw [h2]; exact nI_le (b := 16) h4.2 (by decide)⟩
theorem no_kt {k t len : Nat} (hk : 1 ≤ k ∧ k ≤ 48) (ht : 1 ≤ t ∧ t ≤ 16) (h : len ≠ k * t) : ¬ ∃ k' t' : Nat, nI k = nI k' ∧ nI t = nI t' ∧ (1 ≤ k' ∧ k' ≤ 48) ∧ (1 ≤ t' ∧ t' ≤ 16) ∧ len = k' * t' := fun ⟨k', t', h1, h2, h3, h4, h5⟩ => by
  have e1 := (nI_eq (by omega) (by omega)).mp h1
  have e2 := (nI_eq (by omega) (by omega)).mp h2
  subst e1; subst e2
  exact h h5

set_option maxHeartbeats 800000 in
set_option maxRecDepth 100000 in
/-- FountainDesk.block -/
theorem c_X7_block {l : Launch} {D : va_G} {ca : Nat → ClassId} {tB tS R : Nat} {ad : Nat → Nat} {g : Nat → va_E} {sz : Nat} (hlt : l.stackTraces = false) (pw ex : Nat → Nat) (hX : ExOk ex) (hP : PwOk pw) (hR : 197 < R) (fb : Nat → Nat → Bool) (hfb : ∀ k t s pl, 1 ≤ k → k ≤ 48 → EqBy s → t < 1000 → fillB pw ex k t s pl = fb k t) (len : Nat) (h : Nat → Nat) (bk bt : Nat) (BM : Nat → Nat → Nat) (ck ct cn rk : Nat) (M : Nat → Nat → Nat) (ld : Nat → Bool) (hI : DInv ca ad g pw ex fb len h bk bt BM ck ct cn rk M ld) (kx tx : Int32) : XMV l yX7_block cX7_block 4 rm_X7_block D ca tB tS R ad g sz [.ref (ad 0), .int (kx), .int (tx)] (fun g1 => (∀ z, 197 < z → g1 z = g z) ∧ ∃ k t : Nat, kx = nI k ∧ tx = nI t ∧ (1 ≤ k ∧ k ≤ 48) ∧ (1 ≤ t ∧ t ≤ 16) ∧ len = k * t ∧ ∃ s1 pl1, EqBy s1 ∧ EqBy (svAt pw ex k t (tnN (fb k)) h s1 pl1 k).1 ∧ DInv ca ad g1 pw ex fb 0 h k t (fr (ldStep t (svAt pw ex k t (tnN (fb k)) h s1 pl1 k).1.2.1) (k + 11) BM) ck ct cn rk M ld) (fun E g1 => E = xA ∧ (¬ ∃ k t : Nat, kx = nI k ∧ tx = nI t ∧ (1 ≤ k ∧ k ≤ 48) ∧ (1 ≤ t ∧ t ≤ 16) ∧ len = k * t) ∧ (∀ z, 197 < z → g1 z = g z) ∧ DInv ca ad g1 pw ex fb len h bk bt BM ck ct cn rk M ld) := by
  refine x_startV hlt (by decide) (Nat.le_of_ble_eq_true rfl) (fun p e s m args below meth c ls Q hsz C hl F hw hret hthr => ?_)
  have hl : lv_has ls 4 [(0, .ref (ad 0)), (1, .int (kx)), (2, .int (tx))] := hl
  generalize s.heap = H at hw ⊢
  generalize ([] : List Loc) = locs at hw ⊢
  obtain ⟨eO, hF, hT4, ⟨v0, pl0, hK⟩, ⟨Lw, Tw, sw, hEw, hBw⟩, eT, ⟨fd, eD, hfd⟩, hB, hC, ⟨ln0, hln0, hEc⟩, ⟨hlen, hh⟩, ⟨hbk, hBM⟩, ⟨hck, hM⟩⟩ := hI
  refine lv_iload_n C.1 C.2.1 dX7_block_0 rfl (lv_at hl 1 rfl) ?_
  refine k_Si C F hw (As := [.int (kx)]) (rest := []) (c_X7_isSymbolCount kx) (va_cwS _ C.2.2.2.2 gm_X7_80 rfl rfl rfl cd_X7_isSymbolCount.2 ⟨by decide, by decide⟩) hl.1 rfl (Nat.le_of_ble_eq_true rfl) dX7_block_1 ⟨by decide, by decide⟩ (fun r1 g2 H locs hp hw => ?_)
  obtain ⟨hr9, hg9⟩ := hp
  rw [hg9] at hw
  subst hr9
  refine k_beq (tgt := 27) C dX7_block_4 (by decide) (fun hc4 => ?_) (fun hc4 => ?_)
  · have hF4 : FieldAt ca ad g 1 pw ex := ⟨hF.1, hF.2.1, hF.2.2⟩
    have hK5 : PkAt ca ad g 6 v0 pl0 := ⟨hK.1, hK.2⟩
    have hE6 : EqAt ca ad g 8 1 Lw Tw sw.1 sw.2.1 sw.2.2.1 sw.2.2.2 := ⟨hEw.1, hEw.2.1, hEw.2.2.1, hEw.2.2.2.1, hEw.2.2.2.2⟩
    have hE7 : EqAt ca ad g 135 1 (if ck = 0 then 0 else ck + 11) ct rk M ld ln0 := ⟨hEc.1, hEc.2.1, hEc.2.2.1, hEc.2.2.2.1, hEc.2.2.2.2⟩
    have hI3 : DInv ca ad g pw ex fb len h bk bt BM ck ct cn rk M ld := ⟨eO, hF4, ⟨hT4.1, hT4.2⟩, ⟨_, _, hK5⟩, ⟨_, _, _, hE6, hBw⟩, eT, ⟨_, eD, hfd⟩, ⟨hB.1, hB.2.1, hB.2.2⟩, hC, ⟨_, hln0, hE7⟩, ⟨hlen, hh⟩, ⟨hbk, hBM⟩, ⟨hck, hM⟩⟩
    exact hthr H locs ls _ _ _ xA 77 79 tw_A hw hl.1 dX7_block_27 dX7_block_30 dX7_block_31 dX7_block_34 (by decide) (Nat.le_of_ble_eq_true rfl) (by decide) (by decide) (⟨rfl, by first | exact no_kt hk ht hc24 | exact no_t hc11 | exact no_k hc4, (fun z _ => rfl), hI3⟩)
  · obtain ⟨k, hk, rfl⟩ := nat_of48 (of_decide_eq_true hc4)
    refine lv_iload_n C.1 C.2.1 dX7_block_7 rfl (lv_at hl 2 rfl) ?_
    refine k_Si C F hw (As := [.int (tx)]) (rest := []) (c_X7_isByteCount tx) (va_cwS _ C.2.2.2.2 gm_X7_87 rfl rfl rfl cd_X7_isByteCount.2 ⟨by decide, by decide⟩) hl.1 rfl (Nat.le_of_ble_eq_true rfl) dX7_block_8 ⟨by decide, by decide⟩ (fun r8 g9 H locs hp hw => ?_)
    obtain ⟨hr9, hg9⟩ := hp
    rw [hg9] at hw
    subst hr9
    refine k_beq (tgt := 27) C dX7_block_11 (by decide) (fun hc11 => ?_) (fun hc11 => ?_)
    · have hF11 : FieldAt ca ad g 1 pw ex := ⟨hF.1, hF.2.1, hF.2.2⟩
      have hK12 : PkAt ca ad g 6 v0 pl0 := ⟨hK.1, hK.2⟩
      have hE13 : EqAt ca ad g 8 1 Lw Tw sw.1 sw.2.1 sw.2.2.1 sw.2.2.2 := ⟨hEw.1, hEw.2.1, hEw.2.2.1, hEw.2.2.2.1, hEw.2.2.2.2⟩
      have hE14 : EqAt ca ad g 135 1 (if ck = 0 then 0 else ck + 11) ct rk M ld ln0 := ⟨hEc.1, hEc.2.1, hEc.2.2.1, hEc.2.2.2.1, hEc.2.2.2.2⟩
      have hI10 : DInv ca ad g pw ex fb len h bk bt BM ck ct cn rk M ld := ⟨eO, hF11, ⟨hT4.1, hT4.2⟩, ⟨_, _, hK12⟩, ⟨_, _, _, hE13, hBw⟩, eT, ⟨_, eD, hfd⟩, ⟨hB.1, hB.2.1, hB.2.2⟩, hC, ⟨_, hln0, hE14⟩, ⟨hlen, hh⟩, ⟨hbk, hBM⟩, ⟨hck, hM⟩⟩
      exact hthr H locs ls _ _ _ xA 77 79 tw_A hw hl.1 dX7_block_27 dX7_block_30 dX7_block_31 dX7_block_34 (by decide) (Nat.le_of_ble_eq_true rfl) (by decide) (by decide) (⟨rfl, by first | exact no_kt hk ht hc24 | exact no_t hc11 | exact no_k hc4, (fun z _ => rfl), hI10⟩)
    · obtain ⟨t, ht, rfl⟩ := nat_of16 (of_decide_eq_true hc11)
      have hkt : k * t ≤ 48 * 16 := Nat.mul_le_mul hk.2 ht.2
      refine lv_aload_n C.1 C.2.1 dX7_block_14 rfl (lv_at hl 0 rfl) ?_
      refine k_get C F hw (0) (by omega) eO rfl in_X7 1 (by decide) fl_X7_19 rfl dX7_block_15 ?_
      refine k_getN C F hw (4) (by omega) hT4.1 rfl in_X5 1 (by decide) fl_X7_73 rfl dX7_block_18 ?_
      refine lv_iload_n C.1 C.2.1 dX7_block_21 rfl (lv_at hl 1 rfl) ?_
      refine lv_iload_n C.1 C.2.1 dX7_block_22 rfl (lv_at hl 2 rfl) ?_
      refine k_mul C dX7_block_23 ?_
      refine k_ieq (tgt := 35) C dX7_block_24 (by decide) (by omega) (by omega) (fun hc24 => ?_) (fun hc24 => ?_)
      · refine lv_aload_n C.1 C.2.1 dX7_block_35 rfl (lv_at hl 0 rfl) ?_
        refine k_get C F hw (0) (by omega) eO rfl in_X7 4 (by decide) fl_X7_44 rfl dX7_block_36 ?_
        refine lv_iload_n C.1 C.2.1 dX7_block_39 rfl (lv_at hl 1 rfl) ?_
        have hF15 : FieldAt ca ad g 1 pw ex := ⟨hF.1, hF.2.1, hF.2.2⟩
        have hE16 : EqAt ca ad g 8 1 Lw Tw sw.1 sw.2.1 sw.2.2.1 sw.2.2.2 := ⟨hEw.1, hEw.2.1, hEw.2.2.1, hEw.2.2.2.1, hEw.2.2.2.2⟩
        have hK17 : PkAt ca ad g 6 v0 pl0 := ⟨hK.1, hK.2⟩
        refine k_Vi C F hw (i := 71) (As := [.int (nI k)]) (rest := []) (c_X6_of pw ex hF15 hX hP hR ⟨_, _, _, hE16, hBw⟩ ⟨_, _, hK17⟩ eT fd eD k hk (fb k) (fun t s pl h1 h2 => hfb k t s pl hk.1 hk.2 h1 h2) (hfd k hk.1 hk.2)) (by omega) eT rfl (cwV _ C.2.2.2.2 gm_X7_83 rfl rfl rfl cd_X6_of ⟨by decide, by decide⟩) hl.1 rfl (Nat.le_of_ble_eq_true rfl) dX7_block_40 ⟨by decide, by decide⟩ (fun r18 g19 H locs hp hw => ?_)
        obtain ⟨hs20, hr9, ⟨L20, T20, s20, hE20, hB20⟩, ⟨v20, pl20, hK20⟩, fd20, eD20, hfk20, hfo20⟩ := hp
        subst hr9
        have hfd20 : ∀ k9, 1 ≤ k9 → k9 ≤ 48 → fd20 k9 = -1 ∨ fd20 k9 = nI (tnN (fb k9)) := fun k9 h1 h2 => by by_cases h9 : k9 = k; (rw [h9]; exact Or.inr hfk20); (rw [hfo20 k9 h9]; exact hfd k9 h1 h2)
        have htn20 := tnN_le (fb k)
        have e21 : g19 (0) = .inr (7, [.ref (ad 1), .ref (ad 4), .ref (ad 6), .ref (ad 8), .ref (ad 71), .ref (ad 73), .ref (ad 134)]) := (hs20 _ (by omega)).trans eO
        have e22 : g19 (1) = .inr (3, [.ref (ad (1 + 1)), .ref (ad (1 + 2))]) := (hs20 _ (by omega)).trans hF.1
        have e23 : g19 (1 + 1) = na ca 510 (pw) := (hs20 _ (by omega)).trans hF.2.1
        have e24 : g19 (1 + 2) = na ca 256 (ex) := (hs20 _ (by omega)).trans hF.2.2
        have e25 : g19 (4) = .inr (5, [.ref (ad (4 + 1)), .int (nI len)]) := (hs20 _ (by omega)).trans hT4.1
        have e26 : g19 (4 + 1) = na ca 800 (h) := (hs20 _ (by omega)).trans hT4.2
        have e27 : g19 (71) = .inr (6, [.ref (ad 8), .ref (ad 6), .ref (ad 72)]) := (hs20 _ (by omega)).trans eT
        have e28 : g19 (73) = .inr (0, [.ref (ad 74), .int (nI bk), .int (nI bt), .int (nI (if bk = 0 then 0 else tnN (fb bk)))]) := (hs20 _ (by omega)).trans hB.1
        have e29 : g19 (74) = qa ca 59 (fun i => if i < 59 then some (ad (75 + i)) else none) := (hs20 _ (by omega)).trans hB.2.1
        have e30 : g19 (134) = .inr (1, [.ref (ad 135), .int (nI ck), .int (nI ct), .int (nI (if ck = 0 then 0 else tnN (fb ck))), .int (nI cn)]) := (hs20 _ (by omega)).trans hC
        have e31 : g19 (135) = .inr (2, [.ref (ad 1), .ref (ad (135 + 1)), .ref (ad (135 + 61)), .ref (ad (135 + 62)), .int (nI (if ck = 0 then 0 else ck + 11)), .int (nI ct), .int (nI rk)]) := (hs20 _ (by omega)).trans hEc.1
        have e32 : g19 (135 + 1) = qa ca 59 (fun i => if i < 59 then some (ad (135 + 2 + i)) else none) := (hs20 _ (by omega)).trans hEc.2.1
        have e33 : g19 (135 + 61) = za ca 59 (ld) := (hs20 _ (by omega)).trans hEc.2.2.2.1
        have e34 : g19 (135 + 62) = na ca 75 (ln0) := (hs20 _ (by omega)).trans hEc.2.2.2.2
        have hr35 : ∀ p9, p9 < 59 → g19 (75 + p9) = na ca 16 (BM p9) := fun p9 hp9 => (hs20 _ (by omega)).trans (hB.2.2 p9 hp9)
        have hr36 : ∀ p9, p9 < 59 → g19 (135 + 2 + p9) = na ca 75 (M p9) := fun p9 hp9 => (hs20 _ (by omega)).trans (hEc.2.2.1 p9 hp9)
        have hs37 : ∀ z, (197 < z) → g19 z = g z := fun z hz => hs20 z (by omega)
        refine lv_istore_n (lv' := [(3, .int (nI (tnN (fb k)))), (0, .ref (ad 0)), (1, .int (nI k)), (2, .int (nI t))]) C.1 C.2.1 dX7_block_43 rfl hl (by decide) rfl (fun ls hl => ?_)
        refine lv_aload_n C.1 C.2.1 dX7_block_44 rfl (lv_at hl 1 rfl) ?_
        refine lv_iload_n C.1 C.2.1 dX7_block_45 rfl (lv_at hl 2 rfl) ?_
        refine lv_iload_n C.1 C.2.1 dX7_block_46 rfl (lv_at hl 3 rfl) ?_
        refine lv_iload_n C.1 C.2.1 dX7_block_47 rfl (lv_at hl 0 rfl) ?_
        have hF38 : FieldAt ca ad g19 1 pw ex := ⟨e22, e23, e24⟩
        have hE39 : EqAt ca ad g19 8 1 L20 T20 s20.1 s20.2.1 s20.2.2.1 s20.2.2.2 := ⟨hE20.1, hE20.2.1, hE20.2.2.1, hE20.2.2.2.1, hE20.2.2.2.2⟩
        have hK40 : PkAt ca ad g19 6 v20 pl20 := ⟨hK20.1, hK20.2⟩
        have hT9 : TpAt ca ad g19 len h := ⟨e25, e26⟩
        refine k_Vv C F hw (i := 0) (As := [.int (nI k), .int (nI t), .int (nI (tnN (fb k)))]) (rest := []) (c_X7_solveTape pw ex hF38 hX hP hR e21 len h hT9 hh _ _ s20 hE39 hB20 v20 pl20 hK40 k t (tnN (fb k)) hk ht (by omega)) (by omega) e21 rfl (cwV _ C.2.2.2.2 gm_X7_90 rfl rfl rfl cd_X7_solveTape ⟨by decide, by decide⟩) hl.1 rfl (Nat.le_of_ble_eq_true rfl) dX7_block_48 ⟨by decide, by decide⟩ (fun g42 H locs hp hw => ?_)
        obtain ⟨hs43, hE43, hB43, ⟨v43, pl43, hK43⟩⟩ := hp
        have e44 : g42 (0) = .inr (7, [.ref (ad 1), .ref (ad 4), .ref (ad 6), .ref (ad 8), .ref (ad 71), .ref (ad 73), .ref (ad 134)]) := (hs43 _ (by omega)).trans e21
        have e45 : g42 (1) = .inr (3, [.ref (ad (1 + 1)), .ref (ad (1 + 2))]) := (hs43 _ (by omega)).trans e22
        have e46 : g42 (1 + 1) = na ca 510 (pw) := (hs43 _ (by omega)).trans e23
        have e47 : g42 (1 + 2) = na ca 256 (ex) := (hs43 _ (by omega)).trans e24
        have e48 : g42 (4) = .inr (5, [.ref (ad (4 + 1)), .int (nI len)]) := (hs43 _ (by omega)).trans e25
        have e49 : g42 (4 + 1) = na ca 800 (h) := (hs43 _ (by omega)).trans e26
        have e50 : g42 (71) = .inr (6, [.ref (ad 8), .ref (ad 6), .ref (ad 72)]) := (hs43 _ (by omega)).trans e27
        have e51 : g42 (73) = .inr (0, [.ref (ad 74), .int (nI bk), .int (nI bt), .int (nI (if bk = 0 then 0 else tnN (fb bk)))]) := (hs43 _ (by omega)).trans e28
        have e52 : g42 (74) = qa ca 59 (fun i => if i < 59 then some (ad (75 + i)) else none) := (hs43 _ (by omega)).trans e29
        have e53 : g42 (134) = .inr (1, [.ref (ad 135), .int (nI ck), .int (nI ct), .int (nI (if ck = 0 then 0 else tnN (fb ck))), .int (nI cn)]) := (hs43 _ (by omega)).trans e30
        have e54 : g42 (135) = .inr (2, [.ref (ad 1), .ref (ad (135 + 1)), .ref (ad (135 + 61)), .ref (ad (135 + 62)), .int (nI (if ck = 0 then 0 else ck + 11)), .int (nI ct), .int (nI rk)]) := (hs43 _ (by omega)).trans e31
        have e55 : g42 (135 + 1) = qa ca 59 (fun i => if i < 59 then some (ad (135 + 2 + i)) else none) := (hs43 _ (by omega)).trans e32
        have e56 : g42 (135 + 61) = za ca 59 (ld) := (hs43 _ (by omega)).trans e33
        have e57 : g42 (135 + 62) = na ca 75 (ln0) := (hs43 _ (by omega)).trans e34
        have e58 : g42 (72) = ia ca 49 (fd20) := (hs43 _ (by omega)).trans eD20
        have hr59 : ∀ p9, p9 < 59 → g42 (75 + p9) = na ca 16 (BM p9) := fun p9 hp9 => (hs43 _ (by omega)).trans (hr35 p9 hp9)
        have hr60 : ∀ p9, p9 < 59 → g42 (135 + 2 + p9) = na ca 75 (M p9) := fun p9 hp9 => (hs43 _ (by omega)).trans (hr36 p9 hp9)
        have hs61 : ∀ z, (197 < z) → g42 z = g z := fun z hz => (hs43 z (by omega)).trans (hs37 z hz)
        refine lv_aload_n C.1 C.2.1 dX7_block_51 rfl (lv_at hl 1 rfl) ?_
        refine k_get C F hw (0) (by omega) e44 rfl in_X7 5 (by decide) fl_X7_51 rfl dX7_block_52 ?_
        refine lv_aload_n C.1 C.2.1 dX7_block_55 rfl (lv_at hl 1 rfl) ?_
        refine k_get C F hw (0) (by omega) e44 rfl in_X7 3 (by decide) fl_X7_35 rfl dX7_block_56 ?_
        refine lv_iload_n C.1 C.2.1 dX7_block_59 rfl (lv_at hl 2 rfl) ?_
        refine lv_iload_n C.1 C.2.1 dX7_block_60 rfl (lv_at hl 0 rfl) ?_
        have hB62 : BlkAt ca ad g42 bk bt (if bk = 0 then 0 else tnN (fb bk)) BM := ⟨e51, e52, hr59⟩
        have hE63 : EqAt ca ad g42 8 1 (k + 11) t ((svAt pw ex k t (tnN (fb k)) h s20 pl20 k).1.1) ((svAt pw ex k t (tnN (fb k)) h s20 pl20 k).1.2.1) ((svAt pw ex k t (tnN (fb k)) h s20 pl20 k).1.2.2.1) ((svAt pw ex k t (tnN (fb k)) h s20 pl20 k).1.2.2.2) := ⟨hE43.1, hE43.2.1, hE43.2.2.1, hE43.2.2.2.1, hE43.2.2.2.2⟩
        refine k_Vv C F hw (i := 73) (As := [.ref (ad 8), .int (nI k), .int (nI (tnN (fb k)))]) (rest := []) (c_X0_load hR bk bt _ BM hB62 (k + 11) t (svAt pw ex k t (tnN (fb k)) h s20 pl20 k).1 hE63 (by omega) (by omega) k (tnN (fb k))) (by omega) e51 rfl (cwV _ C.2.2.2.2 gm_X7_94 rfl rfl rfl cd_X0_load ⟨by decide, by decide⟩) hl.1 rfl (Nat.le_of_ble_eq_true rfl) dX7_block_61 ⟨by decide, by decide⟩ (fun g65 H locs hp hw => ?_)
        obtain ⟨hs66, hB67⟩ := hp
        have e68 : g65 (0) = .inr (7, [.ref (ad 1), .ref (ad 4), .ref (ad 6), .ref (ad 8), .ref (ad 71), .ref (ad 73), .ref (ad 134)]) := (hs66 _ (by omega)).trans e44
        have e69 : g65 (1) = .inr (3, [.ref (ad (1 + 1)), .ref (ad (1 + 2))]) := (hs66 _ (by omega)).trans e45
        have e70 : g65 (1 + 1) = na ca 510 (pw) := (hs66 _ (by omega)).trans e46
        have e71 : g65 (1 + 2) = na ca 256 (ex) := (hs66 _ (by omega)).trans e47
        have e72 : g65 (4) = .inr (5, [.ref (ad (4 + 1)), .int (nI len)]) := (hs66 _ (by omega)).trans e48
        have e73 : g65 (4 + 1) = na ca 800 (h) := (hs66 _ (by omega)).trans e49
        have e74 : g65 (71) = .inr (6, [.ref (ad 8), .ref (ad 6), .ref (ad 72)]) := (hs66 _ (by omega)).trans e50
        have e75 : g65 (134) = .inr (1, [.ref (ad 135), .int (nI ck), .int (nI ct), .int (nI (if ck = 0 then 0 else tnN (fb ck))), .int (nI cn)]) := (hs66 _ (by omega)).trans e53
        have e76 : g65 (135) = .inr (2, [.ref (ad 1), .ref (ad (135 + 1)), .ref (ad (135 + 61)), .ref (ad (135 + 62)), .int (nI (if ck = 0 then 0 else ck + 11)), .int (nI ct), .int (nI rk)]) := (hs66 _ (by omega)).trans e54
        have e77 : g65 (135 + 1) = qa ca 59 (fun i => if i < 59 then some (ad (135 + 2 + i)) else none) := (hs66 _ (by omega)).trans e55
        have e78 : g65 (135 + 61) = za ca 59 (ld) := (hs66 _ (by omega)).trans e56
        have e79 : g65 (135 + 62) = na ca 75 (ln0) := (hs66 _ (by omega)).trans e57
        have e80 : g65 (72) = ia ca 49 (fd20) := (hs66 _ (by omega)).trans e58
        have e81 : g65 (8) = .inr (2, [.ref (ad 1), .ref (ad (8 + 1)), .ref (ad (8 + 61)), .ref (ad (8 + 62)), .int (nI (k + 11)), .int (nI t), .int (nI ((svAt pw ex k t (tnN (fb k)) h s20 pl20 k).1.1))]) := (hs66 _ (by omega)).trans hE43.1
        have e82 : g65 (8 + 1) = qa ca 59 (fun i => if i < 59 then some (ad (8 + 2 + i)) else none) := (hs66 _ (by omega)).trans hE43.2.1
        have e83 : g65 (8 + 61) = za ca 59 ((svAt pw ex k t (tnN (fb k)) h s20 pl20 k).1.2.2.1) := (hs66 _ (by omega)).trans hE43.2.2.2.1
        have e84 : g65 (8 + 62) = na ca 75 ((svAt pw ex k t (tnN (fb k)) h s20 pl20 k).1.2.2.2) := (hs66 _ (by omega)).trans hE43.2.2.2.2
        have e85 : g65 (6) = .inr (4, [.ref (ad (6 + 1)), .int (nI v43)]) := (hs66 _ (by omega)).trans hK43.1
        have e86 : g65 (6 + 1) = na ca 59 (pl43) := (hs66 _ (by omega)).trans hK43.2
        have hr87 : ∀ p9, p9 < 59 → g65 (135 + 2 + p9) = na ca 75 (M p9) := fun p9 hp9 => (hs66 _ (by omega)).trans (hr60 p9 hp9)
        have hr88 : ∀ p9, p9 < 59 → g65 (8 + 2 + p9) = na ca 75 (((svAt pw ex k t (tnN (fb k)) h s20 pl20 k).1.2.1) p9) := fun p9 hp9 => (hs66 _ (by omega)).trans (hE43.2.2.1 p9 hp9)
        have hs89 : ∀ z, (197 < z) → g65 z = g z := fun z hz => (hs66 z (by omega)).trans (hs61 z hz)
        refine lv_aload_n C.1 C.2.1 dX7_block_64 rfl (lv_at hl 1 rfl) ?_
        refine k_get C F hw (0) (by omega) e68 rfl in_X7 1 (by decide) fl_X7_19 rfl dX7_block_65 ?_
        refine k_icn C 0 dX7_block_68 (by decide) ?_
        refine k_putN C F hw (4) (by omega) e72 rfl in_X5 tyX5_ok nmX5 1 (by decide) fl_X7_73 rfl (v := .int (nI 0)) rfl rfl (Nat.le_of_ble_eq_true rfl) dX7_block_69 (fun H locs hw => ?_)
        have hw : Wd D (AA R ad sz) s R ad (va_up g65 (4) (.inr (5, [.ref (ad (4 + 1)), .int (nI 0)]))) H locs := hw
        obtain ⟨g90, hg90⟩ : ∃ z, z = va_up g65 (4) (.inr (5, [.ref (ad (4 + 1)), .int (nI 0)])) := ⟨_, rfl⟩
        rw [← hg90] at hw
        have hk91 : ∀ z, z ≠ 4 → g90 z = g65 z := fun z hz => by rw [hg90]; exact va_up_ne _ _ hz
        have e92 : g90 (4) = .inr (5, [.ref (ad (4 + 1)), .int (nI 0)]) := by rw [hg90]; exact va_up_self _ _ _
        have e93 : g90 (0) = .inr (7, [.ref (ad 1), .ref (ad 4), .ref (ad 6), .ref (ad 8), .ref (ad 71), .ref (ad 73), .ref (ad 134)]) := (hk91 _ (by omega)).trans e68
        have e94 : g90 (1) = .inr (3, [.ref (ad (1 + 1)), .ref (ad (1 + 2))]) := (hk91 _ (by omega)).trans e69
        have e95 : g90 (1 + 1) = na ca 510 (pw) := (hk91 _ (by omega)).trans e70
        have e96 : g90 (1 + 2) = na ca 256 (ex) := (hk91 _ (by omega)).trans e71
        have e97 : g90 (4 + 1) = na ca 800 (h) := (hk91 _ (by omega)).trans e73
        have e98 : g90 (71) = .inr (6, [.ref (ad 8), .ref (ad 6), .ref (ad 72)]) := (hk91 _ (by omega)).trans e74
        have e99 : g90 (134) = .inr (1, [.ref (ad 135), .int (nI ck), .int (nI ct), .int (nI (if ck = 0 then 0 else tnN (fb ck))), .int (nI cn)]) := (hk91 _ (by omega)).trans e75
        have e100 : g90 (135) = .inr (2, [.ref (ad 1), .ref (ad (135 + 1)), .ref (ad (135 + 61)), .ref (ad (135 + 62)), .int (nI (if ck = 0 then 0 else ck + 11)), .int (nI ct), .int (nI rk)]) := (hk91 _ (by omega)).trans e76
        have e101 : g90 (135 + 1) = qa ca 59 (fun i => if i < 59 then some (ad (135 + 2 + i)) else none) := (hk91 _ (by omega)).trans e77
        have e102 : g90 (135 + 61) = za ca 59 (ld) := (hk91 _ (by omega)).trans e78
        have e103 : g90 (135 + 62) = na ca 75 (ln0) := (hk91 _ (by omega)).trans e79
        have e104 : g90 (72) = ia ca 49 (fd20) := (hk91 _ (by omega)).trans e80
        have e105 : g90 (8) = .inr (2, [.ref (ad 1), .ref (ad (8 + 1)), .ref (ad (8 + 61)), .ref (ad (8 + 62)), .int (nI (k + 11)), .int (nI t), .int (nI ((svAt pw ex k t (tnN (fb k)) h s20 pl20 k).1.1))]) := (hk91 _ (by omega)).trans e81
        have e106 : g90 (8 + 1) = qa ca 59 (fun i => if i < 59 then some (ad (8 + 2 + i)) else none) := (hk91 _ (by omega)).trans e82
        have e107 : g90 (8 + 61) = za ca 59 ((svAt pw ex k t (tnN (fb k)) h s20 pl20 k).1.2.2.1) := (hk91 _ (by omega)).trans e83
        have e108 : g90 (8 + 62) = na ca 75 ((svAt pw ex k t (tnN (fb k)) h s20 pl20 k).1.2.2.2) := (hk91 _ (by omega)).trans e84
        have e109 : g90 (6) = .inr (4, [.ref (ad (6 + 1)), .int (nI v43)]) := (hk91 _ (by omega)).trans e85
        have e110 : g90 (6 + 1) = na ca 59 (pl43) := (hk91 _ (by omega)).trans e86
        have e111 : g90 (73) = .inr (0, [.ref (ad 74), .int (nI k), .int (nI t), .int (nI (tnN (fb k)))]) := (hk91 _ (by omega)).trans hB67.1
        have e112 : g90 (74) = qa ca 59 (fun i => if i < 59 then some (ad (75 + i)) else none) := (hk91 _ (by omega)).trans hB67.2.1
        have hr113 : ∀ p9, p9 < 59 → g90 (135 + 2 + p9) = na ca 75 (M p9) := fun p9 hp9 => (hk91 _ (by omega)).trans (hr87 p9 hp9)
        have hr114 : ∀ p9, p9 < 59 → g90 (8 + 2 + p9) = na ca 75 (((svAt pw ex k t (tnN (fb k)) h s20 pl20 k).1.2.1) p9) := fun p9 hp9 => (hk91 _ (by omega)).trans (hr88 p9 hp9)
        have hr115 : ∀ p9, p9 < 59 → g90 (75 + p9) = na ca 16 ((fr (ldStep t (svAt pw ex k t (tnN (fb k)) h s20 pl20 k).1.2.1) (k + 11) BM) p9) := fun p9 hp9 => (hk91 _ (by omega)).trans (hB67.2.2 p9 hp9)
        have hs116 : ∀ z, (197 < z) → g90 z = g z := fun z hz => (hk91 z (by omega)).trans (hs89 z hz)
        have hBt : BlkAt ca ad g90 k t (if k = 0 then 0 else tnN (fb k)) (fr (ldStep t (svAt pw ex k t (tnN (fb k)) h s20 pl20 k).1.2.1) (k + 11) BM) := by rw [if_neg (by omega)]; exact ⟨e111, e112, hr115⟩
        have hF118 : FieldAt ca ad g90 1 pw ex := ⟨e94, e95, e96⟩
        have hK119 : PkAt ca ad g90 6 v43 pl43 := ⟨e109, e110⟩
        have hE120 : EqAt ca ad g90 8 1 (k + 11) t ((svAt pw ex k t (tnN (fb k)) h s20 pl20 k).1.1) ((svAt pw ex k t (tnN (fb k)) h s20 pl20 k).1.2.1) ((svAt pw ex k t (tnN (fb k)) h s20 pl20 k).1.2.2.1) ((svAt pw ex k t (tnN (fb k)) h s20 pl20 k).1.2.2.2) := ⟨e105, e106, hr114, e107, e108⟩
        have hE121 : EqAt ca ad g90 135 1 (if ck = 0 then 0 else ck + 11) ct rk M ld ln0 := ⟨e100, e101, hr113, e102, e103⟩
        have hI117 : DInv ca ad g90 pw ex fb 0 h k t (fr (ldStep t (svAt pw ex k t (tnN (fb k)) h s20 pl20 k).1.2.1) (k + 11) BM) ck ct cn rk M ld := ⟨e93, hF118, ⟨e92, e97⟩, ⟨_, _, hK119⟩, ⟨_, _, _, hE120, hB43⟩, e98, ⟨_, e104, hfd20⟩, hBt, e99, ⟨_, hln0, hE121⟩, ⟨by omega, hh⟩, ⟨Or.inr ⟨hk.1, hk.2, ht.1, ht.2⟩, ld_by hB43.1 _ _ hBM⟩, ⟨hck, hM⟩⟩
        exact hret H locs ls _ _ dX7_block_72 hw (⟨hs116, k, t, rfl, rfl, hk, ht, hc24, s20, pl20, hB20, hB43, hI117⟩)
      · have hF123 : FieldAt ca ad g 1 pw ex := ⟨hF.1, hF.2.1, hF.2.2⟩
        have hK124 : PkAt ca ad g 6 v0 pl0 := ⟨hK.1, hK.2⟩
        have hE125 : EqAt ca ad g 8 1 Lw Tw sw.1 sw.2.1 sw.2.2.1 sw.2.2.2 := ⟨hEw.1, hEw.2.1, hEw.2.2.1, hEw.2.2.2.1, hEw.2.2.2.2⟩
        have hE126 : EqAt ca ad g 135 1 (if ck = 0 then 0 else ck + 11) ct rk M ld ln0 := ⟨hEc.1, hEc.2.1, hEc.2.2.1, hEc.2.2.2.1, hEc.2.2.2.2⟩
        have hI122 : DInv ca ad g pw ex fb len h bk bt BM ck ct cn rk M ld := ⟨eO, hF123, ⟨hT4.1, hT4.2⟩, ⟨_, _, hK124⟩, ⟨_, _, _, hE125, hBw⟩, eT, ⟨_, eD, hfd⟩, ⟨hB.1, hB.2.1, hB.2.2⟩, hC, ⟨_, hln0, hE126⟩, ⟨hlen, hh⟩, ⟨hbk, hBM⟩, ⟨hck, hM⟩⟩
        exact hthr H locs ls _ _ _ xA 77 79 tw_A hw hl.1 dX7_block_27 dX7_block_30 dX7_block_31 dX7_block_34 (by decide) (Nat.le_of_ble_eq_true rfl) (by decide) (by decide) (⟨rfl, by first | exact no_kt hk ht hc24 | exact no_t hc11 | exact no_k hc4, (fun z _ => rfl), hI122⟩)

abbrev rm_X7_open : Room := { frames := 6, cells := 1, slots := 6, locals := 150 }

set_option maxHeartbeats 800000 in
set_option maxRecDepth 100000 in
/-- FountainDesk.open -/
theorem c_X7_open {l : Launch} {D : va_G} {ca : Nat → ClassId} {tB tS R : Nat} {ad : Nat → Nat} {g : Nat → va_E} {sz : Nat} (hlt : l.stackTraces = false) (pw ex : Nat → Nat) (hX : ExOk ex) (hP : PwOk pw) (hR : 197 < R) (fb : Nat → Nat → Bool) (hfb : ∀ k t s pl, 1 ≤ k → k ≤ 48 → EqBy s → t < 1000 → fillB pw ex k t s pl = fb k t) (len : Nat) (h : Nat → Nat) (bk bt : Nat) (BM : Nat → Nat → Nat) (ck ct cn rk : Nat) (M : Nat → Nat → Nat) (ld : Nat → Bool) (hI : DInv ca ad g pw ex fb len h bk bt BM ck ct cn rk M ld) (kx tx : Int32) : XMV l yX7_open cX7_open 3 rm_X7_open D ca tB tS R ad g sz [.ref (ad 0), .int (kx), .int (tx)] (fun g1 => (∀ z, 197 < z → g1 z = g z) ∧ ∃ k t : Nat, kx = nI k ∧ tx = nI t ∧ (1 ≤ k ∧ k ≤ 48) ∧ (1 ≤ t ∧ t ≤ 16) ∧ ∃ s1, EqBy s1 ∧ DInv ca ad g1 pw ex fb len h bk bt BM k t 0 (startS pw ex k t s1).1 (startS pw ex k t s1).2.1 (startS pw ex k t s1).2.2.1) (fun E g1 => E = xA ∧ (¬ ((1 ≤ kx ∧ kx ≤ 48) ∧ (1 ≤ tx ∧ tx ≤ 16))) ∧ (∀ z, 197 < z → g1 z = g z) ∧ DInv ca ad g1 pw ex fb len h bk bt BM ck ct cn rk M ld) := by
  refine x_startV hlt (by decide) (Nat.le_of_ble_eq_true rfl) (fun p e s m args below meth c ls Q hsz C hl F hw hret hthr => ?_)
  have hl : lv_has ls 3 [(0, .ref (ad 0)), (1, .int (kx)), (2, .int (tx))] := hl
  generalize s.heap = H at hw ⊢
  generalize ([] : List Loc) = locs at hw ⊢
  obtain ⟨eO, hF, hT4, ⟨v0, pl0, hK⟩, ⟨Lw, Tw, sw, hEw, hBw⟩, eT, ⟨fd, eD, hfd⟩, hB, hC, ⟨ln0, hln0, hEc⟩, ⟨hlen, hh⟩, ⟨hbk, hBM⟩, ⟨hck, hM⟩⟩ := hI
  refine lv_iload_n C.1 C.2.1 dX7_open_0 rfl (lv_at hl 1 rfl) ?_
  refine k_Si C F hw (As := [.int (kx)]) (rest := []) (c_X7_isSymbolCount kx) (va_cwS _ C.2.2.2.2 gm_X7_80 rfl rfl rfl cd_X7_isSymbolCount.2 ⟨by decide, by decide⟩) hl.1 rfl (Nat.le_of_ble_eq_true rfl) dX7_open_1 ⟨by decide, by decide⟩ (fun r1 g2 H locs hp hw => ?_)
  obtain ⟨hr9, hg9⟩ := hp
  rw [hg9] at hw
  subst hr9
  refine k_beq (tgt := 14) C dX7_open_4 (by decide) (fun hc4 => ?_) (fun hc4 => ?_)
  · have hF4 : FieldAt ca ad g 1 pw ex := ⟨hF.1, hF.2.1, hF.2.2⟩
    have hK5 : PkAt ca ad g 6 v0 pl0 := ⟨hK.1, hK.2⟩
    have hE6 : EqAt ca ad g 8 1 Lw Tw sw.1 sw.2.1 sw.2.2.1 sw.2.2.2 := ⟨hEw.1, hEw.2.1, hEw.2.2.1, hEw.2.2.2.1, hEw.2.2.2.2⟩
    have hE7 : EqAt ca ad g 135 1 (if ck = 0 then 0 else ck + 11) ct rk M ld ln0 := ⟨hEc.1, hEc.2.1, hEc.2.2.1, hEc.2.2.2.1, hEc.2.2.2.2⟩
    have hI3 : DInv ca ad g pw ex fb len h bk bt BM ck ct cn rk M ld := ⟨eO, hF4, ⟨hT4.1, hT4.2⟩, ⟨_, _, hK5⟩, ⟨_, _, _, hE6, hBw⟩, eT, ⟨_, eD, hfd⟩, ⟨hB.1, hB.2.1, hB.2.2⟩, hC, ⟨_, hln0, hE7⟩, ⟨hlen, hh⟩, ⟨hbk, hBM⟩, ⟨hck, hM⟩⟩
    exact hthr H locs ls _ _ _ xA 77 79 tw_A hw hl.1 dX7_open_14 dX7_open_17 dX7_open_18 dX7_open_21 (by decide) (Nat.le_of_ble_eq_true rfl) (by decide) (by decide) (⟨rfl, fun z => by first | exact of_decide_eq_false hc11 z.2 | exact of_decide_eq_false hc4 z.1, (fun z _ => rfl), hI3⟩)
  · refine lv_iload_n C.1 C.2.1 dX7_open_7 rfl (lv_at hl 2 rfl) ?_
    refine k_Si C F hw (As := [.int (tx)]) (rest := []) (c_X7_isByteCount tx) (va_cwS _ C.2.2.2.2 gm_X7_87 rfl rfl rfl cd_X7_isByteCount.2 ⟨by decide, by decide⟩) hl.1 rfl (Nat.le_of_ble_eq_true rfl) dX7_open_8 ⟨by decide, by decide⟩ (fun r8 g9 H locs hp hw => ?_)
    obtain ⟨hr9, hg9⟩ := hp
    rw [hg9] at hw
    subst hr9
    refine k_bne (tgt := 22) C dX7_open_11 (by decide) (fun hc11 => ?_) (fun hc11 => ?_)
    · obtain ⟨k, hk, rfl⟩ := nat_of48 (of_decide_eq_true hc4)
      obtain ⟨t, ht, rfl⟩ := nat_of16 (of_decide_eq_true hc11)
      refine lv_aload_n C.1 C.2.1 dX7_open_22 rfl (lv_at hl 0 rfl) ?_
      refine k_get C F hw (0) (by omega) eO rfl in_X7 6 (by decide) fl_X7_58 rfl dX7_open_23 ?_
      refine lv_iload_n C.1 C.2.1 dX7_open_26 rfl (lv_at hl 1 rfl) ?_
      refine lv_iload_n C.1 C.2.1 dX7_open_27 rfl (lv_at hl 2 rfl) ?_
      refine lv_aload_n C.1 C.2.1 dX7_open_28 rfl (lv_at hl 0 rfl) ?_
      refine k_get C F hw (0) (by omega) eO rfl in_X7 4 (by decide) fl_X7_44 rfl dX7_open_29 ?_
      refine lv_iload_n C.1 C.2.1 dX7_open_32 rfl (lv_at hl 1 rfl) ?_
      have hF10 : FieldAt ca ad g 1 pw ex := ⟨hF.1, hF.2.1, hF.2.2⟩
      have hE11 : EqAt ca ad g 8 1 Lw Tw sw.1 sw.2.1 sw.2.2.1 sw.2.2.2 := ⟨hEw.1, hEw.2.1, hEw.2.2.1, hEw.2.2.2.1, hEw.2.2.2.2⟩
      have hK12 : PkAt ca ad g 6 v0 pl0 := ⟨hK.1, hK.2⟩
      refine k_Vi C F hw (i := 71) (As := [.int (nI k)]) (rest := [.int (nI t), .int (nI k), .ref (ad 134)]) (c_X6_of pw ex hF10 hX hP hR ⟨_, _, _, hE11, hBw⟩ ⟨_, _, hK12⟩ eT fd eD k hk (fb k) (fun t s pl h1 h2 => hfb k t s pl hk.1 hk.2 h1 h2) (hfd k hk.1 hk.2)) (by omega) eT rfl (cwV _ C.2.2.2.2 gm_X7_83 rfl rfl rfl cd_X6_of ⟨by decide, by decide⟩) hl.1 rfl (Nat.le_of_ble_eq_true rfl) dX7_open_33 ⟨by decide, by decide⟩ (fun r13 g14 H locs hp hw => ?_)
      obtain ⟨hs15, hr9, ⟨L15, T15, s15, hE15, hB15⟩, ⟨v15, pl15, hK15⟩, fd15, eD15, hfk15, hfo15⟩ := hp
      subst hr9
      have hfd15 : ∀ k9, 1 ≤ k9 → k9 ≤ 48 → fd15 k9 = -1 ∨ fd15 k9 = nI (tnN (fb k9)) := fun k9 h1 h2 => by by_cases h9 : k9 = k; (rw [h9]; exact Or.inr hfk15); (rw [hfo15 k9 h9]; exact hfd k9 h1 h2)
      have htn15 := tnN_le (fb k)
      have e16 : g14 (0) = .inr (7, [.ref (ad 1), .ref (ad 4), .ref (ad 6), .ref (ad 8), .ref (ad 71), .ref (ad 73), .ref (ad 134)]) := (hs15 _ (by omega)).trans eO
      have e17 : g14 (1) = .inr (3, [.ref (ad (1 + 1)), .ref (ad (1 + 2))]) := (hs15 _ (by omega)).trans hF.1
      have e18 : g14 (1 + 1) = na ca 510 (pw) := (hs15 _ (by omega)).trans hF.2.1
      have e19 : g14 (1 + 2) = na ca 256 (ex) := (hs15 _ (by omega)).trans hF.2.2
      have e20 : g14 (4) = .inr (5, [.ref (ad (4 + 1)), .int (nI len)]) := (hs15 _ (by omega)).trans hT4.1
      have e21 : g14 (4 + 1) = na ca 800 (h) := (hs15 _ (by omega)).trans hT4.2
      have e22 : g14 (71) = .inr (6, [.ref (ad 8), .ref (ad 6), .ref (ad 72)]) := (hs15 _ (by omega)).trans eT
      have e23 : g14 (73) = .inr (0, [.ref (ad 74), .int (nI bk), .int (nI bt), .int (nI (if bk = 0 then 0 else tnN (fb bk)))]) := (hs15 _ (by omega)).trans hB.1
      have e24 : g14 (74) = qa ca 59 (fun i => if i < 59 then some (ad (75 + i)) else none) := (hs15 _ (by omega)).trans hB.2.1
      have e25 : g14 (134) = .inr (1, [.ref (ad 135), .int (nI ck), .int (nI ct), .int (nI (if ck = 0 then 0 else tnN (fb ck))), .int (nI cn)]) := (hs15 _ (by omega)).trans hC
      have e26 : g14 (135) = .inr (2, [.ref (ad 1), .ref (ad (135 + 1)), .ref (ad (135 + 61)), .ref (ad (135 + 62)), .int (nI (if ck = 0 then 0 else ck + 11)), .int (nI ct), .int (nI rk)]) := (hs15 _ (by omega)).trans hEc.1
      have e27 : g14 (135 + 1) = qa ca 59 (fun i => if i < 59 then some (ad (135 + 2 + i)) else none) := (hs15 _ (by omega)).trans hEc.2.1
      have e28 : g14 (135 + 61) = za ca 59 (ld) := (hs15 _ (by omega)).trans hEc.2.2.2.1
      have e29 : g14 (135 + 62) = na ca 75 (ln0) := (hs15 _ (by omega)).trans hEc.2.2.2.2
      have hr30 : ∀ p9, p9 < 59 → g14 (75 + p9) = na ca 16 (BM p9) := fun p9 hp9 => (hs15 _ (by omega)).trans (hB.2.2 p9 hp9)
      have hr31 : ∀ p9, p9 < 59 → g14 (135 + 2 + p9) = na ca 75 (M p9) := fun p9 hp9 => (hs15 _ (by omega)).trans (hEc.2.2.1 p9 hp9)
      have hs32 : ∀ z, (197 < z) → g14 z = g z := fun z hz => hs15 z (by omega)
      have hF33 : FieldAt ca ad g14 1 pw ex := ⟨e17, e18, e19⟩
      have hE34 : EqAt ca ad g14 135 1 (if ck = 0 then 0 else ck + 11) ct rk M ld ln0 := ⟨e26, e27, hr31, e28, e29⟩
      refine k_Vv C F hw (i := 134) (As := [.int (nI k), .int (nI t), .int (nI (tnN (fb k)))]) (rest := []) (c_X1_begin pw ex hF33 hX hP hR ck ct _ cn e25 _ ct (rk, M, ld, ln0) (EqAtS_mk hE34) ⟨hM, hln0⟩ k t (tnN (fb k)) hk (by omega)) (by omega) e25 rfl (cwV _ C.2.2.2.2 gm_X7_130 rfl rfl rfl cd_X1_begin ⟨by decide, by decide⟩) hl.1 rfl (Nat.le_of_ble_eq_true rfl) dX7_open_36 ⟨by decide, by decide⟩ (fun g36 H locs hp hw => ?_)
      obtain ⟨hs37, hC38, hE39⟩ := hp
      have e40 : g36 (0) = .inr (7, [.ref (ad 1), .ref (ad 4), .ref (ad 6), .ref (ad 8), .ref (ad 71), .ref (ad 73), .ref (ad 134)]) := (hs37 _ (by omega)).trans e16
      have e41 : g36 (1) = .inr (3, [.ref (ad (1 + 1)), .ref (ad (1 + 2))]) := (hs37 _ (by omega)).trans e17
      have e42 : g36 (1 + 1) = na ca 510 (pw) := (hs37 _ (by omega)).trans e18
      have e43 : g36 (1 + 2) = na ca 256 (ex) := (hs37 _ (by omega)).trans e19
      have e44 : g36 (4) = .inr (5, [.ref (ad (4 + 1)), .int (nI len)]) := (hs37 _ (by omega)).trans e20
      have e45 : g36 (4 + 1) = na ca 800 (h) := (hs37 _ (by omega)).trans e21
      have e46 : g36 (71) = .inr (6, [.ref (ad 8), .ref (ad 6), .ref (ad 72)]) := (hs37 _ (by omega)).trans e22
      have e47 : g36 (73) = .inr (0, [.ref (ad 74), .int (nI bk), .int (nI bt), .int (nI (if bk = 0 then 0 else tnN (fb bk)))]) := (hs37 _ (by omega)).trans e23
      have e48 : g36 (74) = qa ca 59 (fun i => if i < 59 then some (ad (75 + i)) else none) := (hs37 _ (by omega)).trans e24
      have e49 : g36 (8) = .inr (2, [.ref (ad 1), .ref (ad (8 + 1)), .ref (ad (8 + 61)), .ref (ad (8 + 62)), .int (nI L15), .int (nI T15), .int (nI (s15.1))]) := (hs37 _ (by omega)).trans hE15.1
      have e50 : g36 (8 + 1) = qa ca 59 (fun i => if i < 59 then some (ad (8 + 2 + i)) else none) := (hs37 _ (by omega)).trans hE15.2.1
      have e51 : g36 (8 + 61) = za ca 59 (s15.2.2.1) := (hs37 _ (by omega)).trans hE15.2.2.2.1
      have e52 : g36 (8 + 62) = na ca 75 (s15.2.2.2) := (hs37 _ (by omega)).trans hE15.2.2.2.2
      have e53 : g36 (6) = .inr (4, [.ref (ad (6 + 1)), .int (nI v15)]) := (hs37 _ (by omega)).trans hK15.1
      have e54 : g36 (6 + 1) = na ca 59 (pl15) := (hs37 _ (by omega)).trans hK15.2
      have e55 : g36 (72) = ia ca 49 (fd15) := (hs37 _ (by omega)).trans eD15
      have hr56 : ∀ p9, p9 < 59 → g36 (75 + p9) = na ca 16 (BM p9) := fun p9 hp9 => (hs37 _ (by omega)).trans (hr30 p9 hp9)
      have hr57 : ∀ p9, p9 < 59 → g36 (8 + 2 + p9) = na ca 75 (s15.2.1 p9) := fun p9 hp9 => (hs37 _ (by omega)).trans (hE15.2.2.1 p9 hp9)
      have hs58 : ∀ z, (197 < z) → g36 z = g z := fun z hz => (hs37 z (by omega)).trans (hs32 z hz)
      have hst := startS_by (pw := pw) (ex := ex) (k := k) (T := t) hP (s := (rk, M, ld, ln0)) ⟨hM, hln0⟩
      have hE59 : EqAt ca ad g36 135 1 (k + 11) t ((startS pw ex k t (rk, M, ld, ln0)).1) ((startS pw ex k t (rk, M, ld, ln0)).2.1) ((startS pw ex k t (rk, M, ld, ln0)).2.2.1) ((startS pw ex k t (rk, M, ld, ln0)).2.2.2) := ⟨hE39.1, hE39.2.1, hE39.2.2.1, hE39.2.2.2.1, hE39.2.2.2.2⟩
      have hCt : CtAt ca ad g36 k t (if k = 0 then 0 else tnN (fb k)) 0 := by rw [if_neg (by omega)]; exact hC38
      have hEq : EqAt ca ad g36 135 1 (if k = 0 then 0 else k + 11) t (startS pw ex k t (rk, M, ld, ln0)).1 (startS pw ex k t (rk, M, ld, ln0)).2.1 (startS pw ex k t (rk, M, ld, ln0)).2.2.1 (startS pw ex k t (rk, M, ld, ln0)).2.2.2 := by rw [if_neg (by omega)]; exact hE59
      have hF61 : FieldAt ca ad g36 1 pw ex := ⟨e41, e42, e43⟩
      have hK62 : PkAt ca ad g36 6 v15 pl15 := ⟨e53, e54⟩
      have hE63 : EqAt ca ad g36 8 1 L15 T15 s15.1 s15.2.1 s15.2.2.1 s15.2.2.2 := ⟨e49, e50, hr57, e51, e52⟩
      have hI60 : DInv ca ad g36 pw ex fb len h bk bt BM k t 0 (startS pw ex k t (rk, M, ld, ln0)).1 (startS pw ex k t (rk, M, ld, ln0)).2.1 (startS pw ex k t (rk, M, ld, ln0)).2.2.1 := ⟨e40, hF61, ⟨e44, e45⟩, ⟨_, _, hK62⟩, ⟨_, _, _, hE63, hB15⟩, e46, ⟨_, e55, hfd15⟩, ⟨e47, e48, hr56⟩, hCt, ⟨_, hst.1.2, hEq⟩, ⟨hlen, hh⟩, ⟨hbk, hBM⟩, ⟨Or.inr ⟨hk.1, hk.2, ht.1, ht.2⟩, hst.1.1⟩⟩
      exact hret H locs ls _ _ dX7_open_39 hw (⟨hs58, k, t, rfl, rfl, hk, ht, (rk, M, ld, ln0), ⟨hM, hln0⟩, hI60⟩)
    · have hF65 : FieldAt ca ad g 1 pw ex := ⟨hF.1, hF.2.1, hF.2.2⟩
      have hK66 : PkAt ca ad g 6 v0 pl0 := ⟨hK.1, hK.2⟩
      have hE67 : EqAt ca ad g 8 1 Lw Tw sw.1 sw.2.1 sw.2.2.1 sw.2.2.2 := ⟨hEw.1, hEw.2.1, hEw.2.2.1, hEw.2.2.2.1, hEw.2.2.2.2⟩
      have hE68 : EqAt ca ad g 135 1 (if ck = 0 then 0 else ck + 11) ct rk M ld ln0 := ⟨hEc.1, hEc.2.1, hEc.2.2.1, hEc.2.2.2.1, hEc.2.2.2.2⟩
      have hI64 : DInv ca ad g pw ex fb len h bk bt BM ck ct cn rk M ld := ⟨eO, hF65, ⟨hT4.1, hT4.2⟩, ⟨_, _, hK66⟩, ⟨_, _, _, hE67, hBw⟩, eT, ⟨_, eD, hfd⟩, ⟨hB.1, hB.2.1, hB.2.2⟩, hC, ⟨_, hln0, hE68⟩, ⟨hlen, hh⟩, ⟨hbk, hBM⟩, ⟨hck, hM⟩⟩
      exact hthr H locs ls _ _ _ xA 77 79 tw_A hw hl.1 dX7_open_14 dX7_open_17 dX7_open_18 dX7_open_21 (by decide) (Nat.le_of_ble_eq_true rfl) (by decide) (by decide) (⟨rfl, fun z => by first | exact of_decide_eq_false hc11 z.2 | exact of_decide_eq_false hc4 z.1, (fun z _ => rfl), hI64⟩)

abbrev rm_X7_byteAt : Room := { frames := 6, cells := 1, slots := 6, locals := 120 }

theorem no_x {xx ix : Int32} {bt : Nat} (h : decide (0 ≤ xx ∧ xx < 65536) = false) : ¬ ∃ x i : Nat, xx = nI x ∧ ix = nI i ∧ x < 65536 ∧ i < bt := fun ⟨x, i, h1, h2, h3, h4⟩ => of_decide_eq_false h ⟨by rw [h1]; exact nI_pos' (by omega), by rw [h1]; exact nI_lt (b := 65536) h3 (by decide)⟩
theorem no_i1 {xx ix : Int32} {bt : Nat} (hb : bt ≤ 16) (h : ix < 0) : ¬ ∃ x i : Nat, xx = nI x ∧ ix = nI i ∧ x < 65536 ∧ i < bt := fun ⟨x, i, h1, h2, h3, h4⟩ => absurd h (by rw [h2]; exact nI_pos (by omega))
theorem no_i2 {xx ix : Int32} {bt : Nat} (hb : bt ≤ 16) (h : ¬ ix < nI bt) : ¬ ∃ x i : Nat, xx = nI x ∧ ix = nI i ∧ x < 65536 ∧ i < bt := fun ⟨x, i, h1, h2, h3, h4⟩ => h (by rw [h2]; exact nI_lt h4 (by omega))

set_option maxHeartbeats 800000 in
set_option maxRecDepth 100000 in
/-- FountainDesk.byteAt -/
theorem c_X7_byteAt {l : Launch} {D : va_G} {ca : Nat → ClassId} {tB tS R : Nat} {ad : Nat → Nat} {g : Nat → va_E} {sz : Nat} (hlt : l.stackTraces = false) (pw ex : Nat → Nat) (hX : ExOk ex) (hP : PwOk pw) (hR : 197 < R) (fb : Nat → Nat → Bool) (hfb : ∀ k t s pl, 1 ≤ k → k ≤ 48 → EqBy s → t < 1000 → fillB pw ex k t s pl = fb k t) (len : Nat) (h : Nat → Nat) (bk bt : Nat) (BM : Nat → Nat → Nat) (ck ct cn rk : Nat) (M : Nat → Nat → Nat) (ld : Nat → Bool) (hI : DInv ca ad g pw ex fb len h bk bt BM ck ct cn rk M ld) (xx ix : Int32) : XMI l yX7_byteAt cX7_byteAt 3 .int rm_X7_byteAt D ca tB tS R ad g sz [.ref (ad 0), .int (xx), .int (ix)] (fun r g1 => (∀ z, 197 < z → g1 z = g z) ∧ bk ≠ 0 ∧ ∃ x i : Nat, xx = nI x ∧ ix = nI i ∧ x < 65536 ∧ i < bt ∧ ∃ pl1, r = nI (vlN BM (pkOut bk x (tnN (fb bk)) pl1).1 i (pkOut bk x (tnN (fb bk)) pl1).2.1) ∧ DInv ca ad g1 pw ex fb len h bk bt BM ck ct cn rk M ld) (fun E g1 => (E = xI ∧ bk = 0 ∨ E = xO ∧ bk ≠ 0 ∧ ¬ (∃ x i : Nat, xx = nI x ∧ ix = nI i ∧ x < 65536 ∧ i < bt)) ∧ (∀ z, 197 < z → g1 z = g z) ∧ DInv ca ad g1 pw ex fb len h bk bt BM ck ct cn rk M ld) := by
  refine x_startI hlt (by decide) (Nat.le_of_ble_eq_true rfl) (fun p e s m args below meth c ls Q hsz C hl F hw hret hthr => ?_)
  have hl : lv_has ls 3 [(0, .ref (ad 0)), (1, .int (xx)), (2, .int (ix))] := hl
  generalize s.heap = H at hw ⊢
  generalize ([] : List Loc) = locs at hw ⊢
  obtain ⟨eO, hF, hT4, ⟨v0, pl0, hK⟩, ⟨Lw, Tw, sw, hEw, hBw⟩, eT, ⟨fd, eD, hfd⟩, hB, hC, ⟨ln0, hln0, hEc⟩, ⟨hlen, hh⟩, ⟨hbk, hBM⟩, ⟨hck, hM⟩⟩ := hI
  refine lv_aload_n C.1 C.2.1 dX7_byteAt_0 rfl (lv_at hl 0 rfl) ?_
  refine k_get C F hw (0) (by omega) eO rfl in_X7 5 (by decide) fl_X7_51 rfl dX7_byteAt_1 ?_
  refine k_getN C F hw (73) (by omega) hB.1 rfl in_X0 1 (by decide) fl_X7_98 rfl dX7_byteAt_4 ?_
  refine k_zne (tgt := 18) C dX7_byteAt_7 (by decide) (by omega) (fun hc7 => ?_) (fun hc7 => ?_)
  · have hbk9 : 1 ≤ bk ∧ bk ≤ 48 ∧ 1 ≤ bt ∧ bt ≤ 16 := by omega
    have hB5 : BlkAt ca ad g bk bt (tnN (fb bk)) BM := by have h9 := hB; rw [if_neg hc7] at h9; exact h9
    refine lv_iload_n C.1 C.2.1 dX7_byteAt_18 rfl (lv_at hl 1 rfl) ?_
    refine k_Si C F hw (As := [.int (xx)]) (rest := []) (c_X7_isPacket xx) (va_cwS _ C.2.2.2.2 gm_X7_104 rfl rfl rfl cd_X7_isPacket.2 ⟨by decide, by decide⟩) hl.1 rfl (Nat.le_of_ble_eq_true rfl) dX7_byteAt_19 ⟨by decide, by decide⟩ (fun r1 g2 H locs hp hw => ?_)
    obtain ⟨hr9, hg9⟩ := hp
    rw [hg9] at hw
    subst hr9
    refine k_beq (tgt := 40) C dX7_byteAt_22 (by decide) (fun hc22 => ?_) (fun hc22 => ?_)
    · have hF4 : FieldAt ca ad g 1 pw ex := ⟨hF.1, hF.2.1, hF.2.2⟩
      have hK5 : PkAt ca ad g 6 v0 pl0 := ⟨hK.1, hK.2⟩
      have hE6 : EqAt ca ad g 8 1 Lw Tw sw.1 sw.2.1 sw.2.2.1 sw.2.2.2 := ⟨hEw.1, hEw.2.1, hEw.2.2.1, hEw.2.2.2.1, hEw.2.2.2.2⟩
      have hE7 : EqAt ca ad g 135 1 (if ck = 0 then 0 else ck + 11) ct rk M ld ln0 := ⟨hEc.1, hEc.2.1, hEc.2.2.1, hEc.2.2.2.1, hEc.2.2.2.2⟩
      have hI3 : DInv ca ad g pw ex fb len h bk bt BM ck ct cn rk M ld := ⟨eO, hF4, ⟨hT4.1, hT4.2⟩, ⟨_, _, hK5⟩, ⟨_, _, _, hE6, hBw⟩, eT, ⟨_, eD, hfd⟩, hB, hC, ⟨_, hln0, hE7⟩, ⟨hlen, hh⟩, ⟨hbk, hBM⟩, ⟨hck, hM⟩⟩
      exact hthr H locs ls _ _ _ xO 110 112 tw_O hw hl.1 dX7_byteAt_40 dX7_byteAt_43 dX7_byteAt_44 dX7_byteAt_47 (by decide) (Nat.le_of_ble_eq_true rfl) (by decide) (by decide) (⟨Or.inr ⟨rfl, hc7, by first | exact no_i2 (by omega) hc37 | exact no_i1 (by omega) hc26 | exact no_x hc22⟩, (fun z _ => rfl), hI3⟩)
    · refine lv_iload_n C.1 C.2.1 dX7_byteAt_25 rfl (lv_at hl 2 rfl) ?_
      refine lv_if_lt (tgt := 40) C.1 C.2.1 dX7_byteAt_26 (by decide) (fun hc26 => ?_) (fun hc26 => ?_)
      · have hF9 : FieldAt ca ad g 1 pw ex := ⟨hF.1, hF.2.1, hF.2.2⟩
        have hK10 : PkAt ca ad g 6 v0 pl0 := ⟨hK.1, hK.2⟩
        have hE11 : EqAt ca ad g 8 1 Lw Tw sw.1 sw.2.1 sw.2.2.1 sw.2.2.2 := ⟨hEw.1, hEw.2.1, hEw.2.2.1, hEw.2.2.2.1, hEw.2.2.2.2⟩
        have hE12 : EqAt ca ad g 135 1 (if ck = 0 then 0 else ck + 11) ct rk M ld ln0 := ⟨hEc.1, hEc.2.1, hEc.2.2.1, hEc.2.2.2.1, hEc.2.2.2.2⟩
        have hI8 : DInv ca ad g pw ex fb len h bk bt BM ck ct cn rk M ld := ⟨eO, hF9, ⟨hT4.1, hT4.2⟩, ⟨_, _, hK10⟩, ⟨_, _, _, hE11, hBw⟩, eT, ⟨_, eD, hfd⟩, hB, hC, ⟨_, hln0, hE12⟩, ⟨hlen, hh⟩, ⟨hbk, hBM⟩, ⟨hck, hM⟩⟩
        exact hthr H locs ls _ _ _ xO 110 112 tw_O hw hl.1 dX7_byteAt_40 dX7_byteAt_43 dX7_byteAt_44 dX7_byteAt_47 (by decide) (Nat.le_of_ble_eq_true rfl) (by decide) (by decide) (⟨Or.inr ⟨rfl, hc7, by first | exact no_i2 (by omega) hc37 | exact no_i1 (by omega) hc26 | exact no_x hc22⟩, (fun z _ => rfl), hI8⟩)
      · refine lv_iload_n C.1 C.2.1 dX7_byteAt_29 rfl (lv_at hl 2 rfl) ?_
        refine lv_aload_n C.1 C.2.1 dX7_byteAt_30 rfl (lv_at hl 0 rfl) ?_
        refine k_get C F hw (0) (by omega) eO rfl in_X7 5 (by decide) fl_X7_51 rfl dX7_byteAt_31 ?_
        refine k_getN C F hw (73) (by omega) hB5.1 rfl in_X0 2 (by decide) fl_X7_107 rfl dX7_byteAt_34 ?_
        refine lv_icmp_lt (tgt := 48) C.1 C.2.1 dX7_byteAt_37 (by decide) (fun hc37 => ?_) (fun hc37 => ?_)
        · obtain ⟨x, hx, rfl⟩ := nat_of0 (of_decide_eq_true hc22)
          obtain ⟨i, hi0, rfl⟩ := nI_of hc26
          have hib : i < bt := (nI_ltI hi0 (by omega)).mp hc37
          have htnb := tnN_le (fb bk)
          refine lv_aload_n C.1 C.2.1 dX7_byteAt_48 rfl (lv_at hl 0 rfl) ?_
          refine k_get C F hw (0) (by omega) eO rfl in_X7 2 (by decide) fl_X7_26 rfl dX7_byteAt_49 ?_
          refine lv_aload_n C.1 C.2.1 dX7_byteAt_52 rfl (lv_at hl 0 rfl) ?_
          refine k_get C F hw (0) (by omega) eO rfl in_X7 5 (by decide) fl_X7_51 rfl dX7_byteAt_53 ?_
          refine k_getN C F hw (73) (by omega) hB5.1 rfl in_X0 1 (by decide) fl_X7_98 rfl dX7_byteAt_56 ?_
          refine lv_iload_n C.1 C.2.1 dX7_byteAt_59 rfl (lv_at hl 1 rfl) ?_
          refine lv_aload_n C.1 C.2.1 dX7_byteAt_60 rfl (lv_at hl 0 rfl) ?_
          refine k_get C F hw (0) (by omega) eO rfl in_X7 5 (by decide) fl_X7_51 rfl dX7_byteAt_61 ?_
          refine k_getN C F hw (73) (by omega) hB5.1 rfl in_X0 3 (by decide) fl_X7_113 rfl dX7_byteAt_64 ?_
          refine k_Vv C F hw (i := 6) (As := [.int (nI bk), .int (nI x), .int (nI (tnN (fb bk)))]) (rest := []) (c_X4_find 6 bk x (tnN (fb bk)) v0 pl0 (by omega) ⟨hbk9.1, hbk9.2.1⟩ hx htnb hK.1 hK.2) (by omega) hK.1 rfl (cwV _ C.2.2.2.2 gm_X7_116 rfl rfl rfl cd_X4_find ⟨by decide, by decide⟩) hl.1 rfl (Nat.le_of_ble_eq_true rfl) dX7_byteAt_67 ⟨by decide, by decide⟩ (fun g14 H locs hp hw => ?_)
          obtain ⟨hs15, e16, e17⟩ := hp
          have e18 : g14 (0) = .inr (7, [.ref (ad 1), .ref (ad 4), .ref (ad 6), .ref (ad 8), .ref (ad 71), .ref (ad 73), .ref (ad 134)]) := (hs15 _ (by omega)).trans eO
          have e19 : g14 (1) = .inr (3, [.ref (ad (1 + 1)), .ref (ad (1 + 2))]) := (hs15 _ (by omega)).trans hF.1
          have e20 : g14 (1 + 1) = na ca 510 (pw) := (hs15 _ (by omega)).trans hF.2.1
          have e21 : g14 (1 + 2) = na ca 256 (ex) := (hs15 _ (by omega)).trans hF.2.2
          have e22 : g14 (4) = .inr (5, [.ref (ad (4 + 1)), .int (nI len)]) := (hs15 _ (by omega)).trans hT4.1
          have e23 : g14 (4 + 1) = na ca 800 (h) := (hs15 _ (by omega)).trans hT4.2
          have e24 : g14 (8) = .inr (2, [.ref (ad 1), .ref (ad (8 + 1)), .ref (ad (8 + 61)), .ref (ad (8 + 62)), .int (nI Lw), .int (nI Tw), .int (nI (sw.1))]) := (hs15 _ (by omega)).trans hEw.1
          have e25 : g14 (8 + 1) = qa ca 59 (fun i => if i < 59 then some (ad (8 + 2 + i)) else none) := (hs15 _ (by omega)).trans hEw.2.1
          have e26 : g14 (8 + 61) = za ca 59 (sw.2.2.1) := (hs15 _ (by omega)).trans hEw.2.2.2.1
          have e27 : g14 (8 + 62) = na ca 75 (sw.2.2.2) := (hs15 _ (by omega)).trans hEw.2.2.2.2
          have e28 : g14 (71) = .inr (6, [.ref (ad 8), .ref (ad 6), .ref (ad 72)]) := (hs15 _ (by omega)).trans eT
          have e29 : g14 (72) = ia ca 49 (fd) := (hs15 _ (by omega)).trans eD
          have e30 : g14 (73) = .inr (0, [.ref (ad 74), .int (nI bk), .int (nI bt), .int (nI (tnN (fb bk)))]) := (hs15 _ (by omega)).trans hB5.1
          have e31 : g14 (74) = qa ca 59 (fun i => if i < 59 then some (ad (75 + i)) else none) := (hs15 _ (by omega)).trans hB.2.1
          have e32 : g14 (134) = .inr (1, [.ref (ad 135), .int (nI ck), .int (nI ct), .int (nI (if ck = 0 then 0 else tnN (fb ck))), .int (nI cn)]) := (hs15 _ (by omega)).trans hC
          have e33 : g14 (135) = .inr (2, [.ref (ad 1), .ref (ad (135 + 1)), .ref (ad (135 + 61)), .ref (ad (135 + 62)), .int (nI (if ck = 0 then 0 else ck + 11)), .int (nI ct), .int (nI rk)]) := (hs15 _ (by omega)).trans hEc.1
          have e34 : g14 (135 + 1) = qa ca 59 (fun i => if i < 59 then some (ad (135 + 2 + i)) else none) := (hs15 _ (by omega)).trans hEc.2.1
          have e35 : g14 (135 + 61) = za ca 59 (ld) := (hs15 _ (by omega)).trans hEc.2.2.2.1
          have e36 : g14 (135 + 62) = na ca 75 (ln0) := (hs15 _ (by omega)).trans hEc.2.2.2.2
          have hr37 : ∀ p9, p9 < 59 → g14 (8 + 2 + p9) = na ca 75 (sw.2.1 p9) := fun p9 hp9 => (hs15 _ (by omega)).trans (hEw.2.2.1 p9 hp9)
          have hr38 : ∀ p9, p9 < 59 → g14 (75 + p9) = na ca 16 (BM p9) := fun p9 hp9 => (hs15 _ (by omega)).trans (hB.2.2 p9 hp9)
          have hr39 : ∀ p9, p9 < 59 → g14 (135 + 2 + p9) = na ca 75 (M p9) := fun p9 hp9 => (hs15 _ (by omega)).trans (hEc.2.2.1 p9 hp9)
          have hs40 : ∀ z, (197 < z) → g14 z = g z := fun z hz => hs15 z (by omega)
          have hpk := pkOut_ok bk x (tnN (fb bk)) pl0 (by omega)
          refine lv_aload_n C.1 C.2.1 dX7_byteAt_70 rfl (lv_at hl 0 rfl) ?_
          refine k_get C F hw (0) (by omega) e18 rfl in_X7 5 (by decide) fl_X7_51 rfl dX7_byteAt_71 ?_
          refine lv_aload_n C.1 C.2.1 dX7_byteAt_74 rfl (lv_at hl 0 rfl) ?_
          refine k_get C F hw (0) (by omega) e18 rfl in_X7 2 (by decide) fl_X7_26 rfl dX7_byteAt_75 ?_
          refine lv_iload_n C.1 C.2.1 dX7_byteAt_78 rfl (lv_at hl 2 rfl) ?_
          have hB41 : BlkAt ca ad g14 bk bt (tnN (fb bk)) BM := ⟨e30, e31, hr38⟩
          have hK42 : PkAt ca ad g14 6 ((pkOut bk x (tnN (fb bk)) pl0).2.1) ((pkOut bk x (tnN (fb bk)) pl0).1) := ⟨e16, e17⟩
          refine k_Vi C F hw (i := 73) (As := [.ref (ad 6), .int (nI i)]) (rest := []) (c_X0_valueOf hR bk bt _ BM hB41 ((pkOut bk x (tnN (fb bk)) pl0).2.1) ((pkOut bk x (tnN (fb bk)) pl0).1) hK42 (by omega) (fun j hj => by have := hpk.1 j hj; omega) i (by omega)) (by omega) e30 rfl (cwV _ C.2.2.2.2 gm_X7_119 rfl rfl rfl cd_X0_valueOf ⟨by decide, by decide⟩) hl.1 rfl (Nat.le_of_ble_eq_true rfl) dX7_byteAt_79 ⟨by decide, by decide⟩ (fun r43 g44 H locs hp hw => ?_)
          obtain ⟨hr9, hg9⟩ := hp
          rw [hg9] at hw
          subst hr9
          have hBt : BlkAt ca ad g14 bk bt (if bk = 0 then 0 else tnN (fb bk)) BM := by rw [if_neg hc7]; exact ⟨e30, e31, hr38⟩
          have hF46 : FieldAt ca ad g14 1 pw ex := ⟨e19, e20, e21⟩
          have hK47 : PkAt ca ad g14 6 ((pkOut bk x (tnN (fb bk)) pl0).2.1) ((pkOut bk x (tnN (fb bk)) pl0).1) := ⟨e16, e17⟩
          have hE48 : EqAt ca ad g14 8 1 Lw Tw sw.1 sw.2.1 sw.2.2.1 sw.2.2.2 := ⟨e24, e25, hr37, e26, e27⟩
          have hE49 : EqAt ca ad g14 135 1 (if ck = 0 then 0 else ck + 11) ct rk M ld ln0 := ⟨e33, e34, hr39, e35, e36⟩
          have hI45 : DInv ca ad g14 pw ex fb len h bk bt BM ck ct cn rk M ld := ⟨e18, hF46, ⟨e22, e23⟩, ⟨_, _, hK47⟩, ⟨_, _, _, hE48, hBw⟩, e28, ⟨_, e29, hfd⟩, hBt, e32, ⟨_, hln0, hE49⟩, ⟨hlen, hh⟩, ⟨hbk, hBM⟩, ⟨hck, hM⟩⟩
          exact hret H locs ls _ _ _ dX7_byteAt_82 hw (⟨hs40, hc7, x, i, rfl, rfl, hx, hib, pl0, rfl, hI45⟩)
        · have hF51 : FieldAt ca ad g 1 pw ex := ⟨hF.1, hF.2.1, hF.2.2⟩
          have hK52 : PkAt ca ad g 6 v0 pl0 := ⟨hK.1, hK.2⟩
          have hE53 : EqAt ca ad g 8 1 Lw Tw sw.1 sw.2.1 sw.2.2.1 sw.2.2.2 := ⟨hEw.1, hEw.2.1, hEw.2.2.1, hEw.2.2.2.1, hEw.2.2.2.2⟩
          have hE54 : EqAt ca ad g 135 1 (if ck = 0 then 0 else ck + 11) ct rk M ld ln0 := ⟨hEc.1, hEc.2.1, hEc.2.2.1, hEc.2.2.2.1, hEc.2.2.2.2⟩
          have hI50 : DInv ca ad g pw ex fb len h bk bt BM ck ct cn rk M ld := ⟨eO, hF51, ⟨hT4.1, hT4.2⟩, ⟨_, _, hK52⟩, ⟨_, _, _, hE53, hBw⟩, eT, ⟨_, eD, hfd⟩, hB, hC, ⟨_, hln0, hE54⟩, ⟨hlen, hh⟩, ⟨hbk, hBM⟩, ⟨hck, hM⟩⟩
          exact hthr H locs ls _ _ _ xO 110 112 tw_O hw hl.1 dX7_byteAt_40 dX7_byteAt_43 dX7_byteAt_44 dX7_byteAt_47 (by decide) (Nat.le_of_ble_eq_true rfl) (by decide) (by decide) (⟨Or.inr ⟨rfl, hc7, by first | exact no_i2 (by omega) hc37 | exact no_i1 (by omega) hc26 | exact no_x hc22⟩, (fun z _ => rfl), hI50⟩)
  · have hF56 : FieldAt ca ad g 1 pw ex := ⟨hF.1, hF.2.1, hF.2.2⟩
    have hK57 : PkAt ca ad g 6 v0 pl0 := ⟨hK.1, hK.2⟩
    have hE58 : EqAt ca ad g 8 1 Lw Tw sw.1 sw.2.1 sw.2.2.1 sw.2.2.2 := ⟨hEw.1, hEw.2.1, hEw.2.2.1, hEw.2.2.2.1, hEw.2.2.2.2⟩
    have hE59 : EqAt ca ad g 135 1 (if ck = 0 then 0 else ck + 11) ct rk M ld ln0 := ⟨hEc.1, hEc.2.1, hEc.2.2.1, hEc.2.2.2.1, hEc.2.2.2.2⟩
    have hI55 : DInv ca ad g pw ex fb len h bk bt BM ck ct cn rk M ld := ⟨eO, hF56, ⟨hT4.1, hT4.2⟩, ⟨_, _, hK57⟩, ⟨_, _, _, hE58, hBw⟩, eT, ⟨_, eD, hfd⟩, ⟨hB.1, hB.2.1, hB.2.2⟩, hC, ⟨_, hln0, hE59⟩, ⟨hlen, hh⟩, ⟨hbk, hBM⟩, ⟨hck, hM⟩⟩
    exact hthr H locs ls _ _ _ xI 101 103 tw_I hw hl.1 dX7_byteAt_10 dX7_byteAt_13 dX7_byteAt_14 dX7_byteAt_17 (by decide) (Nat.le_of_ble_eq_true rfl) (by decide) (by decide) (⟨Or.inl ⟨rfl, hc7⟩, (fun z _ => rfl), hI55⟩)

abbrev rm_X7_rank : Room := { frames := 6, cells := 1, slots := 6, locals := 90 }

set_option maxHeartbeats 800000 in
set_option maxRecDepth 100000 in
/-- FountainDesk.rank -/
theorem c_X7_rank {l : Launch} {D : va_G} {ca : Nat → ClassId} {tB tS R : Nat} {ad : Nat → Nat} {g : Nat → va_E} {sz : Nat} (hlt : l.stackTraces = false) (pw ex : Nat → Nat) (hX : ExOk ex) (hP : PwOk pw) (hR : 197 < R) (fb : Nat → Nat → Bool) (hfb : ∀ k t s pl, 1 ≤ k → k ≤ 48 → EqBy s → t < 1000 → fillB pw ex k t s pl = fb k t) (len : Nat) (h : Nat → Nat) (bk bt : Nat) (BM : Nat → Nat → Nat) (ck ct cn rk : Nat) (M : Nat → Nat → Nat) (ld : Nat → Bool) (hI : DInv ca ad g pw ex fb len h bk bt BM ck ct cn rk M ld)  : XMI l yX7_rank cX7_rank 1 .int rm_X7_rank D ca tB tS R ad g sz [.ref (ad 0)] (fun r g1 => (∀ z, 197 < z → g1 z = g z) ∧ ck ≠ 0 ∧ r = nI rk ∧ DInv ca ad g1 pw ex fb len h bk bt BM ck ct cn rk M ld) (fun E g1 => E = xI ∧ (ck = 0) ∧ (∀ z, 197 < z → g1 z = g z) ∧ DInv ca ad g1 pw ex fb len h bk bt BM ck ct cn rk M ld) := by
  refine x_startI hlt (by decide) (Nat.le_of_ble_eq_true rfl) (fun p e s m args below meth c ls Q hsz C hl F hw hret hthr => ?_)
  have hl : lv_has ls 1 [(0, .ref (ad 0))] := hl
  generalize s.heap = H at hw ⊢
  generalize ([] : List Loc) = locs at hw ⊢
  obtain ⟨eO, hF, hT4, ⟨v0, pl0, hK⟩, ⟨Lw, Tw, sw, hEw, hBw⟩, eT, ⟨fd, eD, hfd⟩, hB, hC, ⟨ln0, hln0, hEc⟩, ⟨hlen, hh⟩, ⟨hbk, hBM⟩, ⟨hck, hM⟩⟩ := hI
  refine lv_aload_n C.1 C.2.1 dX7_rank_0 rfl (lv_at hl 0 rfl) ?_
  refine k_get C F hw (0) (by omega) eO rfl in_X7 6 (by decide) fl_X7_58 rfl dX7_rank_1 ?_
  refine k_getN C F hw (134) (by omega) hC rfl in_X1 1 (by decide) fl_X7_147 rfl dX7_rank_4 ?_
  refine k_zne (tgt := 18) C dX7_rank_7 (by decide) (by omega) (fun hc7 => ?_) (fun hc7 => ?_)
  · refine lv_aload_n C.1 C.2.1 dX7_rank_18 rfl (lv_at hl 0 rfl) ?_
    refine k_get C F hw (0) (by omega) eO rfl in_X7 6 (by decide) fl_X7_58 rfl dX7_rank_19 ?_
    refine k_getN C F hw (134) (by omega) hC rfl in_X1 0 (by decide) fl_X7_152 rfl dX7_rank_22 ?_
    refine k_getN C F hw (135) (by omega) hEc.1 rfl in_X2 6 (by decide) fl_X7_155 rfl dX7_rank_25 ?_
    have hF2 : FieldAt ca ad g 1 pw ex := ⟨hF.1, hF.2.1, hF.2.2⟩
    have hK3 : PkAt ca ad g 6 v0 pl0 := ⟨hK.1, hK.2⟩
    have hE4 : EqAt ca ad g 8 1 Lw Tw sw.1 sw.2.1 sw.2.2.1 sw.2.2.2 := ⟨hEw.1, hEw.2.1, hEw.2.2.1, hEw.2.2.2.1, hEw.2.2.2.2⟩
    have hE5 : EqAt ca ad g 135 1 (if ck = 0 then 0 else ck + 11) ct rk M ld ln0 := ⟨hEc.1, hEc.2.1, hEc.2.2.1, hEc.2.2.2.1, hEc.2.2.2.2⟩
    have hI1 : DInv ca ad g pw ex fb len h bk bt BM ck ct cn rk M ld := ⟨eO, hF2, ⟨hT4.1, hT4.2⟩, ⟨_, _, hK3⟩, ⟨_, _, _, hE4, hBw⟩, eT, ⟨_, eD, hfd⟩, ⟨hB.1, hB.2.1, hB.2.2⟩, hC, ⟨_, hln0, hE5⟩, ⟨hlen, hh⟩, ⟨hbk, hBM⟩, ⟨hck, hM⟩⟩
    exact hret H locs ls _ _ _ dX7_rank_28 hw (⟨(fun z _ => rfl), hc7, rfl, hI1⟩)
  · have hF7 : FieldAt ca ad g 1 pw ex := ⟨hF.1, hF.2.1, hF.2.2⟩
    have hK8 : PkAt ca ad g 6 v0 pl0 := ⟨hK.1, hK.2⟩
    have hE9 : EqAt ca ad g 8 1 Lw Tw sw.1 sw.2.1 sw.2.2.1 sw.2.2.2 := ⟨hEw.1, hEw.2.1, hEw.2.2.1, hEw.2.2.2.1, hEw.2.2.2.2⟩
    have hE10 : EqAt ca ad g 135 1 (if ck = 0 then 0 else ck + 11) ct rk M ld ln0 := ⟨hEc.1, hEc.2.1, hEc.2.2.1, hEc.2.2.2.1, hEc.2.2.2.2⟩
    have hI6 : DInv ca ad g pw ex fb len h bk bt BM ck ct cn rk M ld := ⟨eO, hF7, ⟨hT4.1, hT4.2⟩, ⟨_, _, hK8⟩, ⟨_, _, _, hE9, hBw⟩, eT, ⟨_, eD, hfd⟩, ⟨hB.1, hB.2.1, hB.2.2⟩, hC, ⟨_, hln0, hE10⟩, ⟨hlen, hh⟩, ⟨hbk, hBM⟩, ⟨hck, hM⟩⟩
    exact hthr H locs ls _ _ _ xI 101 103 tw_I hw hl.1 dX7_rank_10 dX7_rank_13 dX7_rank_14 dX7_rank_17 (by decide) (Nat.le_of_ble_eq_true rfl) (by decide) (by decide) (⟨rfl, hc7, (fun z _ => rfl), hI6⟩)

abbrev rm_X7_row : Room := { frames := 6, cells := 1, slots := 6, locals := 150 }

set_option maxHeartbeats 800000 in
set_option maxRecDepth 100000 in
/-- FountainDesk.row -/
theorem c_X7_row {l : Launch} {D : va_G} {ca : Nat → ClassId} {tB tS R : Nat} {ad : Nat → Nat} {g : Nat → va_E} {sz : Nat} (hlt : l.stackTraces = false) (pw ex : Nat → Nat) (hX : ExOk ex) (hP : PwOk pw) (hR : 197 < R) (fb : Nat → Nat → Bool) (hfb : ∀ k t s pl, 1 ≤ k → k ≤ 48 → EqBy s → t < 1000 → fillB pw ex k t s pl = fb k t) (len : Nat) (h : Nat → Nat) (bk bt : Nat) (BM : Nat → Nat → Nat) (ck ct cn rk : Nat) (M : Nat → Nat → Nat) (ld : Nat → Bool) (hI : DInv ca ad g pw ex fb len h bk bt BM ck ct cn rk M ld) (kx xx : Int32) (pz : Bool) : XMI l yX7_row cX7_row 4 .int rm_X7_row D ca tB tS R ad g sz [.ref (ad 0), .int (kx), .int (xx), .int (bI (pz))] (fun r g1 => (∀ z, 197 < z → g1 z = g z) ∧ (∃ k x : Nat, kx = nI k ∧ xx = nI x ∧ (1 ≤ k ∧ k ≤ 48) ∧ x < 65536 ∧ ∃ pl1, r = (if pz = true then gtN (pkOut k x (tnN (fb k)) pl1).1 (pkOut k x (tnN (fb k)) pl1).2.1 else nI (pkOut k x (tnN (fb k)) pl1).2.1)) ∧ DInv ca ad g1 pw ex fb len h bk bt BM ck ct cn rk M ld) (fun E g1 => (E = xA ∧ ¬ (1 ≤ kx ∧ kx ≤ 48) ∨ E = xO ∧ (1 ≤ kx ∧ kx ≤ 48) ∧ ¬ (0 ≤ xx ∧ xx < 65536)) ∧ (∀ z, 197 < z → g1 z = g z) ∧ DInv ca ad g1 pw ex fb len h bk bt BM ck ct cn rk M ld) := by
  refine x_startI hlt (by decide) (Nat.le_of_ble_eq_true rfl) (fun p e s m args below meth c ls Q hsz C hl F hw hret hthr => ?_)
  have hl : lv_has ls 4 [(0, .ref (ad 0)), (1, .int (kx)), (2, .int (xx)), (3, .int (bI (pz)))] := hl
  generalize s.heap = H at hw ⊢
  generalize ([] : List Loc) = locs at hw ⊢
  obtain ⟨eO, hF, hT4, ⟨v0, pl0, hK⟩, ⟨Lw, Tw, sw, hEw, hBw⟩, eT, ⟨fd, eD, hfd⟩, hB, hC, ⟨ln0, hln0, hEc⟩, ⟨hlen, hh⟩, ⟨hbk, hBM⟩, ⟨hck, hM⟩⟩ := hI
  refine lv_iload_n C.1 C.2.1 dX7_row_0 rfl (lv_at hl 1 rfl) ?_
  refine k_Si C F hw (As := [.int (kx)]) (rest := []) (c_X7_isSymbolCount kx) (va_cwS _ C.2.2.2.2 gm_X7_80 rfl rfl rfl cd_X7_isSymbolCount.2 ⟨by decide, by decide⟩) hl.1 rfl (Nat.le_of_ble_eq_true rfl) dX7_row_1 ⟨by decide, by decide⟩ (fun r1 g2 H locs hp hw => ?_)
  obtain ⟨hr9, hg9⟩ := hp
  rw [hg9] at hw
  subst hr9
  refine k_bne (tgt := 15) C dX7_row_4 (by decide) (fun hc4 => ?_) (fun hc4 => ?_)
  · refine lv_iload_n C.1 C.2.1 dX7_row_15 rfl (lv_at hl 2 rfl) ?_
    refine k_Si C F hw (As := [.int (xx)]) (rest := []) (c_X7_isPacket xx) (va_cwS _ C.2.2.2.2 gm_X7_104 rfl rfl rfl cd_X7_isPacket.2 ⟨by decide, by decide⟩) hl.1 rfl (Nat.le_of_ble_eq_true rfl) dX7_row_16 ⟨by decide, by decide⟩ (fun r3 g4 H locs hp hw => ?_)
    obtain ⟨hr9, hg9⟩ := hp
    rw [hg9] at hw
    subst hr9
    refine k_bne (tgt := 30) C dX7_row_19 (by decide) (fun hc19 => ?_) (fun hc19 => ?_)
    · obtain ⟨k, hk, rfl⟩ := nat_of48 (of_decide_eq_true hc4)
      obtain ⟨x, hx, rfl⟩ := nat_of0 (of_decide_eq_true hc19)
      refine lv_aload_n C.1 C.2.1 dX7_row_30 rfl (lv_at hl 0 rfl) ?_
      refine k_get C F hw (0) (by omega) eO rfl in_X7 2 (by decide) fl_X7_26 rfl dX7_row_31 ?_
      refine lv_iload_n C.1 C.2.1 dX7_row_34 rfl (lv_at hl 1 rfl) ?_
      refine lv_iload_n C.1 C.2.1 dX7_row_35 rfl (lv_at hl 2 rfl) ?_
      refine lv_aload_n C.1 C.2.1 dX7_row_36 rfl (lv_at hl 0 rfl) ?_
      refine k_get C F hw (0) (by omega) eO rfl in_X7 4 (by decide) fl_X7_44 rfl dX7_row_37 ?_
      refine lv_iload_n C.1 C.2.1 dX7_row_40 rfl (lv_at hl 1 rfl) ?_
      have hF5 : FieldAt ca ad g 1 pw ex := ⟨hF.1, hF.2.1, hF.2.2⟩
      have hE6 : EqAt ca ad g 8 1 Lw Tw sw.1 sw.2.1 sw.2.2.1 sw.2.2.2 := ⟨hEw.1, hEw.2.1, hEw.2.2.1, hEw.2.2.2.1, hEw.2.2.2.2⟩
      have hK7 : PkAt ca ad g 6 v0 pl0 := ⟨hK.1, hK.2⟩
      refine k_Vi C F hw (i := 71) (As := [.int (nI k)]) (rest := [.int (nI x), .int (nI k), .ref (ad 6)]) (c_X6_of pw ex hF5 hX hP hR ⟨_, _, _, hE6, hBw⟩ ⟨_, _, hK7⟩ eT fd eD k hk (fb k) (fun t s pl h1 h2 => hfb k t s pl hk.1 hk.2 h1 h2) (hfd k hk.1 hk.2)) (by omega) eT rfl (cwV _ C.2.2.2.2 gm_X7_83 rfl rfl rfl cd_X6_of ⟨by decide, by decide⟩) hl.1 rfl (Nat.le_of_ble_eq_true rfl) dX7_row_41 ⟨by decide, by decide⟩ (fun r8 g9 H locs hp hw => ?_)
      obtain ⟨hs10, hr9, ⟨L10, T10, s10, hE10, hB10⟩, ⟨v10, pl10, hK10⟩, fd10, eD10, hfk10, hfo10⟩ := hp
      subst hr9
      have hfd10 : ∀ k9, 1 ≤ k9 → k9 ≤ 48 → fd10 k9 = -1 ∨ fd10 k9 = nI (tnN (fb k9)) := fun k9 h1 h2 => by by_cases h9 : k9 = k; (rw [h9]; exact Or.inr hfk10); (rw [hfo10 k9 h9]; exact hfd k9 h1 h2)
      have htn10 := tnN_le (fb k)
      have e11 : g9 (0) = .inr (7, [.ref (ad 1), .ref (ad 4), .ref (ad 6), .ref (ad 8), .ref (ad 71), .ref (ad 73), .ref (ad 134)]) := (hs10 _ (by omega)).trans eO
      have e12 : g9 (1) = .inr (3, [.ref (ad (1 + 1)), .ref (ad (1 + 2))]) := (hs10 _ (by omega)).trans hF.1
      have e13 : g9 (1 + 1) = na ca 510 (pw) := (hs10 _ (by omega)).trans hF.2.1
      have e14 : g9 (1 + 2) = na ca 256 (ex) := (hs10 _ (by omega)).trans hF.2.2
      have e15 : g9 (4) = .inr (5, [.ref (ad (4 + 1)), .int (nI len)]) := (hs10 _ (by omega)).trans hT4.1
      have e16 : g9 (4 + 1) = na ca 800 (h) := (hs10 _ (by omega)).trans hT4.2
      have e17 : g9 (71) = .inr (6, [.ref (ad 8), .ref (ad 6), .ref (ad 72)]) := (hs10 _ (by omega)).trans eT
      have e18 : g9 (73) = .inr (0, [.ref (ad 74), .int (nI bk), .int (nI bt), .int (nI (if bk = 0 then 0 else tnN (fb bk)))]) := (hs10 _ (by omega)).trans hB.1
      have e19 : g9 (74) = qa ca 59 (fun i => if i < 59 then some (ad (75 + i)) else none) := (hs10 _ (by omega)).trans hB.2.1
      have e20 : g9 (134) = .inr (1, [.ref (ad 135), .int (nI ck), .int (nI ct), .int (nI (if ck = 0 then 0 else tnN (fb ck))), .int (nI cn)]) := (hs10 _ (by omega)).trans hC
      have e21 : g9 (135) = .inr (2, [.ref (ad 1), .ref (ad (135 + 1)), .ref (ad (135 + 61)), .ref (ad (135 + 62)), .int (nI (if ck = 0 then 0 else ck + 11)), .int (nI ct), .int (nI rk)]) := (hs10 _ (by omega)).trans hEc.1
      have e22 : g9 (135 + 1) = qa ca 59 (fun i => if i < 59 then some (ad (135 + 2 + i)) else none) := (hs10 _ (by omega)).trans hEc.2.1
      have e23 : g9 (135 + 61) = za ca 59 (ld) := (hs10 _ (by omega)).trans hEc.2.2.2.1
      have e24 : g9 (135 + 62) = na ca 75 (ln0) := (hs10 _ (by omega)).trans hEc.2.2.2.2
      have hr25 : ∀ p9, p9 < 59 → g9 (75 + p9) = na ca 16 (BM p9) := fun p9 hp9 => (hs10 _ (by omega)).trans (hB.2.2 p9 hp9)
      have hr26 : ∀ p9, p9 < 59 → g9 (135 + 2 + p9) = na ca 75 (M p9) := fun p9 hp9 => (hs10 _ (by omega)).trans (hEc.2.2.1 p9 hp9)
      have hs27 : ∀ z, (197 < z) → g9 z = g z := fun z hz => hs10 z (by omega)
      refine k_Vv C F hw (i := 6) (As := [.int (nI k), .int (nI x), .int (nI (tnN (fb k)))]) (rest := []) (c_X4_find 6 k x (tnN (fb k)) v10 pl10 (by omega) hk hx (tnN_le _) hK10.1 hK10.2) (by omega) hK10.1 rfl (cwV _ C.2.2.2.2 gm_X7_116 rfl rfl rfl cd_X4_find ⟨by decide, by decide⟩) hl.1 rfl (Nat.le_of_ble_eq_true rfl) dX7_row_44 ⟨by decide, by decide⟩ (fun g29 H locs hp hw => ?_)
      obtain ⟨hs30, e31, e32⟩ := hp
      have e33 : g29 (0) = .inr (7, [.ref (ad 1), .ref (ad 4), .ref (ad 6), .ref (ad 8), .ref (ad 71), .ref (ad 73), .ref (ad 134)]) := (hs30 _ (by omega)).trans e11
      have e34 : g29 (1) = .inr (3, [.ref (ad (1 + 1)), .ref (ad (1 + 2))]) := (hs30 _ (by omega)).trans e12
      have e35 : g29 (1 + 1) = na ca 510 (pw) := (hs30 _ (by omega)).trans e13
      have e36 : g29 (1 + 2) = na ca 256 (ex) := (hs30 _ (by omega)).trans e14
      have e37 : g29 (4) = .inr (5, [.ref (ad (4 + 1)), .int (nI len)]) := (hs30 _ (by omega)).trans e15
      have e38 : g29 (4 + 1) = na ca 800 (h) := (hs30 _ (by omega)).trans e16
      have e39 : g29 (71) = .inr (6, [.ref (ad 8), .ref (ad 6), .ref (ad 72)]) := (hs30 _ (by omega)).trans e17
      have e40 : g29 (73) = .inr (0, [.ref (ad 74), .int (nI bk), .int (nI bt), .int (nI (if bk = 0 then 0 else tnN (fb bk)))]) := (hs30 _ (by omega)).trans e18
      have e41 : g29 (74) = qa ca 59 (fun i => if i < 59 then some (ad (75 + i)) else none) := (hs30 _ (by omega)).trans e19
      have e42 : g29 (134) = .inr (1, [.ref (ad 135), .int (nI ck), .int (nI ct), .int (nI (if ck = 0 then 0 else tnN (fb ck))), .int (nI cn)]) := (hs30 _ (by omega)).trans e20
      have e43 : g29 (135) = .inr (2, [.ref (ad 1), .ref (ad (135 + 1)), .ref (ad (135 + 61)), .ref (ad (135 + 62)), .int (nI (if ck = 0 then 0 else ck + 11)), .int (nI ct), .int (nI rk)]) := (hs30 _ (by omega)).trans e21
      have e44 : g29 (135 + 1) = qa ca 59 (fun i => if i < 59 then some (ad (135 + 2 + i)) else none) := (hs30 _ (by omega)).trans e22
      have e45 : g29 (135 + 61) = za ca 59 (ld) := (hs30 _ (by omega)).trans e23
      have e46 : g29 (135 + 62) = na ca 75 (ln0) := (hs30 _ (by omega)).trans e24
      have e47 : g29 (8) = .inr (2, [.ref (ad 1), .ref (ad (8 + 1)), .ref (ad (8 + 61)), .ref (ad (8 + 62)), .int (nI L10), .int (nI T10), .int (nI (s10.1))]) := (hs30 _ (by omega)).trans hE10.1
      have e48 : g29 (8 + 1) = qa ca 59 (fun i => if i < 59 then some (ad (8 + 2 + i)) else none) := (hs30 _ (by omega)).trans hE10.2.1
      have e49 : g29 (8 + 61) = za ca 59 (s10.2.2.1) := (hs30 _ (by omega)).trans hE10.2.2.2.1
      have e50 : g29 (8 + 62) = na ca 75 (s10.2.2.2) := (hs30 _ (by omega)).trans hE10.2.2.2.2
      have e51 : g29 (72) = ia ca 49 (fd10) := (hs30 _ (by omega)).trans eD10
      have hr52 : ∀ p9, p9 < 59 → g29 (75 + p9) = na ca 16 (BM p9) := fun p9 hp9 => (hs30 _ (by omega)).trans (hr25 p9 hp9)
      have hr53 : ∀ p9, p9 < 59 → g29 (135 + 2 + p9) = na ca 75 (M p9) := fun p9 hp9 => (hs30 _ (by omega)).trans (hr26 p9 hp9)
      have hr54 : ∀ p9, p9 < 59 → g29 (8 + 2 + p9) = na ca 75 (s10.2.1 p9) := fun p9 hp9 => (hs30 _ (by omega)).trans (hE10.2.2.1 p9 hp9)
      have hs55 : ∀ z, (197 < z) → g29 z = g z := fun z hz => (hs30 z (by omega)).trans (hs27 z hz)
      have hpk := pkOut_ok k x (tnN (fb k)) pl10 (by omega)
      refine lv_iload_n C.1 C.2.1 dX7_row_47 rfl (lv_at hl 3 rfl) ?_
      refine k_beq (tgt := 61) C dX7_row_48 (by decide) (fun hc48 => ?_) (fun hc48 => ?_)
      · refine lv_aload_n C.1 C.2.1 dX7_row_61 rfl (lv_at hl 0 rfl) ?_
        refine k_get C F hw (0) (by omega) e33 rfl in_X7 2 (by decide) fl_X7_26 rfl dX7_row_62 ?_
        refine k_getN C F hw (6) (by omega) e31 rfl in_X4 1 (by decide) fl_X7_127 rfl dX7_row_65 ?_
        have hF57 : FieldAt ca ad g29 1 pw ex := ⟨e34, e35, e36⟩
        have hK58 : PkAt ca ad g29 6 ((pkOut k x (tnN (fb k)) pl10).2.1) ((pkOut k x (tnN (fb k)) pl10).1) := ⟨e31, e32⟩
        have hE59 : EqAt ca ad g29 8 1 L10 T10 s10.1 s10.2.1 s10.2.2.1 s10.2.2.2 := ⟨e47, e48, hr54, e49, e50⟩
        have hE60 : EqAt ca ad g29 135 1 (if ck = 0 then 0 else ck + 11) ct rk M ld ln0 := ⟨e43, e44, hr53, e45, e46⟩
        have hI56 : DInv ca ad g29 pw ex fb len h bk bt BM ck ct cn rk M ld := ⟨e33, hF57, ⟨e37, e38⟩, ⟨_, _, hK58⟩, ⟨_, _, _, hE59, hB10⟩, e39, ⟨_, e51, hfd10⟩, ⟨e40, e41, hr52⟩, e42, ⟨_, hln0, hE60⟩, ⟨hlen, hh⟩, ⟨hbk, hBM⟩, ⟨hck, hM⟩⟩
        exact hret H locs ls _ _ _ dX7_row_68 hw (⟨hs55, ⟨k, x, rfl, rfl, hk, hx, pl10, by rw [hc48]; rfl⟩, hI56⟩)
      · refine lv_aload_n C.1 C.2.1 dX7_row_51 rfl (lv_at hl 0 rfl) ?_
        refine k_get C F hw (0) (by omega) e33 rfl in_X7 2 (by decide) fl_X7_26 rfl dX7_row_52 ?_
        have hK61 : PkAt ca ad g29 6 ((pkOut k x (tnN (fb k)) pl10).2.1) ((pkOut k x (tnN (fb k)) pl10).1) := ⟨e31, e32⟩
        refine k_Vi C F hw (i := 6) (As := []) (rest := []) (c_X4_greatest 6 ((pkOut k x (tnN (fb k)) pl10).2.1) ((pkOut k x (tnN (fb k)) pl10).1) (by omega) (by omega) hK61.1 hK61.2) (by omega) e31 rfl (cwV _ C.2.2.2.2 gm_X7_123 rfl rfl rfl cd_X4_greatest ⟨by decide, by decide⟩) hl.1 rfl (Nat.le_of_ble_eq_true rfl) dX7_row_55 ⟨by decide, by decide⟩ (fun r62 g63 H locs hp hw => ?_)
        obtain ⟨hr9, hg9⟩ := hp
        rw [hg9] at hw
        subst hr9
        refine lv_goto (tgt := 68) C.1 C.2.1 dX7_row_58 (by decide) ?_
        have hF65 : FieldAt ca ad g29 1 pw ex := ⟨e34, e35, e36⟩
        have hK66 : PkAt ca ad g29 6 ((pkOut k x (tnN (fb k)) pl10).2.1) ((pkOut k x (tnN (fb k)) pl10).1) := ⟨e31, e32⟩
        have hE67 : EqAt ca ad g29 8 1 L10 T10 s10.1 s10.2.1 s10.2.2.1 s10.2.2.2 := ⟨e47, e48, hr54, e49, e50⟩
        have hE68 : EqAt ca ad g29 135 1 (if ck = 0 then 0 else ck + 11) ct rk M ld ln0 := ⟨e43, e44, hr53, e45, e46⟩
        have hI64 : DInv ca ad g29 pw ex fb len h bk bt BM ck ct cn rk M ld := ⟨e33, hF65, ⟨e37, e38⟩, ⟨_, _, hK66⟩, ⟨_, _, _, hE67, hB10⟩, e39, ⟨_, e51, hfd10⟩, ⟨e40, e41, hr52⟩, e42, ⟨_, hln0, hE68⟩, ⟨hlen, hh⟩, ⟨hbk, hBM⟩, ⟨hck, hM⟩⟩
        exact hret H locs ls _ _ _ dX7_row_68 hw (⟨hs55, ⟨k, x, rfl, rfl, hk, hx, pl10, by rw [hc48]; rfl⟩, hI64⟩)
    · have hF70 : FieldAt ca ad g 1 pw ex := ⟨hF.1, hF.2.1, hF.2.2⟩
      have hK71 : PkAt ca ad g 6 v0 pl0 := ⟨hK.1, hK.2⟩
      have hE72 : EqAt ca ad g 8 1 Lw Tw sw.1 sw.2.1 sw.2.2.1 sw.2.2.2 := ⟨hEw.1, hEw.2.1, hEw.2.2.1, hEw.2.2.2.1, hEw.2.2.2.2⟩
      have hE73 : EqAt ca ad g 135 1 (if ck = 0 then 0 else ck + 11) ct rk M ld ln0 := ⟨hEc.1, hEc.2.1, hEc.2.2.1, hEc.2.2.2.1, hEc.2.2.2.2⟩
      have hI69 : DInv ca ad g pw ex fb len h bk bt BM ck ct cn rk M ld := ⟨eO, hF70, ⟨hT4.1, hT4.2⟩, ⟨_, _, hK71⟩, ⟨_, _, _, hE72, hBw⟩, eT, ⟨_, eD, hfd⟩, ⟨hB.1, hB.2.1, hB.2.2⟩, hC, ⟨_, hln0, hE73⟩, ⟨hlen, hh⟩, ⟨hbk, hBM⟩, ⟨hck, hM⟩⟩
      exact hthr H locs ls _ _ _ xO 110 112 tw_O hw hl.1 dX7_row_22 dX7_row_25 dX7_row_26 dX7_row_29 (by decide) (Nat.le_of_ble_eq_true rfl) (by decide) (by decide) (⟨Or.inr ⟨rfl, of_decide_eq_true hc4, of_decide_eq_false hc19⟩, (fun z _ => rfl), hI69⟩)
  · have hF75 : FieldAt ca ad g 1 pw ex := ⟨hF.1, hF.2.1, hF.2.2⟩
    have hK76 : PkAt ca ad g 6 v0 pl0 := ⟨hK.1, hK.2⟩
    have hE77 : EqAt ca ad g 8 1 Lw Tw sw.1 sw.2.1 sw.2.2.1 sw.2.2.2 := ⟨hEw.1, hEw.2.1, hEw.2.2.1, hEw.2.2.2.1, hEw.2.2.2.2⟩
    have hE78 : EqAt ca ad g 135 1 (if ck = 0 then 0 else ck + 11) ct rk M ld ln0 := ⟨hEc.1, hEc.2.1, hEc.2.2.1, hEc.2.2.2.1, hEc.2.2.2.2⟩
    have hI74 : DInv ca ad g pw ex fb len h bk bt BM ck ct cn rk M ld := ⟨eO, hF75, ⟨hT4.1, hT4.2⟩, ⟨_, _, hK76⟩, ⟨_, _, _, hE77, hBw⟩, eT, ⟨_, eD, hfd⟩, ⟨hB.1, hB.2.1, hB.2.2⟩, hC, ⟨_, hln0, hE78⟩, ⟨hlen, hh⟩, ⟨hbk, hBM⟩, ⟨hck, hM⟩⟩
    exact hthr H locs ls _ _ _ xA 77 79 tw_A hw hl.1 dX7_row_7 dX7_row_10 dX7_row_11 dX7_row_14 (by decide) (Nat.le_of_ble_eq_true rfl) (by decide) (by decide) (⟨Or.inl ⟨rfl, of_decide_eq_false hc4⟩, (fun z _ => rfl), hI74⟩)

abbrev rm_X7_product : Room := { frames := 1, cells := 0, slots := 0, locals := 30 }

set_option maxHeartbeats 800000 in
set_option maxRecDepth 100000 in
/-- FountainDesk.product -/
theorem c_X7_product {l : Launch} {D : va_G} {ca : Nat → ClassId} {tB tS R : Nat} {ad : Nat → Nat} {g : Nat → va_E} {sz : Nat} (pw ex : Nat → Nat) (hF : FieldAt ca ad g 1 pw ex) (hX : ExOk ex) (hR : 197 < R) (eO : DeskAt ad g) (a b : Nat) (ha : a < 2 ^ 32) (hb : b < 2 ^ 32) : MI l yX7_product cX7_product 3 .int rm_X7_product D ca tB tS R ad g sz [.ref (ad 0), .int (nI a), .int (nI b)] (fun r g1 => r = nI (fTimes pw ex (a % 2 ^ 8) (b % 2 ^ 8)) ∧ g1 = g) := by
  refine m_startI (by decide +kernel) (Nat.le_of_ble_eq_true rfl) (fun p e s m args below meth c ls Q hsz C hl F hw hret => ?_)
  have hl : lv_has ls 3 [(0, .ref (ad 0)), (1, .int (nI a)), (2, .int (nI b))] := hl
  generalize s.heap = H at hw ⊢
  generalize ([] : List Loc) = locs at hw ⊢
  refine lv_aload_n C.1 C.2.1 dX7_product_0 rfl (lv_at hl 0 rfl) ?_
  refine k_get C F hw (0) (by omega) eO rfl in_X7 0 (by decide) fl_X7_12 rfl dX7_product_1 ?_
  refine lv_iload_n C.1 C.2.1 dX7_product_4 rfl (lv_at hl 1 rfl) ?_
  refine k_sip C 255 dX7_product_5 (by decide) ?_
  refine k_and C 8 dX7_product_8 (by omega) (by decide) ?_
  refine lv_iload_n C.1 C.2.1 dX7_product_9 rfl (lv_at hl 2 rfl) ?_
  refine k_sip C 255 dX7_product_10 (by decide) ?_
  refine k_and C 8 dX7_product_13 (by omega) (by decide) ?_
  have hF1 : FieldAt ca ad g 1 pw ex := ⟨hF.1, hF.2.1, hF.2.2⟩
  refine k_Vi C F hw (i := 1) (As := [.int (nI (a % 2 ^ 8)), .int (nI (b % 2 ^ 8))]) (rest := []) (c_X3_times 1 pw ex hF1 hX (by omega) (a % 2 ^ 8) (b % 2 ^ 8) (Nat.mod_lt _ (by decide)) (Nat.mod_lt _ (by decide))) (by omega) hF.1 rfl (cwV _ C.2.2.2.2 gm_X7_164 rfl rfl rfl cd_X3_times ⟨by decide, by decide⟩) hl.1 rfl (Nat.le_of_ble_eq_true rfl) dX7_product_14 ⟨by decide, by decide⟩ (fun r2 g3 H locs hp hw => ?_)
  obtain ⟨hr9, hg9⟩ := hp
  rw [hg9] at hw
  subst hr9
  exact hret H locs ls _ _ _ dX7_product_17 hw (⟨rfl, rfl⟩)
