/-! ===== FountainDesk: its public methods ===== -/
def DInv (ca : Nat → ClassId) (ad : Nat → Nat) (g : Nat → va_E) (pw ex : Nat → Nat) (fb : Nat → Nat → Bool) (len : Nat) (h : Nat → Nat) (bk bt : Nat) (BM : Nat → Nat → Nat) (ck ct cn rk : Nat) (M : Nat → Nat → Nat) (ld : Nat → Bool) : Prop :=
  DeskAt ad g ∧ FieldAt ca ad g 1 pw ex ∧ TpAt ca ad g len h ∧ PkWf ca ad g ∧ WkWf ca ad g ∧ g 71 = .inr (6, [.ref (ad 8), .ref (ad 6), .ref (ad 72)]) ∧ (∃ fd, g 72 = ia ca 49 fd ∧ ∀ k, 1 ≤ k → k ≤ 48 → fd k = -1 ∨ fd k = nI (tnN (fb k))) ∧
  BlkAt ca ad g bk bt (if bk = 0 then 0 else tnN (fb bk)) BM ∧ CtAt ca ad g ck ct (if ck = 0 then 0 else tnN (fb ck)) cn ∧ (∃ ln, By ln ∧ EqAt ca ad g 135 1 (if ck = 0 then 0 else ck + 11) ct rk M ld ln) ∧
  (len ≤ 800 ∧ By h) ∧ ((bk = 0 ∧ bt = 0 ∨ 1 ≤ bk ∧ bk ≤ 48 ∧ 1 ≤ bt ∧ bt ≤ 16) ∧ ∀ p, By (BM p)) ∧ ((ck = 0 ∧ ct = 0 ∨ 1 ≤ ck ∧ ck ≤ 48 ∧ 1 ≤ ct ∧ ct ≤ 16) ∧ ∀ p, By (M p))
theorem nat_of48 {x : Int32} (h : 1 ≤ x ∧ x ≤ 48) : ∃ n : Nat, (1 ≤ n ∧ n ≤ 48) ∧ x = nI n := by
  obtain ⟨j, hj, rfl⟩ := nI_of2 (M := 48) (n := 48) (by decide) (fun z => absurd (Int32.le_trans h.1 (Int32.le_of_lt z)) (by decide)) h.2
  exact ⟨j, ⟨(nI_leI (a := 1) (by decide) (by omega)).mp h.1, hj⟩, rfl⟩
theorem nat_of16 {x : Int32} (h : 1 ≤ x ∧ x ≤ 16) : ∃ n : Nat, (1 ≤ n ∧ n ≤ 16) ∧ x = nI n := by
  obtain ⟨j, hj, rfl⟩ := nI_of2 (M := 16) (n := 16) (by decide) (fun z => absurd (Int32.le_trans h.1 (Int32.le_of_lt z)) (by decide)) h.2
  exact ⟨j, ⟨(nI_leI (a := 1) (by decide) (by omega)).mp h.1, hj⟩, rfl⟩
theorem nat_of0 {x : Int32} (h : 0 ≤ x ∧ x < 65536) : ∃ n : Nat, n < 65536 ∧ x = nI n := by
  obtain ⟨j, hj, rfl⟩ := nI_of (x := x) (Int32.not_lt.mpr h.1)
  exact ⟨j, (nI_ltI (b := 65536) hj (by decide)).mp h.2, rfl⟩

abbrev rm_X7_feed : Room := { frames := 6, cells := 1, slots := 6, locals := 90 }

theorem by_app {h : Nat → Nat} {len w : Nat} (hh : By h) : By (tpApp h len w) := By.up (By.up (By.up (By.up hh (Nat.mod_lt _ (by decide))) (Nat.mod_lt _ (by decide))) (Nat.mod_lt _ (by decide))) (Nat.mod_lt _ (by decide))

set_option maxHeartbeats 800000 in
set_option maxRecDepth 100000 in
/-- FountainDesk.feed -/
theorem c_X7_feed {l : Launch} {D : va_G} {ca : Nat → ClassId} {tB tS R : Nat} {ad : Nat → Nat} {g : Nat → va_E} {sz : Nat} (hlt : l.stackTraces = false) (pw ex : Nat → Nat) (hX : ExOk ex) (hP : PwOk pw) (hR : 197 < R) (fb : Nat → Nat → Bool) (hfb : ∀ k t s pl, 1 ≤ k → k ≤ 48 → EqBy s → t < 1000 → fillB pw ex k t s pl = fb k t) (len : Nat) (h : Nat → Nat) (bk bt : Nat) (BM : Nat → Nat → Nat) (ck ct cn rk : Nat) (M : Nat → Nat → Nat) (ld : Nat → Bool) (hI : DInv ca ad g pw ex fb len h bk bt BM ck ct cn rk M ld) (a b c0 d e0 : Nat) (ha : a < 2 ^ 32) (hb : b < 2 ^ 32) (hc0 : c0 < 2 ^ 32) (hd : d < 2 ^ 32) (he0 : e0 < 2 ^ 32) : XMI l yX7_feed cX7_feed 6 .int rm_X7_feed D ca tB tS R ad g sz [.ref (ad 0), .int (nI a), .int (nI b), .int (nI c0), .int (nI d), .int (nI e0)] (fun r g1 => (∀ z, 197 < z → g1 z = g z) ∧ len + 20 ≤ 800 ∧ r = nI (len + 20) ∧ DInv ca ad g1 pw ex fb (len + 20) (tpApp (tpApp (tpApp (tpApp (tpApp h len a) (len + 4) b) (len + 4 + 4) c0) (len + 4 + 4 + 4) d) (len + 4 + 4 + 4 + 4) e0) bk bt BM ck ct cn rk M ld) (fun E g1 => E = xU ∧ ¬ len + 20 ≤ 800 ∧ (∀ z, 197 < z → g1 z = g z) ∧ DInv ca ad g1 pw ex fb len h bk bt BM ck ct cn rk M ld) := by
  refine x_startI hlt (by decide) (Nat.le_of_ble_eq_true rfl) (fun p e s m args below meth c ls Q hsz C hl F hw hret hthr => ?_)
  have hl : lv_has ls 6 [(0, .ref (ad 0)), (1, .int (nI a)), (2, .int (nI b)), (3, .int (nI c0)), (4, .int (nI d)), (5, .int (nI e0))] := hl
  generalize s.heap = H at hw ⊢
  generalize ([] : List Loc) = locs at hw ⊢
  obtain ⟨eO, hF, hT4, ⟨v0, pl0, hK⟩, ⟨Lw, Tw, sw, hEw, hBw⟩, eT, ⟨fd, eD, hfd⟩, hB, hC, ⟨ln0, hln0, hEc⟩, ⟨hlen, hh⟩, ⟨hbk, hBM⟩, ⟨hck, hM⟩⟩ := hI
  refine lv_aload_n C.1 C.2.1 dX7_feed_0 rfl (lv_at hl 0 rfl) ?_
  refine k_get C F hw (0) (by omega) eO rfl in_X7 1 (by decide) fl_X7_19 rfl dX7_feed_1 ?_
  refine k_bip C 20 dX7_feed_4 (by decide) ?_
  refine k_Vi C F hw (i := 4) (As := [.int (nI 20)]) (rest := []) (c_X5_hasRoom 4 len 20 (by omega) hlen (by decide) hT4.1) (by omega) hT4.1 rfl (cwV _ C.2.2.2.2 gm_X7_62 rfl rfl rfl cd_X5_hasRoom ⟨by decide, by decide⟩) hl.1 rfl (Nat.le_of_ble_eq_true rfl) dX7_feed_6 ⟨by decide, by decide⟩ (fun r1 g2 H locs hp hw => ?_)
  obtain ⟨hr9, hg9⟩ := hp
  rw [hg9] at hw
  subst hr9
  refine k_bne (tgt := 20) C dX7_feed_9 (by decide) (fun hc9 => ?_) (fun hc9 => ?_)
  · have hroom := of_decide_eq_true hc9
    refine lv_aload_n C.1 C.2.1 dX7_feed_20 rfl (lv_at hl 0 rfl) ?_
    refine k_get C F hw (0) (by omega) eO rfl in_X7 1 (by decide) fl_X7_19 rfl dX7_feed_21 ?_
    refine lv_iload_n C.1 C.2.1 dX7_feed_24 rfl (lv_at hl 1 rfl) ?_
    refine k_Vv C F hw (i := 4) (As := [.int (nI a)]) (rest := []) (c_X5_append 4 len a h (by omega) (by omega) ha hT4.1 hT4.2) (by omega) hT4.1 rfl (cwV _ C.2.2.2.2 gm_X7_69 rfl rfl rfl cd_X5_append ⟨by decide, by decide⟩) hl.1 rfl (Nat.le_of_ble_eq_true rfl) dX7_feed_25 ⟨by decide, by decide⟩ (fun g4 H locs hp hw => ?_)
    obtain ⟨hs5, e6, e7⟩ := hp
    have e8 : g4 (0) = .inr (7, [.ref (ad 1), .ref (ad 4), .ref (ad 6), .ref (ad 8), .ref (ad 71), .ref (ad 73), .ref (ad 134)]) := (hs5 _ (by omega)).trans eO
    have e9 : g4 (1) = .inr (3, [.ref (ad (1 + 1)), .ref (ad (1 + 2))]) := (hs5 _ (by omega)).trans hF.1
    have e10 : g4 (1 + 1) = na ca 510 (pw) := (hs5 _ (by omega)).trans hF.2.1
    have e11 : g4 (1 + 2) = na ca 256 (ex) := (hs5 _ (by omega)).trans hF.2.2
    have e12 : g4 (6) = .inr (4, [.ref (ad (6 + 1)), .int (nI v0)]) := (hs5 _ (by omega)).trans hK.1
    have e13 : g4 (6 + 1) = na ca 59 (pl0) := (hs5 _ (by omega)).trans hK.2
    have e14 : g4 (8) = .inr (2, [.ref (ad 1), .ref (ad (8 + 1)), .ref (ad (8 + 61)), .ref (ad (8 + 62)), .int (nI Lw), .int (nI Tw), .int (nI (sw.1))]) := (hs5 _ (by omega)).trans hEw.1
    have e15 : g4 (8 + 1) = qa ca 59 (fun i => if i < 59 then some (ad (8 + 2 + i)) else none) := (hs5 _ (by omega)).trans hEw.2.1
    have e16 : g4 (8 + 61) = za ca 59 (sw.2.2.1) := (hs5 _ (by omega)).trans hEw.2.2.2.1
    have e17 : g4 (8 + 62) = na ca 75 (sw.2.2.2) := (hs5 _ (by omega)).trans hEw.2.2.2.2
    have e18 : g4 (71) = .inr (6, [.ref (ad 8), .ref (ad 6), .ref (ad 72)]) := (hs5 _ (by omega)).trans eT
    have e19 : g4 (72) = ia ca 49 (fd) := (hs5 _ (by omega)).trans eD
    have e20 : g4 (73) = .inr (0, [.ref (ad 74), .int (nI bk), .int (nI bt), .int (nI (if bk = 0 then 0 else tnN (fb bk)))]) := (hs5 _ (by omega)).trans hB.1
    have e21 : g4 (74) = qa ca 59 (fun i => if i < 59 then some (ad (75 + i)) else none) := (hs5 _ (by omega)).trans hB.2.1
    have e22 : g4 (134) = .inr (1, [.ref (ad 135), .int (nI ck), .int (nI ct), .int (nI (if ck = 0 then 0 else tnN (fb ck))), .int (nI cn)]) := (hs5 _ (by omega)).trans hC
    have e23 : g4 (135) = .inr (2, [.ref (ad 1), .ref (ad (135 + 1)), .ref (ad (135 + 61)), .ref (ad (135 + 62)), .int (nI (if ck = 0 then 0 else ck + 11)), .int (nI ct), .int (nI rk)]) := (hs5 _ (by omega)).trans hEc.1
    have e24 : g4 (135 + 1) = qa ca 59 (fun i => if i < 59 then some (ad (135 + 2 + i)) else none) := (hs5 _ (by omega)).trans hEc.2.1
    have e25 : g4 (135 + 61) = za ca 59 (ld) := (hs5 _ (by omega)).trans hEc.2.2.2.1
    have e26 : g4 (135 + 62) = na ca 75 (ln0) := (hs5 _ (by omega)).trans hEc.2.2.2.2
    have hr27 : ∀ p9, p9 < 59 → g4 (8 + 2 + p9) = na ca 75 (sw.2.1 p9) := fun p9 hp9 => (hs5 _ (by omega)).trans (hEw.2.2.1 p9 hp9)
    have hr28 : ∀ p9, p9 < 59 → g4 (75 + p9) = na ca 16 (BM p9) := fun p9 hp9 => (hs5 _ (by omega)).trans (hB.2.2 p9 hp9)
    have hr29 : ∀ p9, p9 < 59 → g4 (135 + 2 + p9) = na ca 75 (M p9) := fun p9 hp9 => (hs5 _ (by omega)).trans (hEc.2.2.1 p9 hp9)
    have hs30 : ∀ z, (197 < z) → g4 z = g z := fun z hz => hs5 z (by omega)
    refine lv_aload_n C.1 C.2.1 dX7_feed_28 rfl (lv_at hl 0 rfl) ?_
    refine k_get C F hw (0) (by omega) e8 rfl in_X7 1 (by decide) fl_X7_19 rfl dX7_feed_29 ?_
    refine lv_iload_n C.1 C.2.1 dX7_feed_32 rfl (lv_at hl 2 rfl) ?_
    refine k_Vv C F hw (i := 4) (As := [.int (nI b)]) (rest := []) (c_X5_append 4 (len + 4) b (tpApp h len a) (by omega) (by omega) hb e6 e7) (by omega) e6 rfl (cwV _ C.2.2.2.2 gm_X7_69 rfl rfl rfl cd_X5_append ⟨by decide, by decide⟩) hl.1 rfl (Nat.le_of_ble_eq_true rfl) dX7_feed_33 ⟨by decide, by decide⟩ (fun g32 H locs hp hw => ?_)
    obtain ⟨hs33, e34, e35⟩ := hp
    have e36 : g32 (0) = .inr (7, [.ref (ad 1), .ref (ad 4), .ref (ad 6), .ref (ad 8), .ref (ad 71), .ref (ad 73), .ref (ad 134)]) := (hs33 _ (by omega)).trans e8
    have e37 : g32 (1) = .inr (3, [.ref (ad (1 + 1)), .ref (ad (1 + 2))]) := (hs33 _ (by omega)).trans e9
    have e38 : g32 (1 + 1) = na ca 510 (pw) := (hs33 _ (by omega)).trans e10
    have e39 : g32 (1 + 2) = na ca 256 (ex) := (hs33 _ (by omega)).trans e11
    have e40 : g32 (6) = .inr (4, [.ref (ad (6 + 1)), .int (nI v0)]) := (hs33 _ (by omega)).trans e12
    have e41 : g32 (6 + 1) = na ca 59 (pl0) := (hs33 _ (by omega)).trans e13
    have e42 : g32 (8) = .inr (2, [.ref (ad 1), .ref (ad (8 + 1)), .ref (ad (8 + 61)), .ref (ad (8 + 62)), .int (nI Lw), .int (nI Tw), .int (nI (sw.1))]) := (hs33 _ (by omega)).trans e14
    have e43 : g32 (8 + 1) = qa ca 59 (fun i => if i < 59 then some (ad (8 + 2 + i)) else none) := (hs33 _ (by omega)).trans e15
    have e44 : g32 (8 + 61) = za ca 59 (sw.2.2.1) := (hs33 _ (by omega)).trans e16
    have e45 : g32 (8 + 62) = na ca 75 (sw.2.2.2) := (hs33 _ (by omega)).trans e17
    have e46 : g32 (71) = .inr (6, [.ref (ad 8), .ref (ad 6), .ref (ad 72)]) := (hs33 _ (by omega)).trans e18
    have e47 : g32 (72) = ia ca 49 (fd) := (hs33 _ (by omega)).trans e19
    have e48 : g32 (73) = .inr (0, [.ref (ad 74), .int (nI bk), .int (nI bt), .int (nI (if bk = 0 then 0 else tnN (fb bk)))]) := (hs33 _ (by omega)).trans e20
    have e49 : g32 (74) = qa ca 59 (fun i => if i < 59 then some (ad (75 + i)) else none) := (hs33 _ (by omega)).trans e21
    have e50 : g32 (134) = .inr (1, [.ref (ad 135), .int (nI ck), .int (nI ct), .int (nI (if ck = 0 then 0 else tnN (fb ck))), .int (nI cn)]) := (hs33 _ (by omega)).trans e22
    have e51 : g32 (135) = .inr (2, [.ref (ad 1), .ref (ad (135 + 1)), .ref (ad (135 + 61)), .ref (ad (135 + 62)), .int (nI (if ck = 0 then 0 else ck + 11)), .int (nI ct), .int (nI rk)]) := (hs33 _ (by omega)).trans e23
    have e52 : g32 (135 + 1) = qa ca 59 (fun i => if i < 59 then some (ad (135 + 2 + i)) else none) := (hs33 _ (by omega)).trans e24
    have e53 : g32 (135 + 61) = za ca 59 (ld) := (hs33 _ (by omega)).trans e25
    have e54 : g32 (135 + 62) = na ca 75 (ln0) := (hs33 _ (by omega)).trans e26
    have hr55 : ∀ p9, p9 < 59 → g32 (8 + 2 + p9) = na ca 75 (sw.2.1 p9) := fun p9 hp9 => (hs33 _ (by omega)).trans (hr27 p9 hp9)
    have hr56 : ∀ p9, p9 < 59 → g32 (75 + p9) = na ca 16 (BM p9) := fun p9 hp9 => (hs33 _ (by omega)).trans (hr28 p9 hp9)
    have hr57 : ∀ p9, p9 < 59 → g32 (135 + 2 + p9) = na ca 75 (M p9) := fun p9 hp9 => (hs33 _ (by omega)).trans (hr29 p9 hp9)
    have hs58 : ∀ z, (197 < z) → g32 z = g z := fun z hz => (hs33 z (by omega)).trans (hs30 z hz)
    refine lv_aload_n C.1 C.2.1 dX7_feed_36 rfl (lv_at hl 0 rfl) ?_
    refine k_get C F hw (0) (by omega) e36 rfl in_X7 1 (by decide) fl_X7_19 rfl dX7_feed_37 ?_
    refine lv_iload_n C.1 C.2.1 dX7_feed_40 rfl (lv_at hl 3 rfl) ?_
    refine k_Vv C F hw (i := 4) (As := [.int (nI c0)]) (rest := []) (c_X5_append 4 (len + 4 + 4) c0 (tpApp (tpApp h len a) (len + 4) b) (by omega) (by omega) hc0 e34 e35) (by omega) e34 rfl (cwV _ C.2.2.2.2 gm_X7_69 rfl rfl rfl cd_X5_append ⟨by decide, by decide⟩) hl.1 rfl (Nat.le_of_ble_eq_true rfl) dX7_feed_41 ⟨by decide, by decide⟩ (fun g60 H locs hp hw => ?_)
    obtain ⟨hs61, e62, e63⟩ := hp
    have e64 : g60 (0) = .inr (7, [.ref (ad 1), .ref (ad 4), .ref (ad 6), .ref (ad 8), .ref (ad 71), .ref (ad 73), .ref (ad 134)]) := (hs61 _ (by omega)).trans e36
    have e65 : g60 (1) = .inr (3, [.ref (ad (1 + 1)), .ref (ad (1 + 2))]) := (hs61 _ (by omega)).trans e37
    have e66 : g60 (1 + 1) = na ca 510 (pw) := (hs61 _ (by omega)).trans e38
    have e67 : g60 (1 + 2) = na ca 256 (ex) := (hs61 _ (by omega)).trans e39
    have e68 : g60 (6) = .inr (4, [.ref (ad (6 + 1)), .int (nI v0)]) := (hs61 _ (by omega)).trans e40
    have e69 : g60 (6 + 1) = na ca 59 (pl0) := (hs61 _ (by omega)).trans e41
    have e70 : g60 (8) = .inr (2, [.ref (ad 1), .ref (ad (8 + 1)), .ref (ad (8 + 61)), .ref (ad (8 + 62)), .int (nI Lw), .int (nI Tw), .int (nI (sw.1))]) := (hs61 _ (by omega)).trans e42
    have e71 : g60 (8 + 1) = qa ca 59 (fun i => if i < 59 then some (ad (8 + 2 + i)) else none) := (hs61 _ (by omega)).trans e43
    have e72 : g60 (8 + 61) = za ca 59 (sw.2.2.1) := (hs61 _ (by omega)).trans e44
    have e73 : g60 (8 + 62) = na ca 75 (sw.2.2.2) := (hs61 _ (by omega)).trans e45
    have e74 : g60 (71) = .inr (6, [.ref (ad 8), .ref (ad 6), .ref (ad 72)]) := (hs61 _ (by omega)).trans e46
    have e75 : g60 (72) = ia ca 49 (fd) := (hs61 _ (by omega)).trans e47
    have e76 : g60 (73) = .inr (0, [.ref (ad 74), .int (nI bk), .int (nI bt), .int (nI (if bk = 0 then 0 else tnN (fb bk)))]) := (hs61 _ (by omega)).trans e48
    have e77 : g60 (74) = qa ca 59 (fun i => if i < 59 then some (ad (75 + i)) else none) := (hs61 _ (by omega)).trans e49
    have e78 : g60 (134) = .inr (1, [.ref (ad 135), .int (nI ck), .int (nI ct), .int (nI (if ck = 0 then 0 else tnN (fb ck))), .int (nI cn)]) := (hs61 _ (by omega)).trans e50
    have e79 : g60 (135) = .inr (2, [.ref (ad 1), .ref (ad (135 + 1)), .ref (ad (135 + 61)), .ref (ad (135 + 62)), .int (nI (if ck = 0 then 0 else ck + 11)), .int (nI ct), .int (nI rk)]) := (hs61 _ (by omega)).trans e51
    have e80 : g60 (135 + 1) = qa ca 59 (fun i => if i < 59 then some (ad (135 + 2 + i)) else none) := (hs61 _ (by omega)).trans e52
    have e81 : g60 (135 + 61) = za ca 59 (ld) := (hs61 _ (by omega)).trans e53
    have e82 : g60 (135 + 62) = na ca 75 (ln0) := (hs61 _ (by omega)).trans e54
    have hr83 : ∀ p9, p9 < 59 → g60 (8 + 2 + p9) = na ca 75 (sw.2.1 p9) := fun p9 hp9 => (hs61 _ (by omega)).trans (hr55 p9 hp9)
    have hr84 : ∀ p9, p9 < 59 → g60 (75 + p9) = na ca 16 (BM p9) := fun p9 hp9 => (hs61 _ (by omega)).trans (hr56 p9 hp9)
    have hr85 : ∀ p9, p9 < 59 → g60 (135 + 2 + p9) = na ca 75 (M p9) := fun p9 hp9 => (hs61 _ (by omega)).trans (hr57 p9 hp9)
    have hs86 : ∀ z, (197 < z) → g60 z = g z := fun z hz => (hs61 z (by omega)).trans (hs58 z hz)
    refine lv_aload_n C.1 C.2.1 dX7_feed_44 rfl (lv_at hl 0 rfl) ?_
    refine k_get C F hw (0) (by omega) e64 rfl in_X7 1 (by decide) fl_X7_19 rfl dX7_feed_45 ?_
    refine lv_iload C.1 C.2.1 dX7_feed_48 (lv_at hl 4 rfl) ?_
    refine k_Vv C F hw (i := 4) (As := [.int (nI d)]) (rest := []) (c_X5_append 4 (len + 4 + 4 + 4) d (tpApp (tpApp (tpApp h len a) (len + 4) b) (len + 4 + 4) c0) (by omega) (by omega) hd e62 e63) (by omega) e62 rfl (cwV _ C.2.2.2.2 gm_X7_69 rfl rfl rfl cd_X5_append ⟨by decide, by decide⟩) hl.1 rfl (Nat.le_of_ble_eq_true rfl) dX7_feed_50 ⟨by decide, by decide⟩ (fun g88 H locs hp hw => ?_)
    obtain ⟨hs89, e90, e91⟩ := hp
    have e92 : g88 (0) = .inr (7, [.ref (ad 1), .ref (ad 4), .ref (ad 6), .ref (ad 8), .ref (ad 71), .ref (ad 73), .ref (ad 134)]) := (hs89 _ (by omega)).trans e64
    have e93 : g88 (1) = .inr (3, [.ref (ad (1 + 1)), .ref (ad (1 + 2))]) := (hs89 _ (by omega)).trans e65
    have e94 : g88 (1 + 1) = na ca 510 (pw) := (hs89 _ (by omega)).trans e66
    have e95 : g88 (1 + 2) = na ca 256 (ex) := (hs89 _ (by omega)).trans e67
    have e96 : g88 (6) = .inr (4, [.ref (ad (6 + 1)), .int (nI v0)]) := (hs89 _ (by omega)).trans e68
    have e97 : g88 (6 + 1) = na ca 59 (pl0) := (hs89 _ (by omega)).trans e69
    have e98 : g88 (8) = .inr (2, [.ref (ad 1), .ref (ad (8 + 1)), .ref (ad (8 + 61)), .ref (ad (8 + 62)), .int (nI Lw), .int (nI Tw), .int (nI (sw.1))]) := (hs89 _ (by omega)).trans e70
    have e99 : g88 (8 + 1) = qa ca 59 (fun i => if i < 59 then some (ad (8 + 2 + i)) else none) := (hs89 _ (by omega)).trans e71
    have e100 : g88 (8 + 61) = za ca 59 (sw.2.2.1) := (hs89 _ (by omega)).trans e72
    have e101 : g88 (8 + 62) = na ca 75 (sw.2.2.2) := (hs89 _ (by omega)).trans e73
    have e102 : g88 (71) = .inr (6, [.ref (ad 8), .ref (ad 6), .ref (ad 72)]) := (hs89 _ (by omega)).trans e74
    have e103 : g88 (72) = ia ca 49 (fd) := (hs89 _ (by omega)).trans e75
    have e104 : g88 (73) = .inr (0, [.ref (ad 74), .int (nI bk), .int (nI bt), .int (nI (if bk = 0 then 0 else tnN (fb bk)))]) := (hs89 _ (by omega)).trans e76
    have e105 : g88 (74) = qa ca 59 (fun i => if i < 59 then some (ad (75 + i)) else none) := (hs89 _ (by omega)).trans e77
    have e106 : g88 (134) = .inr (1, [.ref (ad 135), .int (nI ck), .int (nI ct), .int (nI (if ck = 0 then 0 else tnN (fb ck))), .int (nI cn)]) := (hs89 _ (by omega)).trans e78
    have e107 : g88 (135) = .inr (2, [.ref (ad 1), .ref (ad (135 + 1)), .ref (ad (135 + 61)), .ref (ad (135 + 62)), .int (nI (if ck = 0 then 0 else ck + 11)), .int (nI ct), .int (nI rk)]) := (hs89 _ (by omega)).trans e79
    have e108 : g88 (135 + 1) = qa ca 59 (fun i => if i < 59 then some (ad (135 + 2 + i)) else none) := (hs89 _ (by omega)).trans e80
    have e109 : g88 (135 + 61) = za ca 59 (ld) := (hs89 _ (by omega)).trans e81
    have e110 : g88 (135 + 62) = na ca 75 (ln0) := (hs89 _ (by omega)).trans e82
    have hr111 : ∀ p9, p9 < 59 → g88 (8 + 2 + p9) = na ca 75 (sw.2.1 p9) := fun p9 hp9 => (hs89 _ (by omega)).trans (hr83 p9 hp9)
    have hr112 : ∀ p9, p9 < 59 → g88 (75 + p9) = na ca 16 (BM p9) := fun p9 hp9 => (hs89 _ (by omega)).trans (hr84 p9 hp9)
    have hr113 : ∀ p9, p9 < 59 → g88 (135 + 2 + p9) = na ca 75 (M p9) := fun p9 hp9 => (hs89 _ (by omega)).trans (hr85 p9 hp9)
    have hs114 : ∀ z, (197 < z) → g88 z = g z := fun z hz => (hs89 z (by omega)).trans (hs86 z hz)
    refine lv_aload_n C.1 C.2.1 dX7_feed_53 rfl (lv_at hl 0 rfl) ?_
    refine k_get C F hw (0) (by omega) e92 rfl in_X7 1 (by decide) fl_X7_19 rfl dX7_feed_54 ?_
    refine lv_iload C.1 C.2.1 dX7_feed_57 (lv_at hl 5 rfl) ?_
    refine k_Vv C F hw (i := 4) (As := [.int (nI e0)]) (rest := []) (c_X5_append 4 (len + 4 + 4 + 4 + 4) e0 (tpApp (tpApp (tpApp (tpApp h len a) (len + 4) b) (len + 4 + 4) c0) (len + 4 + 4 + 4) d) (by omega) (by omega) he0 e90 e91) (by omega) e90 rfl (cwV _ C.2.2.2.2 gm_X7_69 rfl rfl rfl cd_X5_append ⟨by decide, by decide⟩) hl.1 rfl (Nat.le_of_ble_eq_true rfl) dX7_feed_59 ⟨by decide, by decide⟩ (fun g116 H locs hp hw => ?_)
    obtain ⟨hs117, e118, e119⟩ := hp
    have e120 : g116 (0) = .inr (7, [.ref (ad 1), .ref (ad 4), .ref (ad 6), .ref (ad 8), .ref (ad 71), .ref (ad 73), .ref (ad 134)]) := (hs117 _ (by omega)).trans e92
    have e121 : g116 (1) = .inr (3, [.ref (ad (1 + 1)), .ref (ad (1 + 2))]) := (hs117 _ (by omega)).trans e93
    have e122 : g116 (1 + 1) = na ca 510 (pw) := (hs117 _ (by omega)).trans e94
    have e123 : g116 (1 + 2) = na ca 256 (ex) := (hs117 _ (by omega)).trans e95
    have e124 : g116 (6) = .inr (4, [.ref (ad (6 + 1)), .int (nI v0)]) := (hs117 _ (by omega)).trans e96
    have e125 : g116 (6 + 1) = na ca 59 (pl0) := (hs117 _ (by omega)).trans e97
    have e126 : g116 (8) = .inr (2, [.ref (ad 1), .ref (ad (8 + 1)), .ref (ad (8 + 61)), .ref (ad (8 + 62)), .int (nI Lw), .int (nI Tw), .int (nI (sw.1))]) := (hs117 _ (by omega)).trans e98
    have e127 : g116 (8 + 1) = qa ca 59 (fun i => if i < 59 then some (ad (8 + 2 + i)) else none) := (hs117 _ (by omega)).trans e99
    have e128 : g116 (8 + 61) = za ca 59 (sw.2.2.1) := (hs117 _ (by omega)).trans e100
    have e129 : g116 (8 + 62) = na ca 75 (sw.2.2.2) := (hs117 _ (by omega)).trans e101
    have e130 : g116 (71) = .inr (6, [.ref (ad 8), .ref (ad 6), .ref (ad 72)]) := (hs117 _ (by omega)).trans e102
    have e131 : g116 (72) = ia ca 49 (fd) := (hs117 _ (by omega)).trans e103
    have e132 : g116 (73) = .inr (0, [.ref (ad 74), .int (nI bk), .int (nI bt), .int (nI (if bk = 0 then 0 else tnN (fb bk)))]) := (hs117 _ (by omega)).trans e104
    have e133 : g116 (74) = qa ca 59 (fun i => if i < 59 then some (ad (75 + i)) else none) := (hs117 _ (by omega)).trans e105
    have e134 : g116 (134) = .inr (1, [.ref (ad 135), .int (nI ck), .int (nI ct), .int (nI (if ck = 0 then 0 else tnN (fb ck))), .int (nI cn)]) := (hs117 _ (by omega)).trans e106
    have e135 : g116 (135) = .inr (2, [.ref (ad 1), .ref (ad (135 + 1)), .ref (ad (135 + 61)), .ref (ad (135 + 62)), .int (nI (if ck = 0 then 0 else ck + 11)), .int (nI ct), .int (nI rk)]) := (hs117 _ (by omega)).trans e107
    have e136 : g116 (135 + 1) = qa ca 59 (fun i => if i < 59 then some (ad (135 + 2 + i)) else none) := (hs117 _ (by omega)).trans e108
    have e137 : g116 (135 + 61) = za ca 59 (ld) := (hs117 _ (by omega)).trans e109
    have e138 : g116 (135 + 62) = na ca 75 (ln0) := (hs117 _ (by omega)).trans e110
    have hr139 : ∀ p9, p9 < 59 → g116 (8 + 2 + p9) = na ca 75 (sw.2.1 p9) := fun p9 hp9 => (hs117 _ (by omega)).trans (hr111 p9 hp9)
    have hr140 : ∀ p9, p9 < 59 → g116 (75 + p9) = na ca 16 (BM p9) := fun p9 hp9 => (hs117 _ (by omega)).trans (hr112 p9 hp9)
    have hr141 : ∀ p9, p9 < 59 → g116 (135 + 2 + p9) = na ca 75 (M p9) := fun p9 hp9 => (hs117 _ (by omega)).trans (hr113 p9 hp9)
    have hs142 : ∀ z, (197 < z) → g116 z = g z := fun z hz => (hs117 z (by omega)).trans (hs114 z hz)
    refine lv_aload_n C.1 C.2.1 dX7_feed_62 rfl (lv_at hl 0 rfl) ?_
    refine k_get C F hw (0) (by omega) e120 rfl in_X7 1 (by decide) fl_X7_19 rfl dX7_feed_63 ?_
    refine k_getN C F hw (4) (by omega) e118 rfl in_X5 1 (by decide) fl_X7_73 rfl dX7_feed_66 ?_
    have hF144 : FieldAt ca ad g116 1 pw ex := ⟨e121, e122, e123⟩
    have hK145 : PkAt ca ad g116 6 v0 pl0 := ⟨e124, e125⟩
    have hE146 : EqAt ca ad g116 8 1 Lw Tw sw.1 sw.2.1 sw.2.2.1 sw.2.2.2 := ⟨e126, e127, hr139, e128, e129⟩
    have hE147 : EqAt ca ad g116 135 1 (if ck = 0 then 0 else ck + 11) ct rk M ld ln0 := ⟨e135, e136, hr141, e137, e138⟩
    have hI143 : DInv ca ad g116 pw ex fb (len + 20) (tpApp (tpApp (tpApp (tpApp (tpApp h len a) (len + 4) b) (len + 4 + 4) c0) (len + 4 + 4 + 4) d) (len + 4 + 4 + 4 + 4) e0) bk bt BM ck ct cn rk M ld := ⟨e120, hF144, ⟨e118, e119⟩, ⟨_, _, hK145⟩, ⟨_, _, _, hE146, hBw⟩, e130, ⟨_, e131, hfd⟩, ⟨e132, e133, hr140⟩, e134, ⟨_, hln0, hE147⟩, ⟨hroom, by_app (by_app (by_app (by_app (by_app hh))))⟩, ⟨hbk, hBM⟩, ⟨hck, hM⟩⟩
    exact hret H locs ls _ _ _ dX7_feed_69 hw (⟨hs142, hroom, rfl, hI143⟩)
  · have hF149 : FieldAt ca ad g 1 pw ex := ⟨hF.1, hF.2.1, hF.2.2⟩
    have hK150 : PkAt ca ad g 6 v0 pl0 := ⟨hK.1, hK.2⟩
    have hE151 : EqAt ca ad g 8 1 Lw Tw sw.1 sw.2.1 sw.2.2.1 sw.2.2.2 := ⟨hEw.1, hEw.2.1, hEw.2.2.1, hEw.2.2.2.1, hEw.2.2.2.2⟩
    have hE152 : EqAt ca ad g 135 1 (if ck = 0 then 0 else ck + 11) ct rk M ld ln0 := ⟨hEc.1, hEc.2.1, hEc.2.2.1, hEc.2.2.2.1, hEc.2.2.2.2⟩
    have hI148 : DInv ca ad g pw ex fb len h bk bt BM ck ct cn rk M ld := ⟨eO, hF149, ⟨hT4.1, hT4.2⟩, ⟨_, _, hK150⟩, ⟨_, _, _, hE151, hBw⟩, eT, ⟨_, eD, hfd⟩, ⟨hB.1, hB.2.1, hB.2.2⟩, hC, ⟨_, hln0, hE152⟩, ⟨hlen, hh⟩, ⟨hbk, hBM⟩, ⟨hck, hM⟩⟩
    exact hthr H locs ls _ _ _ xU 66 68 tw_U hw hl.1 dX7_feed_12 dX7_feed_15 dX7_feed_16 dX7_feed_19 (by decide) (Nat.le_of_ble_eq_true rfl) (by decide) (by decide) (⟨rfl, of_decide_eq_false hc9, (fun z _ => rfl), hI148⟩)

abbrev rm_X7_end : Room := { frames := 6, cells := 1, slots := 6, locals := 90 }

set_option maxHeartbeats 800000 in
set_option maxRecDepth 100000 in
/-- FountainDesk.end -/
theorem c_X7_end {l : Launch} {D : va_G} {ca : Nat → ClassId} {tB tS R : Nat} {ad : Nat → Nat} {g : Nat → va_E} {sz : Nat} (hlt : l.stackTraces = false) (pw ex : Nat → Nat) (hX : ExOk ex) (hP : PwOk pw) (hR : 197 < R) (fb : Nat → Nat → Bool) (hfb : ∀ k t s pl, 1 ≤ k → k ≤ 48 → EqBy s → t < 1000 → fillB pw ex k t s pl = fb k t) (len : Nat) (h : Nat → Nat) (bk bt : Nat) (BM : Nat → Nat → Nat) (ck ct cn rk : Nat) (M : Nat → Nat → Nat) (ld : Nat → Bool) (hI : DInv ca ad g pw ex fb len h bk bt BM ck ct cn rk M ld) (n : Int32) : XMV l yX7_end cX7_end 2 rm_X7_end D ca tB tS R ad g sz [.ref (ad 0), .int (n)] (fun g1 => (∀ z, 197 < z → g1 z = g z) ∧ ∃ j, n = nI j ∧ j ≤ len ∧ DInv ca ad g1 pw ex fb j h bk bt BM ck ct cn rk M ld) (fun E g1 => E = xA ∧ (¬ ∃ j, n = nI j ∧ j ≤ len) ∧ (∀ z, 197 < z → g1 z = g z) ∧ DInv ca ad g1 pw ex fb len h bk bt BM ck ct cn rk M ld) := by
  refine x_startV hlt (by decide) (Nat.le_of_ble_eq_true rfl) (fun p e s m args below meth c ls Q hsz C hl F hw hret hthr => ?_)
  have hl : lv_has ls 2 [(0, .ref (ad 0)), (1, .int (n))] := hl
  generalize s.heap = H at hw ⊢
  generalize ([] : List Loc) = locs at hw ⊢
  obtain ⟨eO, hF, hT4, ⟨v0, pl0, hK⟩, ⟨Lw, Tw, sw, hEw, hBw⟩, eT, ⟨fd, eD, hfd⟩, hB, hC, ⟨ln0, hln0, hEc⟩, ⟨hlen, hh⟩, ⟨hbk, hBM⟩, ⟨hck, hM⟩⟩ := hI
  refine lv_iload_n C.1 C.2.1 dX7_end_0 rfl (lv_at hl 1 rfl) ?_
  refine lv_if_lt (tgt := 15) C.1 C.2.1 dX7_end_1 (by decide) (fun hc1 => ?_) (fun hc1 => ?_)
  · have hF2 : FieldAt ca ad g 1 pw ex := ⟨hF.1, hF.2.1, hF.2.2⟩
    have hK3 : PkAt ca ad g 6 v0 pl0 := ⟨hK.1, hK.2⟩
    have hE4 : EqAt ca ad g 8 1 Lw Tw sw.1 sw.2.1 sw.2.2.1 sw.2.2.2 := ⟨hEw.1, hEw.2.1, hEw.2.2.1, hEw.2.2.2.1, hEw.2.2.2.2⟩
    have hE5 : EqAt ca ad g 135 1 (if ck = 0 then 0 else ck + 11) ct rk M ld ln0 := ⟨hEc.1, hEc.2.1, hEc.2.2.1, hEc.2.2.2.1, hEc.2.2.2.2⟩
    have hI1 : DInv ca ad g pw ex fb len h bk bt BM ck ct cn rk M ld := ⟨eO, hF2, ⟨hT4.1, hT4.2⟩, ⟨_, _, hK3⟩, ⟨_, _, _, hE4, hBw⟩, eT, ⟨_, eD, hfd⟩, ⟨hB.1, hB.2.1, hB.2.2⟩, hC, ⟨_, hln0, hE5⟩, ⟨hlen, hh⟩, ⟨hbk, hBM⟩, ⟨hck, hM⟩⟩
    exact hthr H locs ls _ _ _ xA 77 79 tw_A hw hl.1 dX7_end_15 dX7_end_18 dX7_end_19 dX7_end_22 (by decide) (Nat.le_of_ble_eq_true rfl) (by decide) (by decide) (⟨rfl, fun ⟨j, h1, h2⟩ => by first | exact absurd hc1 (by rw [h1]; exact nI_pos (by omega)) | exact absurd ((nI_leI (by omega) (by omega)).mpr h2) (by rw [← h1]; exact hc12), (fun z _ => rfl), hI1⟩)
  · refine lv_iload_n C.1 C.2.1 dX7_end_4 rfl (lv_at hl 1 rfl) ?_
    refine lv_aload_n C.1 C.2.1 dX7_end_5 rfl (lv_at hl 0 rfl) ?_
    refine k_get C F hw (0) (by omega) eO rfl in_X7 1 (by decide) fl_X7_19 rfl dX7_end_6 ?_
    refine k_getN C F hw (4) (by omega) hT4.1 rfl in_X5 1 (by decide) fl_X7_73 rfl dX7_end_9 ?_
    refine lv_icmp_le (tgt := 23) C.1 C.2.1 dX7_end_12 (by decide) (fun hc12 => ?_) (fun hc12 => ?_)
    · obtain ⟨j, hj, rfl⟩ := nI_of hc1
      have hjl : j ≤ len := (nI_leI hj (by omega)).mp hc12
      refine lv_aload_n C.1 C.2.1 dX7_end_23 rfl (lv_at hl 0 rfl) ?_
      refine k_get C F hw (0) (by omega) eO rfl in_X7 1 (by decide) fl_X7_19 rfl dX7_end_24 ?_
      refine lv_iload_n C.1 C.2.1 dX7_end_27 rfl (lv_at hl 1 rfl) ?_
      refine k_putN C F hw (4) (by omega) hT4.1 rfl in_X5 tyX5_ok nmX5 1 (by decide) fl_X7_73 rfl (v := .int (nI j)) rfl rfl (Nat.le_of_ble_eq_true rfl) dX7_end_28 (fun H locs hw => ?_)
      have hw : Wd D (AA R ad sz) s R ad (va_up g (4) (.inr (5, [.ref (ad (4 + 1)), .int (nI j)]))) H locs := hw
      obtain ⟨g6, hg6⟩ : ∃ z, z = va_up g (4) (.inr (5, [.ref (ad (4 + 1)), .int (nI j)])) := ⟨_, rfl⟩
      rw [← hg6] at hw
      have hk7 : ∀ z, z ≠ 4 → g6 z = g z := fun z hz => by rw [hg6]; exact va_up_ne _ _ hz
      have e8 : g6 (4) = .inr (5, [.ref (ad (4 + 1)), .int (nI j)]) := by rw [hg6]; exact va_up_self _ _ _
      have e9 : g6 (0) = .inr (7, [.ref (ad 1), .ref (ad 4), .ref (ad 6), .ref (ad 8), .ref (ad 71), .ref (ad 73), .ref (ad 134)]) := (hk7 _ (by omega)).trans eO
      have e10 : g6 (1) = .inr (3, [.ref (ad (1 + 1)), .ref (ad (1 + 2))]) := (hk7 _ (by omega)).trans hF.1
      have e11 : g6 (1 + 1) = na ca 510 (pw) := (hk7 _ (by omega)).trans hF.2.1
      have e12 : g6 (1 + 2) = na ca 256 (ex) := (hk7 _ (by omega)).trans hF.2.2
      have e13 : g6 (4 + 1) = na ca 800 (h) := (hk7 _ (by omega)).trans hT4.2
      have e14 : g6 (6) = .inr (4, [.ref (ad (6 + 1)), .int (nI v0)]) := (hk7 _ (by omega)).trans hK.1
      have e15 : g6 (6 + 1) = na ca 59 (pl0) := (hk7 _ (by omega)).trans hK.2
      have e16 : g6 (8) = .inr (2, [.ref (ad 1), .ref (ad (8 + 1)), .ref (ad (8 + 61)), .ref (ad (8 + 62)), .int (nI Lw), .int (nI Tw), .int (nI (sw.1))]) := (hk7 _ (by omega)).trans hEw.1
      have e17 : g6 (8 + 1) = qa ca 59 (fun i => if i < 59 then some (ad (8 + 2 + i)) else none) := (hk7 _ (by omega)).trans hEw.2.1
      have e18 : g6 (8 + 61) = za ca 59 (sw.2.2.1) := (hk7 _ (by omega)).trans hEw.2.2.2.1
      have e19 : g6 (8 + 62) = na ca 75 (sw.2.2.2) := (hk7 _ (by omega)).trans hEw.2.2.2.2
      have e20 : g6 (71) = .inr (6, [.ref (ad 8), .ref (ad 6), .ref (ad 72)]) := (hk7 _ (by omega)).trans eT
      have e21 : g6 (72) = ia ca 49 (fd) := (hk7 _ (by omega)).trans eD
      have e22 : g6 (73) = .inr (0, [.ref (ad 74), .int (nI bk), .int (nI bt), .int (nI (if bk = 0 then 0 else tnN (fb bk)))]) := (hk7 _ (by omega)).trans hB.1
      have e23 : g6 (74) = qa ca 59 (fun i => if i < 59 then some (ad (75 + i)) else none) := (hk7 _ (by omega)).trans hB.2.1
      have e24 : g6 (134) = .inr (1, [.ref (ad 135), .int (nI ck), .int (nI ct), .int (nI (if ck = 0 then 0 else tnN (fb ck))), .int (nI cn)]) := (hk7 _ (by omega)).trans hC
      have e25 : g6 (135) = .inr (2, [.ref (ad 1), .ref (ad (135 + 1)), .ref (ad (135 + 61)), .ref (ad (135 + 62)), .int (nI (if ck = 0 then 0 else ck + 11)), .int (nI ct), .int (nI rk)]) := (hk7 _ (by omega)).trans hEc.1
      have e26 : g6 (135 + 1) = qa ca 59 (fun i => if i < 59 then some (ad (135 + 2 + i)) else none) := (hk7 _ (by omega)).trans hEc.2.1
      have e27 : g6 (135 + 61) = za ca 59 (ld) := (hk7 _ (by omega)).trans hEc.2.2.2.1
      have e28 : g6 (135 + 62) = na ca 75 (ln0) := (hk7 _ (by omega)).trans hEc.2.2.2.2
      have hr29 : ∀ p9, p9 < 59 → g6 (8 + 2 + p9) = na ca 75 (sw.2.1 p9) := fun p9 hp9 => (hk7 _ (by omega)).trans (hEw.2.2.1 p9 hp9)
      have hr30 : ∀ p9, p9 < 59 → g6 (75 + p9) = na ca 16 (BM p9) := fun p9 hp9 => (hk7 _ (by omega)).trans (hB.2.2 p9 hp9)
      have hr31 : ∀ p9, p9 < 59 → g6 (135 + 2 + p9) = na ca 75 (M p9) := fun p9 hp9 => (hk7 _ (by omega)).trans (hEc.2.2.1 p9 hp9)
      have hs32 : ∀ z, (197 < z) → g6 z = g z := fun z hz => hk7 z (by omega)
      have hF34 : FieldAt ca ad g6 1 pw ex := ⟨e10, e11, e12⟩
      have hK35 : PkAt ca ad g6 6 v0 pl0 := ⟨e14, e15⟩
      have hE36 : EqAt ca ad g6 8 1 Lw Tw sw.1 sw.2.1 sw.2.2.1 sw.2.2.2 := ⟨e16, e17, hr29, e18, e19⟩
      have hE37 : EqAt ca ad g6 135 1 (if ck = 0 then 0 else ck + 11) ct rk M ld ln0 := ⟨e25, e26, hr31, e27, e28⟩
      have hI33 : DInv ca ad g6 pw ex fb j h bk bt BM ck ct cn rk M ld := ⟨e9, hF34, ⟨e8, e13⟩, ⟨_, _, hK35⟩, ⟨_, _, _, hE36, hBw⟩, e20, ⟨_, e21, hfd⟩, ⟨e22, e23, hr30⟩, e24, ⟨_, hln0, hE37⟩, ⟨by omega, hh⟩, ⟨hbk, hBM⟩, ⟨hck, hM⟩⟩
      exact hret H locs ls _ _ dX7_end_31 hw (⟨hs32, j, rfl, hjl, hI33⟩)
    · have hF39 : FieldAt ca ad g 1 pw ex := ⟨hF.1, hF.2.1, hF.2.2⟩
      have hK40 : PkAt ca ad g 6 v0 pl0 := ⟨hK.1, hK.2⟩
      have hE41 : EqAt ca ad g 8 1 Lw Tw sw.1 sw.2.1 sw.2.2.1 sw.2.2.2 := ⟨hEw.1, hEw.2.1, hEw.2.2.1, hEw.2.2.2.1, hEw.2.2.2.2⟩
      have hE42 : EqAt ca ad g 135 1 (if ck = 0 then 0 else ck + 11) ct rk M ld ln0 := ⟨hEc.1, hEc.2.1, hEc.2.2.1, hEc.2.2.2.1, hEc.2.2.2.2⟩
      have hI38 : DInv ca ad g pw ex fb len h bk bt BM ck ct cn rk M ld := ⟨eO, hF39, ⟨hT4.1, hT4.2⟩, ⟨_, _, hK40⟩, ⟨_, _, _, hE41, hBw⟩, eT, ⟨_, eD, hfd⟩, ⟨hB.1, hB.2.1, hB.2.2⟩, hC, ⟨_, hln0, hE42⟩, ⟨hlen, hh⟩, ⟨hbk, hBM⟩, ⟨hck, hM⟩⟩
      exact hthr H locs ls _ _ _ xA 77 79 tw_A hw hl.1 dX7_end_15 dX7_end_18 dX7_end_19 dX7_end_22 (by decide) (Nat.le_of_ble_eq_true rfl) (by decide) (by decide) (⟨rfl, fun ⟨j, h1, h2⟩ => by first | exact absurd hc1 (by rw [h1]; exact nI_pos (by omega)) | exact absurd ((nI_leI (by omega) (by omega)).mpr h2) (by rw [← h1]; exact hc12), (fun z _ => rfl), hI38⟩)

abbrev rm_X7_turn : Room := { frames := 6, cells := 1, slots := 6, locals := 150 }

set_option maxHeartbeats 800000 in
set_option maxRecDepth 100000 in
/-- FountainDesk.turn -/
theorem c_X7_turn {l : Launch} {D : va_G} {ca : Nat → ClassId} {tB tS R : Nat} {ad : Nat → Nat} {g : Nat → va_E} {sz : Nat} (hlt : l.stackTraces = false) (pw ex : Nat → Nat) (hX : ExOk ex) (hP : PwOk pw) (hR : 197 < R) (fb : Nat → Nat → Bool) (hfb : ∀ k t s pl, 1 ≤ k → k ≤ 48 → EqBy s → t < 1000 → fillB pw ex k t s pl = fb k t) (len : Nat) (h : Nat → Nat) (bk bt : Nat) (BM : Nat → Nat → Nat) (ck ct cn rk : Nat) (M : Nat → Nat → Nat) (ld : Nat → Bool) (hI : DInv ca ad g pw ex fb len h bk bt BM ck ct cn rk M ld) (k : Int32) : XMI l yX7_turn cX7_turn 2 .int rm_X7_turn D ca tB tS R ad g sz [.ref (ad 0), .int (k)] (fun r g1 => (∀ z, 197 < z → g1 z = g z) ∧ ∃ j : Nat, k = nI j ∧ (1 ≤ j ∧ j ≤ 48) ∧ r = nI (tnN (fb j)) ∧ DInv ca ad g1 pw ex fb len h bk bt BM ck ct cn rk M ld) (fun E g1 => E = xA ∧ ¬ (1 ≤ k ∧ k ≤ 48) ∧ (∀ z, 197 < z → g1 z = g z) ∧ DInv ca ad g1 pw ex fb len h bk bt BM ck ct cn rk M ld) := by
  refine x_startI hlt (by decide) (Nat.le_of_ble_eq_true rfl) (fun p e s m args below meth c ls Q hsz C hl F hw hret hthr => ?_)
  have hl : lv_has ls 2 [(0, .ref (ad 0)), (1, .int (k))] := hl
  generalize s.heap = H at hw ⊢
  generalize ([] : List Loc) = locs at hw ⊢
  obtain ⟨eO, hF, hT4, ⟨v0, pl0, hK⟩, ⟨Lw, Tw, sw, hEw, hBw⟩, eT, ⟨fd, eD, hfd⟩, hB, hC, ⟨ln0, hln0, hEc⟩, ⟨hlen, hh⟩, ⟨hbk, hBM⟩, ⟨hck, hM⟩⟩ := hI
  refine lv_iload_n C.1 C.2.1 dX7_turn_0 rfl (lv_at hl 1 rfl) ?_
  refine k_Si C F hw (As := [.int (k)]) (rest := []) (c_X7_isSymbolCount k) (va_cwS _ C.2.2.2.2 gm_X7_80 rfl rfl rfl cd_X7_isSymbolCount.2 ⟨by decide, by decide⟩) hl.1 rfl (Nat.le_of_ble_eq_true rfl) dX7_turn_1 ⟨by decide, by decide⟩ (fun r1 g2 H locs hp hw => ?_)
  obtain ⟨hr9, hg9⟩ := hp
  rw [hg9] at hw
  subst hr9
  refine k_bne (tgt := 15) C dX7_turn_4 (by decide) (fun hc4 => ?_) (fun hc4 => ?_)
  · obtain ⟨j, hj, rfl⟩ := nat_of48 (of_decide_eq_true hc4)
    refine lv_aload_n C.1 C.2.1 dX7_turn_15 rfl (lv_at hl 0 rfl) ?_
    refine k_get C F hw (0) (by omega) eO rfl in_X7 4 (by decide) fl_X7_44 rfl dX7_turn_16 ?_
    refine lv_iload_n C.1 C.2.1 dX7_turn_19 rfl (lv_at hl 1 rfl) ?_
    have hF3 : FieldAt ca ad g 1 pw ex := ⟨hF.1, hF.2.1, hF.2.2⟩
    have hE4 : EqAt ca ad g 8 1 Lw Tw sw.1 sw.2.1 sw.2.2.1 sw.2.2.2 := ⟨hEw.1, hEw.2.1, hEw.2.2.1, hEw.2.2.2.1, hEw.2.2.2.2⟩
    have hK5 : PkAt ca ad g 6 v0 pl0 := ⟨hK.1, hK.2⟩
    refine k_Vi C F hw (i := 71) (As := [.int (nI j)]) (rest := []) (c_X6_of pw ex hF3 hX hP hR ⟨_, _, _, hE4, hBw⟩ ⟨_, _, hK5⟩ eT fd eD j hj (fb j) (fun t s pl h1 h2 => hfb j t s pl hj.1 hj.2 h1 h2) (hfd j hj.1 hj.2)) (by omega) eT rfl (cwV _ C.2.2.2.2 gm_X7_83 rfl rfl rfl cd_X6_of ⟨by decide, by decide⟩) hl.1 rfl (Nat.le_of_ble_eq_true rfl) dX7_turn_20 ⟨by decide, by decide⟩ (fun r6 g7 H locs hp hw => ?_)
    obtain ⟨hs8, hr9, ⟨L8, T8, s8, hE8, hB8⟩, ⟨v8, pl8, hK8⟩, fd8, eD8, hfk8, hfo8⟩ := hp
    subst hr9
    have hfd8 : ∀ k9, 1 ≤ k9 → k9 ≤ 48 → fd8 k9 = -1 ∨ fd8 k9 = nI (tnN (fb k9)) := fun k9 h1 h2 => by by_cases h9 : k9 = j; (rw [h9]; exact Or.inr hfk8); (rw [hfo8 k9 h9]; exact hfd k9 h1 h2)
    have htn8 := tnN_le (fb j)
    have e9 : g7 (0) = .inr (7, [.ref (ad 1), .ref (ad 4), .ref (ad 6), .ref (ad 8), .ref (ad 71), .ref (ad 73), .ref (ad 134)]) := (hs8 _ (by omega)).trans eO
    have e10 : g7 (1) = .inr (3, [.ref (ad (1 + 1)), .ref (ad (1 + 2))]) := (hs8 _ (by omega)).trans hF.1
    have e11 : g7 (1 + 1) = na ca 510 (pw) := (hs8 _ (by omega)).trans hF.2.1
    have e12 : g7 (1 + 2) = na ca 256 (ex) := (hs8 _ (by omega)).trans hF.2.2
    have e13 : g7 (4) = .inr (5, [.ref (ad (4 + 1)), .int (nI len)]) := (hs8 _ (by omega)).trans hT4.1
    have e14 : g7 (4 + 1) = na ca 800 (h) := (hs8 _ (by omega)).trans hT4.2
    have e15 : g7 (71) = .inr (6, [.ref (ad 8), .ref (ad 6), .ref (ad 72)]) := (hs8 _ (by omega)).trans eT
    have e16 : g7 (73) = .inr (0, [.ref (ad 74), .int (nI bk), .int (nI bt), .int (nI (if bk = 0 then 0 else tnN (fb bk)))]) := (hs8 _ (by omega)).trans hB.1
    have e17 : g7 (74) = qa ca 59 (fun i => if i < 59 then some (ad (75 + i)) else none) := (hs8 _ (by omega)).trans hB.2.1
    have e18 : g7 (134) = .inr (1, [.ref (ad 135), .int (nI ck), .int (nI ct), .int (nI (if ck = 0 then 0 else tnN (fb ck))), .int (nI cn)]) := (hs8 _ (by omega)).trans hC
    have e19 : g7 (135) = .inr (2, [.ref (ad 1), .ref (ad (135 + 1)), .ref (ad (135 + 61)), .ref (ad (135 + 62)), .int (nI (if ck = 0 then 0 else ck + 11)), .int (nI ct), .int (nI rk)]) := (hs8 _ (by omega)).trans hEc.1
    have e20 : g7 (135 + 1) = qa ca 59 (fun i => if i < 59 then some (ad (135 + 2 + i)) else none) := (hs8 _ (by omega)).trans hEc.2.1
    have e21 : g7 (135 + 61) = za ca 59 (ld) := (hs8 _ (by omega)).trans hEc.2.2.2.1
    have e22 : g7 (135 + 62) = na ca 75 (ln0) := (hs8 _ (by omega)).trans hEc.2.2.2.2
    have hr23 : ∀ p9, p9 < 59 → g7 (75 + p9) = na ca 16 (BM p9) := fun p9 hp9 => (hs8 _ (by omega)).trans (hB.2.2 p9 hp9)
    have hr24 : ∀ p9, p9 < 59 → g7 (135 + 2 + p9) = na ca 75 (M p9) := fun p9 hp9 => (hs8 _ (by omega)).trans (hEc.2.2.1 p9 hp9)
    have hs25 : ∀ z, (197 < z) → g7 z = g z := fun z hz => hs8 z (by omega)
    have hF27 : FieldAt ca ad g7 1 pw ex := ⟨e10, e11, e12⟩
    have hK28 : PkAt ca ad g7 6 v8 pl8 := ⟨hK8.1, hK8.2⟩
    have hE29 : EqAt ca ad g7 8 1 L8 T8 s8.1 s8.2.1 s8.2.2.1 s8.2.2.2 := ⟨hE8.1, hE8.2.1, hE8.2.2.1, hE8.2.2.2.1, hE8.2.2.2.2⟩
    have hE30 : EqAt ca ad g7 135 1 (if ck = 0 then 0 else ck + 11) ct rk M ld ln0 := ⟨e19, e20, hr24, e21, e22⟩
    have hI26 : DInv ca ad g7 pw ex fb len h bk bt BM ck ct cn rk M ld := ⟨e9, hF27, ⟨e13, e14⟩, ⟨_, _, hK28⟩, ⟨_, _, _, hE29, hB8⟩, e15, ⟨_, eD8, hfd8⟩, ⟨e16, e17, hr23⟩, e18, ⟨_, hln0, hE30⟩, ⟨hlen, hh⟩, ⟨hbk, hBM⟩, ⟨hck, hM⟩⟩
    exact hret H locs ls _ _ _ dX7_turn_23 hw (⟨hs25, j, rfl, hj, rfl, hI26⟩)
  · have hF32 : FieldAt ca ad g 1 pw ex := ⟨hF.1, hF.2.1, hF.2.2⟩
    have hK33 : PkAt ca ad g 6 v0 pl0 := ⟨hK.1, hK.2⟩
    have hE34 : EqAt ca ad g 8 1 Lw Tw sw.1 sw.2.1 sw.2.2.1 sw.2.2.2 := ⟨hEw.1, hEw.2.1, hEw.2.2.1, hEw.2.2.2.1, hEw.2.2.2.2⟩
    have hE35 : EqAt ca ad g 135 1 (if ck = 0 then 0 else ck + 11) ct rk M ld ln0 := ⟨hEc.1, hEc.2.1, hEc.2.2.1, hEc.2.2.2.1, hEc.2.2.2.2⟩
    have hI31 : DInv ca ad g pw ex fb len h bk bt BM ck ct cn rk M ld := ⟨eO, hF32, ⟨hT4.1, hT4.2⟩, ⟨_, _, hK33⟩, ⟨_, _, _, hE34, hBw⟩, eT, ⟨_, eD, hfd⟩, ⟨hB.1, hB.2.1, hB.2.2⟩, hC, ⟨_, hln0, hE35⟩, ⟨hlen, hh⟩, ⟨hbk, hBM⟩, ⟨hck, hM⟩⟩
    exact hthr H locs ls _ _ _ xA 77 79 tw_A hw hl.1 dX7_turn_7 dX7_turn_10 dX7_turn_11 dX7_turn_14 (by decide) (Nat.le_of_ble_eq_true rfl) (by decide) (by decide) (⟨rfl, of_decide_eq_false hc4, (fun z _ => rfl), hI31⟩)
