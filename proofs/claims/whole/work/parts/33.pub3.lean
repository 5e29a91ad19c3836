/-! ===== take, give, follows, known ===== -/
noncomputable def inB (fb : Nat → Nat → Bool) (BM : Nat → Nat → Nat) (ck ct rk : Nat) (M : Nat → Nat → Nat) (ld : Nat → Bool) (x : Nat) (ln1 pl1 : Nat → Nat) : EqS := inS ct (fun i => vlN BM (pkOut ck x (tnN (fb ck)) pl1).1 i (pkOut ck x (tnN (fb ck)) pl1).2.1) (pkOut ck x (tnN (fb ck)) pl1) (rk, M, ld, ln1)
noncomputable def inT (fb : Nat → Nat → Bool) (h : Nat → Nat) (ck ct rk : Nat) (M : Nat → Nat → Nat) (ld : Nat → Bool) (x : Nat) (ln1 pl1 : Nat → Nat) : EqS := inS ct h (pkOut ck x (tnN (fb ck)) pl1) (rk, M, ld, ln1)
theorem learn_m1 {pw ex : Nat → Nat} {L T : Nat} {s : EqS} (h : learnR pw ex L T s = -1) : (learnS pw ex L T s).1 = s.1 ∧ (learnS pw ex L T s).2.1 = s.2.1 ∧ (learnS pw ex L T s).2.2.1 = s.2.2.1 := by
  cases hq : learnQ pw ex L T s with
  | zero => rw [(learn_0 hq).1]; exact ⟨rfl, rfl, rfl⟩
  | succ q => rw [(learn_1 hq).2] at h; exact absurd h (by decide)

abbrev rm_X7_take : Room := { frames := 6, cells := 1, slots := 6, locals := 125 }

set_option maxHeartbeats 800000 in
set_option maxRecDepth 100000 in
/-- FountainDesk.take -/
theorem c_X7_take {l : Launch} {D : va_G} {ca : Nat → ClassId} {tB tS R : Nat} {ad : Nat → Nat} {g : Nat → va_E} {sz : Nat} (hlt : l.stackTraces = false) (pw ex : Nat → Nat) (hX : ExOk ex) (hP : PwOk pw) (hR : 197 < R) (fb : Nat → Nat → Bool) (hfb : ∀ k t s pl, 1 ≤ k → k ≤ 48 → EqBy s → t < 1000 → fillB pw ex k t s pl = fb k t) (len : Nat) (h : Nat → Nat) (bk bt : Nat) (BM : Nat → Nat → Nat) (ck ct cn rk : Nat) (M : Nat → Nat → Nat) (ld : Nat → Bool) (hI : DInv ca ad g pw ex fb len h bk bt BM ck ct cn rk M ld) (xx : Int32) : XMI l yX7_take cX7_take 3 .boolean rm_X7_take D ca tB tS R ad g sz [.ref (ad 0), .int (xx)] (fun r g1 => (∀ z, 197 < z → g1 z = g z) ∧ (bk ≠ 0 ∧ bk = ck ∧ bt = ct) ∧ ∃ x : Nat, xx = nI x ∧ x < 65536 ∧ ∃ ln1 pl1, By ln1 ∧ learnR pw ex (ck + 11) ct (inB fb BM ck ct rk M ld x ln1 pl1) ≠ -1 ∧ r = bI (decide (learnR pw ex (ck + 11) ct (inB fb BM ck ct rk M ld x ln1 pl1) = 1)) ∧ DInv ca ad g1 pw ex fb len h bk bt BM ck ct (cn + 1) (learnS pw ex (ck + 11) ct (inB fb BM ck ct rk M ld x ln1 pl1)).1 (learnS pw ex (ck + 11) ct (inB fb BM ck ct rk M ld x ln1 pl1)).2.1 (learnS pw ex (ck + 11) ct (inB fb BM ck ct rk M ld x ln1 pl1)).2.2.1) (fun E g1 => (E = xI ∧ ¬ (bk ≠ 0 ∧ bk = ck ∧ bt = ct) ∨ E = xO ∧ (bk ≠ 0 ∧ bk = ck ∧ bt = ct) ∧ ¬ (0 ≤ xx ∧ xx < 65536) ∨ E = xU ∧ (bk ≠ 0 ∧ bk = ck ∧ bt = ct) ∧ ∃ x : Nat, xx = nI x ∧ x < 65536 ∧ ∃ ln1 pl1, By ln1 ∧ learnR pw ex (ck + 11) ct (inB fb BM ck ct rk M ld x ln1 pl1) = -1) ∧ (∀ z, 197 < z → g1 z = g z) ∧ DInv ca ad g1 pw ex fb len h bk bt BM ck ct cn rk M ld) := by
  refine x_startZ hlt (by decide) (Nat.le_of_ble_eq_true rfl) (fun p e s m args below meth c ls Q hsz C hl F hw hret hthr => ?_)
  have hl : lv_has ls 3 [(0, .ref (ad 0)), (1, .int (xx))] := hl
  generalize s.heap = H at hw ⊢
  generalize ([] : List Loc) = locs at hw ⊢
  obtain ⟨eO, hF, hT4, ⟨v0, pl0, hK⟩, ⟨Lw, Tw, sw, hEw, hBw⟩, eT, ⟨fd, eD, hfd⟩, hB, hC, ⟨ln0, hln0, hEc⟩, ⟨hlen, hh⟩, ⟨hbk, hBM⟩, ⟨hck, hM⟩⟩ := hI
  refine lv_aload_n C.1 C.2.1 dX7_take_0 rfl (lv_at hl 0 rfl) ?_
  have hB1 : BlkAt ca ad g bk bt (if bk = 0 then 0 else tnN (fb bk)) BM := ⟨hB.1, hB.2.1, hB.2.2⟩
  refine k_Vi C F hw (i := 0) (As := []) (rest := []) (c_X7_blockFitsCatcher hR eO bk bt _ BM hB1 ck ct _ cn hC (by omega)) (by omega) eO rfl (cwV _ C.2.2.2.2 gm_X7_133 rfl rfl rfl cd_X7_blockFitsCatcher ⟨by decide, by decide⟩) hl.1 rfl (Nat.le_of_ble_eq_true rfl) dX7_take_1 ⟨by decide, by decide⟩ (fun r2 g3 H locs hp hw => ?_)
  obtain ⟨hr9, hg9⟩ := hp
  rw [hg9] at hw
  subst hr9
  refine k_bne (tgt := 15) C dX7_take_4 (by decide) (fun hc4 => ?_) (fun hc4 => ?_)
  · have hfit := of_decide_eq_true hc4
    have hne : ¬ ck = 0 := by omega
    have hck9 : 1 ≤ ck ∧ ck ≤ 48 ∧ 1 ≤ ct ∧ ct ≤ 16 := by omega
    have hC5 : CtAt ca ad g ck ct (tnN (fb ck)) cn := by have h9 := hC; rw [if_neg hne] at h9; exact h9
    have hE5 : EqAt ca ad g 135 1 (ck + 11) ct rk M ld ln0 := by have h9 := hEc; rw [if_neg hne] at h9; exact h9
    have htnc := tnN_le (fb ck)
    refine lv_iload_n C.1 C.2.1 dX7_take_15 rfl (lv_at hl 1 rfl) ?_
    refine k_Si C F hw (As := [.int (xx)]) (rest := []) (c_X7_isPacket xx) (va_cwS _ C.2.2.2.2 gm_X7_104 rfl rfl rfl cd_X7_isPacket.2 ⟨by decide, by decide⟩) hl.1 rfl (Nat.le_of_ble_eq_true rfl) dX7_take_16 ⟨by decide, by decide⟩ (fun r4 g5 H locs hp hw => ?_)
    obtain ⟨hr9, hg9⟩ := hp
    rw [hg9] at hw
    subst hr9
    refine k_bne (tgt := 30) C dX7_take_19 (by decide) (fun hc19 => ?_) (fun hc19 => ?_)
    · obtain ⟨x, hx, rfl⟩ := nat_of0 (of_decide_eq_true hc19)
      refine lv_aload_n C.1 C.2.1 dX7_take_30 rfl (lv_at hl 0 rfl) ?_
      refine lv_iload_n C.1 C.2.1 dX7_take_31 rfl (lv_at hl 1 rfl) ?_
      have hF6 : FieldAt ca ad g 1 pw ex := ⟨hF.1, hF.2.1, hF.2.2⟩
      have hE7 : EqAt ca ad g 135 1 (ck + 11) ct rk M ld ln0 := ⟨hE5.1, hE5.2.1, hE5.2.2.1, hE5.2.2.2.1, hE5.2.2.2.2⟩
      have hK8 : PkAt ca ad g 6 v0 pl0 := ⟨hK.1, hK.2⟩
      have hB9 : BlkAt ca ad g bk bt (if bk = 0 then 0 else tnN (fb bk)) BM := ⟨hB.1, hB.2.1, hB.2.2⟩
      refine k_Vi C F hw (i := 0) (As := [.int (nI x)]) (rest := []) (c_X7_catchFromBlock pw ex hF6 hX hP hR eO ck ct (tnN (fb ck)) cn hC5 ⟨hck9.1, hck9.2.1⟩ ⟨hck9.2.2.1, hck9.2.2.2⟩ htnc (rk, M, ld, ln0) (EqAtS_mk hE7) ⟨hM, hln0⟩ v0 pl0 hK8 x hx bk bt _ BM hB9 hBM) (by omega) eO rfl (cwV _ C.2.2.2.2 gm_X7_137 rfl rfl rfl cd_X7_catchFromBlock ⟨by decide, by decide⟩) hl.1 rfl (Nat.le_of_ble_eq_true rfl) dX7_take_32 ⟨by decide, by decide⟩ (fun r10 g11 H locs hp hw => ?_)
      obtain ⟨hs12, hr9, hC12, hE12, hb12, ⟨v12, pl12, hK12⟩⟩ := hp
      obtain ⟨IN, hIN⟩ : ∃ z, z = inB fb BM ck ct rk M ld x ln0 pl0 := ⟨_, rfl⟩
      change r10 = learnR pw ex (ck + 11) ct (inB fb BM ck ct rk M ld x ln0 pl0) at hr9
      change CtAt ca ad g11 ck ct (tnN (fb ck)) (if learnR pw ex (ck + 11) ct (inB fb BM ck ct rk M ld x ln0 pl0) = -1 then cn else cn + 1) at hC12
      change EqAtS ca ad g11 135 1 (ck + 11) ct (learnS pw ex (ck + 11) ct (inB fb BM ck ct rk M ld x ln0 pl0)) at hE12
      change EqBy (inB fb BM ck ct rk M ld x ln0 pl0) at hb12
      rw [← hIN] at hr9 hC12 hE12 hb12
      subst hr9
      have hlb := learnS_by (ex := ex) (L := ck + 11) (T := ct) hP hb12
      have e13 : g11 (0) = .inr (7, [.ref (ad 1), .ref (ad 4), .ref (ad 6), .ref (ad 8), .ref (ad 71), .ref (ad 73), .ref (ad 134)]) := (hs12 _ (by omega)).trans eO
      have e14 : g11 (1) = .inr (3, [.ref (ad (1 + 1)), .ref (ad (1 + 2))]) := (hs12 _ (by omega)).trans hF.1
      have e15 : g11 (1 + 1) = na ca 510 (pw) := (hs12 _ (by omega)).trans hF.2.1
      have e16 : g11 (1 + 2) = na ca 256 (ex) := (hs12 _ (by omega)).trans hF.2.2
      have e17 : g11 (4) = .inr (5, [.ref (ad (4 + 1)), .int (nI len)]) := (hs12 _ (by omega)).trans hT4.1
      have e18 : g11 (4 + 1) = na ca 800 (h) := (hs12 _ (by omega)).trans hT4.2
      have e19 : g11 (8) = .inr (2, [.ref (ad 1), .ref (ad (8 + 1)), .ref (ad (8 + 61)), .ref (ad (8 + 62)), .int (nI Lw), .int (nI Tw), .int (nI (sw.1))]) := (hs12 _ (by omega)).trans hEw.1
      have e20 : g11 (8 + 1) = qa ca 59 (fun i => if i < 59 then some (ad (8 + 2 + i)) else none) := (hs12 _ (by omega)).trans hEw.2.1
      have e21 : g11 (8 + 61) = za ca 59 (sw.2.2.1) := (hs12 _ (by omega)).trans hEw.2.2.2.1
      have e22 : g11 (8 + 62) = na ca 75 (sw.2.2.2) := (hs12 _ (by omega)).trans hEw.2.2.2.2
      have e23 : g11 (71) = .inr (6, [.ref (ad 8), .ref (ad 6), .ref (ad 72)]) := (hs12 _ (by omega)).trans eT
      have e24 : g11 (72) = ia ca 49 (fd) := (hs12 _ (by omega)).trans eD
      have e25 : g11 (73) = .inr (0, [.ref (ad 74), .int (nI bk), .int (nI bt), .int (nI (if bk = 0 then 0 else tnN (fb bk)))]) := (hs12 _ (by omega)).trans hB.1
      have e26 : g11 (74) = qa ca 59 (fun i => if i < 59 then some (ad (75 + i)) else none) := (hs12 _ (by omega)).trans hB.2.1
      have hr27 : ∀ p9, p9 < 59 → g11 (8 + 2 + p9) = na ca 75 (sw.2.1 p9) := fun p9 hp9 => (hs12 _ (by omega)).trans (hEw.2.2.1 p9 hp9)
      have hr28 : ∀ p9, p9 < 59 → g11 (75 + p9) = na ca 16 (BM p9) := fun p9 hp9 => (hs12 _ (by omega)).trans (hB.2.2 p9 hp9)
      have hs29 : ∀ z, (197 < z) → g11 z = g z := fun z hz => hs12 z (by omega)
      refine lv_istore_n (lv' := [(2, .int (learnR pw ex (ck + 11) ct IN)), (0, .ref (ad 0)), (1, .int (nI x))]) C.1 C.2.1 dX7_take_35 rfl hl (by decide) rfl (fun ls hl => ?_)
      refine lv_iload_n C.1 C.2.1 dX7_take_36 rfl (lv_at hl 0 rfl) ?_
      refine lv_iconst (v := -1) C.1 C.2.1 dX7_take_37 (by decide) ?_
      refine lv_icmp_ne (tgt := 49) C.1 C.2.1 dX7_take_38 (by decide) (fun hc38 => ?_) (fun hc38 => ?_)
      · refine lv_iload_n C.1 C.2.1 dX7_take_49 rfl (lv_at hl 0 rfl) ?_
        refine k_icn C 1 dX7_take_50 (by decide) ?_
        refine lv_icmp_ne (tgt := 58) C.1 C.2.1 dX7_take_51 (by decide) (fun hc51 => ?_) (fun hc51 => ?_)
        · refine k_icn C 0 dX7_take_58 (by decide) ?_
          have e30 : CtAt ca ad g11 ck ct (tnN (fb ck)) (cn + 1) := by have h9 := hC12; rw [if_neg hc38] at h9; exact h9
          have hE31 : EqAt ca ad g11 135 1 (ck + 11) ct ((learnS pw ex (ck + 11) ct IN).1) ((learnS pw ex (ck + 11) ct IN).2.1) ((learnS pw ex (ck + 11) ct IN).2.2.1) ((learnS pw ex (ck + 11) ct IN).2.2.2) := ⟨hE12.1, hE12.2.1, hE12.2.2.1, hE12.2.2.2.1, hE12.2.2.2.2⟩
          have hC32 : CtAt ca ad g11 ck ct (if ck = 0 then 0 else tnN (fb ck)) (cn + 1) := by rw [if_neg hne]; exact e30
          have hE33 : EqAt ca ad g11 135 1 (if ck = 0 then 0 else ck + 11) ct ((learnS pw ex (ck + 11) ct IN).1) ((learnS pw ex (ck + 11) ct IN).2.1) ((learnS pw ex (ck + 11) ct IN).2.2.1) ((learnS pw ex (ck + 11) ct IN).2.2.2) := by rw [if_neg hne]; exact hE31
          have hF35 : FieldAt ca ad g11 1 pw ex := ⟨e14, e15, e16⟩
          have hK36 : PkAt ca ad g11 6 v12 pl12 := ⟨hK12.1, hK12.2⟩
          have hE37 : EqAt ca ad g11 8 1 Lw Tw sw.1 sw.2.1 sw.2.2.1 sw.2.2.2 := ⟨e19, e20, hr27, e21, e22⟩
          have hI34 : DInv ca ad g11 pw ex fb len h bk bt BM ck ct (cn + 1) (learnS pw ex (ck + 11) ct IN).1 (learnS pw ex (ck + 11) ct IN).2.1 (learnS pw ex (ck + 11) ct IN).2.2.1 := ⟨e13, hF35, ⟨e17, e18⟩, ⟨_, _, hK36⟩, ⟨_, _, _, hE37, hBw⟩, e23, ⟨_, e24, hfd⟩, ⟨e25, e26, hr28⟩, hC32, ⟨_, hlb.2, hE33⟩, ⟨hlen, hh⟩, ⟨hbk, hBM⟩, ⟨hck, hlb.1⟩⟩
          exact hret H locs ls _ false _ _ dX7_take_59 hw (by rfl) (⟨hs29, hfit, x, rfl, hx, ln0, pl0, hln0, by rw [← hIN]; exact hc38, by rw [← hIN, show decide (learnR pw ex (ck + 11) ct IN = 1) = false from decide_eq_false hc51], by rw [← hIN]; exact hI34⟩)
        · refine k_icn C 1 dX7_take_54 (by decide) ?_
          refine lv_goto (tgt := 59) C.1 C.2.1 dX7_take_55 (by decide) ?_
          have e38 : CtAt ca ad g11 ck ct (tnN (fb ck)) (cn + 1) := by have h9 := hC12; rw [if_neg hc38] at h9; exact h9
          have hE39 : EqAt ca ad g11 135 1 (ck + 11) ct ((learnS pw ex (ck + 11) ct IN).1) ((learnS pw ex (ck + 11) ct IN).2.1) ((learnS pw ex (ck + 11) ct IN).2.2.1) ((learnS pw ex (ck + 11) ct IN).2.2.2) := ⟨hE12.1, hE12.2.1, hE12.2.2.1, hE12.2.2.2.1, hE12.2.2.2.2⟩
          have hC40 : CtAt ca ad g11 ck ct (if ck = 0 then 0 else tnN (fb ck)) (cn + 1) := by rw [if_neg hne]; exact e38
          have hE41 : EqAt ca ad g11 135 1 (if ck = 0 then 0 else ck + 11) ct ((learnS pw ex (ck + 11) ct IN).1) ((learnS pw ex (ck + 11) ct IN).2.1) ((learnS pw ex (ck + 11) ct IN).2.2.1) ((learnS pw ex (ck + 11) ct IN).2.2.2) := by rw [if_neg hne]; exact hE39
          have hF43 : FieldAt ca ad g11 1 pw ex := ⟨e14, e15, e16⟩
          have hK44 : PkAt ca ad g11 6 v12 pl12 := ⟨hK12.1, hK12.2⟩
          have hE45 : EqAt ca ad g11 8 1 Lw Tw sw.1 sw.2.1 sw.2.2.1 sw.2.2.2 := ⟨e19, e20, hr27, e21, e22⟩
          have hI42 : DInv ca ad g11 pw ex fb len h bk bt BM ck ct (cn + 1) (learnS pw ex (ck + 11) ct IN).1 (learnS pw ex (ck + 11) ct IN).2.1 (learnS pw ex (ck + 11) ct IN).2.2.1 := ⟨e13, hF43, ⟨e17, e18⟩, ⟨_, _, hK44⟩, ⟨_, _, _, hE45, hBw⟩, e23, ⟨_, e24, hfd⟩, ⟨e25, e26, hr28⟩, hC40, ⟨_, hlb.2, hE41⟩, ⟨hlen, hh⟩, ⟨hbk, hBM⟩, ⟨hck, hlb.1⟩⟩
          exact hret H locs ls _ true _ _ dX7_take_59 hw (by rfl) (⟨hs29, hfit, x, rfl, hx, ln0, pl0, hln0, by rw [← hIN]; exact hc38, by rw [← hIN, show decide (learnR pw ex (ck + 11) ct IN = 1) = true from decide_eq_true hc51], by rw [← hIN]; exact hI42⟩)
      · have hm1 := learn_m1 hc38
        have e46 : CtAt ca ad g11 ck ct (tnN (fb ck)) cn := by have h9 := hC12; rw [if_pos hc38] at h9; exact h9
        have hE47 : EqAt ca ad g11 135 1 (ck + 11) ct ((learnS pw ex (ck + 11) ct IN).1) ((learnS pw ex (ck + 11) ct IN).2.1) ((learnS pw ex (ck + 11) ct IN).2.2.1) ((learnS pw ex (ck + 11) ct IN).2.2.2) := ⟨hE12.1, hE12.2.1, hE12.2.2.1, hE12.2.2.2.1, hE12.2.2.2.2⟩
        have hE48 : EqAt ca ad g11 135 1 (ck + 11) ct rk M ld (learnS pw ex (ck + 11) ct IN).2.2.2 := by have h9 := hE47; rw [hm1.1, hm1.2.1, hm1.2.2, hIN] at h9; rw [hIN]; exact h9
        have hE49 : EqAt ca ad g11 135 1 (ck + 11) ct rk M ld ((learnS pw ex (ck + 11) ct IN).2.2.2) := ⟨hE48.1, hE48.2.1, hE48.2.2.1, hE48.2.2.2.1, hE48.2.2.2.2⟩
        have hC50 : CtAt ca ad g11 ck ct (if ck = 0 then 0 else tnN (fb ck)) cn := by rw [if_neg hne]; exact e46
        have hE51 : EqAt ca ad g11 135 1 (if ck = 0 then 0 else ck + 11) ct rk M ld ((learnS pw ex (ck + 11) ct IN).2.2.2) := by rw [if_neg hne]; exact hE49
        have hF53 : FieldAt ca ad g11 1 pw ex := ⟨e14, e15, e16⟩
        have hK54 : PkAt ca ad g11 6 v12 pl12 := ⟨hK12.1, hK12.2⟩
        have hE55 : EqAt ca ad g11 8 1 Lw Tw sw.1 sw.2.1 sw.2.2.1 sw.2.2.2 := ⟨e19, e20, hr27, e21, e22⟩
        have hI52 : DInv ca ad g11 pw ex fb len h bk bt BM ck ct cn rk M ld := ⟨e13, hF53, ⟨e17, e18⟩, ⟨_, _, hK54⟩, ⟨_, _, _, hE55, hBw⟩, e23, ⟨_, e24, hfd⟩, ⟨e25, e26, hr28⟩, hC50, ⟨_, hlb.2, hE51⟩, ⟨hlen, hh⟩, ⟨hbk, hBM⟩, ⟨hck, hM⟩⟩
        exact hthr H locs ls _ _ _ xU 66 68 tw_U hw hl.1 dX7_take_41 dX7_take_44 dX7_take_45 dX7_take_48 (by decide) (Nat.le_of_ble_eq_true rfl) (by decide) (by decide) (⟨Or.inr (Or.inr ⟨rfl, hfit, x, rfl, hx, ln0, pl0, hln0, by rw [← hIN]; exact hc38⟩), hs29, hI52⟩)
    · have hE56 : EqAt ca ad g 135 1 (ck + 11) ct rk M ld ln0 := ⟨hE5.1, hE5.2.1, hE5.2.2.1, hE5.2.2.2.1, hE5.2.2.2.2⟩
      have hC57 : CtAt ca ad g ck ct (if ck = 0 then 0 else tnN (fb ck)) cn := by rw [if_neg hne]; exact hC5
      have hE58 : EqAt ca ad g 135 1 (if ck = 0 then 0 else ck + 11) ct rk M ld ln0 := by rw [if_neg hne]; exact hE56
      have hF60 : FieldAt ca ad g 1 pw ex := ⟨hF.1, hF.2.1, hF.2.2⟩
      have hK61 : PkAt ca ad g 6 v0 pl0 := ⟨hK.1, hK.2⟩
      have hE62 : EqAt ca ad g 8 1 Lw Tw sw.1 sw.2.1 sw.2.2.1 sw.2.2.2 := ⟨hEw.1, hEw.2.1, hEw.2.2.1, hEw.2.2.2.1, hEw.2.2.2.2⟩
      have hI59 : DInv ca ad g pw ex fb len h bk bt BM ck ct cn rk M ld := ⟨eO, hF60, ⟨hT4.1, hT4.2⟩, ⟨_, _, hK61⟩, ⟨_, _, _, hE62, hBw⟩, eT, ⟨_, eD, hfd⟩, ⟨hB.1, hB.2.1, hB.2.2⟩, hC57, ⟨_, hln0, hE58⟩, ⟨hlen, hh⟩, ⟨hbk, hBM⟩, ⟨hck, hM⟩⟩
      exact hthr H locs ls _ _ _ xO 110 112 tw_O hw hl.1 dX7_take_22 dX7_take_25 dX7_take_26 dX7_take_29 (by decide) (Nat.le_of_ble_eq_true rfl) (by decide) (by decide) (⟨Or.inr (Or.inl ⟨rfl, hfit, of_decide_eq_false hc19⟩), (fun z _ => rfl), hI59⟩)
  · have hF64 : FieldAt ca ad g 1 pw ex := ⟨hF.1, hF.2.1, hF.2.2⟩
    have hK65 : PkAt ca ad g 6 v0 pl0 := ⟨hK.1, hK.2⟩
    have hE66 : EqAt ca ad g 8 1 Lw Tw sw.1 sw.2.1 sw.2.2.1 sw.2.2.2 := ⟨hEw.1, hEw.2.1, hEw.2.2.1, hEw.2.2.2.1, hEw.2.2.2.2⟩
    have hE67 : EqAt ca ad g 135 1 (if ck = 0 then 0 else ck + 11) ct rk M ld ln0 := ⟨hEc.1, hEc.2.1, hEc.2.2.1, hEc.2.2.2.1, hEc.2.2.2.2⟩
    have hI63 : DInv ca ad g pw ex fb len h bk bt BM ck ct cn rk M ld := ⟨eO, hF64, ⟨hT4.1, hT4.2⟩, ⟨_, _, hK65⟩, ⟨_, _, _, hE66, hBw⟩, eT, ⟨_, eD, hfd⟩, ⟨hB.1, hB.2.1, hB.2.2⟩, hC, ⟨_, hln0, hE67⟩, ⟨hlen, hh⟩, ⟨hbk, hBM⟩, ⟨hck, hM⟩⟩
    exact hthr H locs ls _ _ _ xI 101 103 tw_I hw hl.1 dX7_take_7 dX7_take_10 dX7_take_11 dX7_take_14 (by decide) (Nat.le_of_ble_eq_true rfl) (by decide) (by decide) (⟨Or.inl ⟨rfl, of_decide_eq_false hc4⟩, (fun z _ => rfl), hI63⟩)

abbrev rm_X7_give : Room := { frames := 6, cells := 1, slots := 6, locals := 125 }

set_option maxHeartbeats 800000 in
set_option maxRecDepth 100000 in
/-- FountainDesk.give -/
theorem c_X7_give {l : Launch} {D : va_G} {ca : Nat → ClassId} {tB tS R : Nat} {ad : Nat → Nat} {g : Nat → va_E} {sz : Nat} (hlt : l.stackTraces = false) (pw ex : Nat → Nat) (hX : ExOk ex) (hP : PwOk pw) (hR : 197 < R) (fb : Nat → Nat → Bool) (hfb : ∀ k t s pl, 1 ≤ k → k ≤ 48 → EqBy s → t < 1000 → fillB pw ex k t s pl = fb k t) (len : Nat) (h : Nat → Nat) (bk bt : Nat) (BM : Nat → Nat → Nat) (ck ct cn rk : Nat) (M : Nat → Nat → Nat) (ld : Nat → Bool) (hI : DInv ca ad g pw ex fb len h bk bt BM ck ct cn rk M ld) (xx : Int32) : XMI l yX7_give cX7_give 3 .boolean rm_X7_give D ca tB tS R ad g sz [.ref (ad 0), .int (xx)] (fun r g1 => (∀ z, 197 < z → g1 z = g z) ∧ ck ≠ 0 ∧ len = ct ∧ ∃ x : Nat, xx = nI x ∧ x < 65536 ∧ ∃ ln1 pl1, By ln1 ∧ learnR pw ex (ck + 11) ct (inT fb h ck ct rk M ld x ln1 pl1) ≠ -1 ∧ r = bI (decide (learnR pw ex (ck + 11) ct (inT fb h ck ct rk M ld x ln1 pl1) = 1)) ∧ DInv ca ad g1 pw ex fb 0 h bk bt BM ck ct (cn + 1) (learnS pw ex (ck + 11) ct (inT fb h ck ct rk M ld x ln1 pl1)).1 (learnS pw ex (ck + 11) ct (inT fb h ck ct rk M ld x ln1 pl1)).2.1 (learnS pw ex (ck + 11) ct (inT fb h ck ct rk M ld x ln1 pl1)).2.2.1) (fun E g1 => (E = xI ∧ ck = 0 ∨ E = xO ∧ ck ≠ 0 ∧ ¬ (0 ≤ xx ∧ xx < 65536) ∨ E = xA ∧ ck ≠ 0 ∧ (0 ≤ xx ∧ xx < 65536) ∧ len ≠ ct ∨ E = xU ∧ ck ≠ 0 ∧ len = ct ∧ ∃ x : Nat, xx = nI x ∧ x < 65536 ∧ ∃ ln1 pl1, By ln1 ∧ learnR pw ex (ck + 11) ct (inT fb h ck ct rk M ld x ln1 pl1) = -1) ∧ (∀ z, 197 < z → g1 z = g z) ∧ DInv ca ad g1 pw ex fb len h bk bt BM ck ct cn rk M ld) := by
  refine x_startZ hlt (by decide) (Nat.le_of_ble_eq_true rfl) (fun p e s m args below meth c ls Q hsz C hl F hw hret hthr => ?_)
  have hl : lv_has ls 3 [(0, .ref (ad 0)), (1, .int (xx))] := hl
  generalize s.heap = H at hw ⊢
  generalize ([] : List Loc) = locs at hw ⊢
  obtain ⟨eO, hF, hT4, ⟨v0, pl0, hK⟩, ⟨Lw, Tw, sw, hEw, hBw⟩, eT, ⟨fd, eD, hfd⟩, hB, hC, ⟨ln0, hln0, hEc⟩, ⟨hlen, hh⟩, ⟨hbk, hBM⟩, ⟨hck, hM⟩⟩ := hI
  refine lv_aload_n C.1 C.2.1 dX7_give_0 rfl (lv_at hl 0 rfl) ?_
  refine k_get C F hw (0) (by omega) eO rfl in_X7 6 (by decide) fl_X7_58 rfl dX7_give_1 ?_
  refine k_getN C F hw (134) (by omega) hC rfl in_X1 1 (by decide) fl_X7_147 rfl dX7_give_4 ?_
  refine k_zne (tgt := 18) C dX7_give_7 (by decide) (by omega) (fun hc7 => ?_) (fun hc7 => ?_)
  · have hck9 : 1 ≤ ck ∧ ck ≤ 48 ∧ 1 ≤ ct ∧ ct ≤ 16 := by omega
    have hC5 : CtAt ca ad g ck ct (tnN (fb ck)) cn := by have h9 := hC; rw [if_neg hc7] at h9; exact h9
    have hE5 : EqAt ca ad g 135 1 (ck + 11) ct rk M ld ln0 := by have h9 := hEc; rw [if_neg hc7] at h9; exact h9
    have htnc := tnN_le (fb ck)
    refine lv_iload_n C.1 C.2.1 dX7_give_18 rfl (lv_at hl 1 rfl) ?_
    refine k_Si C F hw (As := [.int (xx)]) (rest := []) (c_X7_isPacket xx) (va_cwS _ C.2.2.2.2 gm_X7_104 rfl rfl rfl cd_X7_isPacket.2 ⟨by decide, by decide⟩) hl.1 rfl (Nat.le_of_ble_eq_true rfl) dX7_give_19 ⟨by decide, by decide⟩ (fun r1 g2 H locs hp hw => ?_)
    obtain ⟨hr9, hg9⟩ := hp
    rw [hg9] at hw
    subst hr9
    refine k_bne (tgt := 33) C dX7_give_22 (by decide) (fun hc22 => ?_) (fun hc22 => ?_)
    · refine lv_aload_n C.1 C.2.1 dX7_give_33 rfl (lv_at hl 0 rfl) ?_
      refine k_get C F hw (0) (by omega) eO rfl in_X7 1 (by decide) fl_X7_19 rfl dX7_give_34 ?_
      refine k_getN C F hw (4) (by omega) hT4.1 rfl in_X5 1 (by decide) fl_X7_73 rfl dX7_give_37 ?_
      refine lv_aload_n C.1 C.2.1 dX7_give_40 rfl (lv_at hl 0 rfl) ?_
      refine k_get C F hw (0) (by omega) eO rfl in_X7 6 (by decide) fl_X7_58 rfl dX7_give_41 ?_
      refine k_getN C F hw (134) (by omega) hC5 rfl in_X1 2 (by decide) fl_X7_148 rfl dX7_give_44 ?_
      refine k_ieq (tgt := 58) C dX7_give_47 (by decide) (by omega) (by omega) (fun hc47 => ?_) (fun hc47 => ?_)
      · obtain ⟨x, hx, rfl⟩ := nat_of0 (of_decide_eq_true hc22)
        refine lv_aload_n C.1 C.2.1 dX7_give_58 rfl (lv_at hl 0 rfl) ?_
        refine lv_iload_n C.1 C.2.1 dX7_give_59 rfl (lv_at hl 1 rfl) ?_
        have hF3 : FieldAt ca ad g 1 pw ex := ⟨hF.1, hF.2.1, hF.2.2⟩
        have hE4 : EqAt ca ad g 135 1 (ck + 11) ct rk M ld ln0 := ⟨hE5.1, hE5.2.1, hE5.2.2.1, hE5.2.2.2.1, hE5.2.2.2.2⟩
        have hK5 : PkAt ca ad g 6 v0 pl0 := ⟨hK.1, hK.2⟩
        have hT6 : TpAt ca ad g len h := ⟨hT4.1, hT4.2⟩
        refine k_Vi C F hw (i := 0) (As := [.int (nI x)]) (rest := []) (c_X7_catchFromTape pw ex hF3 hX hP hR eO ck ct (tnN (fb ck)) cn hC5 ⟨hck9.1, hck9.2.1⟩ ⟨hck9.2.2.1, hck9.2.2.2⟩ htnc (rk, M, ld, ln0) (EqAtS_mk hE4) ⟨hM, hln0⟩ v0 pl0 hK5 x hx len h hT6 hh) (by omega) eO rfl (cwV _ C.2.2.2.2 gm_X7_149 rfl rfl rfl cd_X7_catchFromTape ⟨by decide, by decide⟩) hl.1 rfl (Nat.le_of_ble_eq_true rfl) dX7_give_60 ⟨by decide, by decide⟩ (fun r7 g8 H locs hp hw => ?_)
        obtain ⟨hs9, hr9, hC9, hE9, hb9, ⟨v9, pl9, hK9⟩⟩ := hp
        obtain ⟨IN, hIN⟩ : ∃ z, z = inT fb h ck ct rk M ld x ln0 pl0 := ⟨_, rfl⟩
        change r7 = learnR pw ex (ck + 11) ct (inT fb h ck ct rk M ld x ln0 pl0) at hr9
        change CtAt ca ad g8 ck ct (tnN (fb ck)) (if learnR pw ex (ck + 11) ct (inT fb h ck ct rk M ld x ln0 pl0) = -1 then cn else cn + 1) at hC9
        change EqAtS ca ad g8 135 1 (ck + 11) ct (learnS pw ex (ck + 11) ct (inT fb h ck ct rk M ld x ln0 pl0)) at hE9
        change EqBy (inT fb h ck ct rk M ld x ln0 pl0) at hb9
        rw [← hIN] at hr9 hC9 hE9 hb9
        subst hr9
        have hlb := learnS_by (ex := ex) (L := ck + 11) (T := ct) hP hb9
        have e10 : g8 (0) = .inr (7, [.ref (ad 1), .ref (ad 4), .ref (ad 6), .ref (ad 8), .ref (ad 71), .ref (ad 73), .ref (ad 134)]) := (hs9 _ (by omega)).trans eO
        have e11 : g8 (1) = .inr (3, [.ref (ad (1 + 1)), .ref (ad (1 + 2))]) := (hs9 _ (by omega)).trans hF.1
        have e12 : g8 (1 + 1) = na ca 510 (pw) := (hs9 _ (by omega)).trans hF.2.1
        have e13 : g8 (1 + 2) = na ca 256 (ex) := (hs9 _ (by omega)).trans hF.2.2
        have e14 : g8 (4) = .inr (5, [.ref (ad (4 + 1)), .int (nI len)]) := (hs9 _ (by omega)).trans hT4.1
        have e15 : g8 (4 + 1) = na ca 800 (h) := (hs9 _ (by omega)).trans hT4.2
        have e16 : g8 (8) = .inr (2, [.ref (ad 1), .ref (ad (8 + 1)), .ref (ad (8 + 61)), .ref (ad (8 + 62)), .int (nI Lw), .int (nI Tw), .int (nI (sw.1))]) := (hs9 _ (by omega)).trans hEw.1
        have e17 : g8 (8 + 1) = qa ca 59 (fun i => if i < 59 then some (ad (8 + 2 + i)) else none) := (hs9 _ (by omega)).trans hEw.2.1
        have e18 : g8 (8 + 61) = za ca 59 (sw.2.2.1) := (hs9 _ (by omega)).trans hEw.2.2.2.1
        have e19 : g8 (8 + 62) = na ca 75 (sw.2.2.2) := (hs9 _ (by omega)).trans hEw.2.2.2.2
        have e20 : g8 (71) = .inr (6, [.ref (ad 8), .ref (ad 6), .ref (ad 72)]) := (hs9 _ (by omega)).trans eT
        have e21 : g8 (72) = ia ca 49 (fd) := (hs9 _ (by omega)).trans eD
        have e22 : g8 (73) = .inr (0, [.ref (ad 74), .int (nI bk), .int (nI bt), .int (nI (if bk = 0 then 0 else tnN (fb bk)))]) := (hs9 _ (by omega)).trans hB.1
        have e23 : g8 (74) = qa ca 59 (fun i => if i < 59 then some (ad (75 + i)) else none) := (hs9 _ (by omega)).trans hB.2.1
        have hr24 : ∀ p9, p9 < 59 → g8 (8 + 2 + p9) = na ca 75 (sw.2.1 p9) := fun p9 hp9 => (hs9 _ (by omega)).trans (hEw.2.2.1 p9 hp9)
        have hr25 : ∀ p9, p9 < 59 → g8 (75 + p9) = na ca 16 (BM p9) := fun p9 hp9 => (hs9 _ (by omega)).trans (hB.2.2 p9 hp9)
        have hs26 : ∀ z, (197 < z) → g8 z = g z := fun z hz => hs9 z (by omega)
        refine lv_istore_n (lv' := [(2, .int (learnR pw ex (ck + 11) ct IN)), (0, .ref (ad 0)), (1, .int (nI x))]) C.1 C.2.1 dX7_give_63 rfl hl (by decide) rfl (fun ls hl => ?_)
        refine lv_iload_n C.1 C.2.1 dX7_give_64 rfl (lv_at hl 0 rfl) ?_
        refine lv_iconst (v := -1) C.1 C.2.1 dX7_give_65 (by decide) ?_
        refine lv_icmp_ne (tgt := 77) C.1 C.2.1 dX7_give_66 (by decide) (fun hc66 => ?_) (fun hc66 => ?_)
        · refine lv_aload_n C.1 C.2.1 dX7_give_77 rfl (lv_at hl 1 rfl) ?_
          refine k_get C F hw (0) (by omega) e10 rfl in_X7 1 (by decide) fl_X7_19 rfl dX7_give_78 ?_
          refine k_icn C 0 dX7_give_81 (by decide) ?_
          refine k_putN C F hw (4) (by omega) e14 rfl in_X5 tyX5_ok nmX5 1 (by decide) fl_X7_73 rfl (v := .int (nI 0)) rfl rfl (Nat.le_of_ble_eq_true rfl) dX7_give_82 (fun H locs hw => ?_)
          have hw : Wd D (AA R ad sz) s R ad (va_up g8 (4) (.inr (5, [.ref (ad (4 + 1)), .int (nI 0)]))) H locs := hw
          obtain ⟨g27, hg27⟩ : ∃ z, z = va_up g8 (4) (.inr (5, [.ref (ad (4 + 1)), .int (nI 0)])) := ⟨_, rfl⟩
          rw [← hg27] at hw
          have hk28 : ∀ z, z ≠ 4 → g27 z = g8 z := fun z hz => by rw [hg27]; exact va_up_ne _ _ hz
          have e29 : g27 (4) = .inr (5, [.ref (ad (4 + 1)), .int (nI 0)]) := by rw [hg27]; exact va_up_self _ _ _
          have e30 : g27 (0) = .inr (7, [.ref (ad 1), .ref (ad 4), .ref (ad 6), .ref (ad 8), .ref (ad 71), .ref (ad 73), .ref (ad 134)]) := (hk28 _ (by omega)).trans e10
          have e31 : g27 (1) = .inr (3, [.ref (ad (1 + 1)), .ref (ad (1 + 2))]) := (hk28 _ (by omega)).trans e11
          have e32 : g27 (1 + 1) = na ca 510 (pw) := (hk28 _ (by omega)).trans e12
          have e33 : g27 (1 + 2) = na ca 256 (ex) := (hk28 _ (by omega)).trans e13
          have e34 : g27 (4 + 1) = na ca 800 (h) := (hk28 _ (by omega)).trans e15
          have e35 : g27 (8) = .inr (2, [.ref (ad 1), .ref (ad (8 + 1)), .ref (ad (8 + 61)), .ref (ad (8 + 62)), .int (nI Lw), .int (nI Tw), .int (nI (sw.1))]) := (hk28 _ (by omega)).trans e16
          have e36 : g27 (8 + 1) = qa ca 59 (fun i => if i < 59 then some (ad (8 + 2 + i)) else none) := (hk28 _ (by omega)).trans e17
          have e37 : g27 (8 + 61) = za ca 59 (sw.2.2.1) := (hk28 _ (by omega)).trans e18
          have e38 : g27 (8 + 62) = na ca 75 (sw.2.2.2) := (hk28 _ (by omega)).trans e19
          have e39 : g27 (71) = .inr (6, [.ref (ad 8), .ref (ad 6), .ref (ad 72)]) := (hk28 _ (by omega)).trans e20
          have e40 : g27 (72) = ia ca 49 (fd) := (hk28 _ (by omega)).trans e21
          have e41 : g27 (73) = .inr (0, [.ref (ad 74), .int (nI bk), .int (nI bt), .int (nI (if bk = 0 then 0 else tnN (fb bk)))]) := (hk28 _ (by omega)).trans e22
          have e42 : g27 (74) = qa ca 59 (fun i => if i < 59 then some (ad (75 + i)) else none) := (hk28 _ (by omega)).trans e23
          have e43 : g27 (134) = .inr (1, [.ref (ad 135), .int (nI ck), .int (nI ct), .int (nI (tnN (fb ck))), .int (nI (if learnR pw ex (ck + 11) ct IN = -1 then cn else cn + 1))]) := (hk28 _ (by omega)).trans hC9
          have e44 : g27 (135) = .inr (2, [.ref (ad 1), .ref (ad (135 + 1)), .ref (ad (135 + 61)), .ref (ad (135 + 62)), .int (nI (ck + 11)), .int (nI ct), .int (nI ((learnS pw ex (ck + 11) ct IN).1))]) := (hk28 _ (by omega)).trans hE9.1
          have e45 : g27 (135 + 1) = qa ca 59 (fun i => if i < 59 then some (ad (135 + 2 + i)) else none) := (hk28 _ (by omega)).trans hE9.2.1
          have e46 : g27 (135 + 61) = za ca 59 ((learnS pw ex (ck + 11) ct IN).2.2.1) := (hk28 _ (by omega)).trans hE9.2.2.2.1
          have e47 : g27 (135 + 62) = na ca 75 ((learnS pw ex (ck + 11) ct IN).2.2.2) := (hk28 _ (by omega)).trans hE9.2.2.2.2
          have e48 : g27 (6) = .inr (4, [.ref (ad (6 + 1)), .int (nI v9)]) := (hk28 _ (by omega)).trans hK9.1
          have e49 : g27 (6 + 1) = na ca 59 (pl9) := (hk28 _ (by omega)).trans hK9.2
          have hr50 : ∀ p9, p9 < 59 → g27 (8 + 2 + p9) = na ca 75 (sw.2.1 p9) := fun p9 hp9 => (hk28 _ (by omega)).trans (hr24 p9 hp9)
          have hr51 : ∀ p9, p9 < 59 → g27 (75 + p9) = na ca 16 (BM p9) := fun p9 hp9 => (hk28 _ (by omega)).trans (hr25 p9 hp9)
          have hr52 : ∀ p9, p9 < 59 → g27 (135 + 2 + p9) = na ca 75 (((learnS pw ex (ck + 11) ct IN).2.1) p9) := fun p9 hp9 => (hk28 _ (by omega)).trans (hE9.2.2.1 p9 hp9)
          have hs53 : ∀ z, (197 < z) → g27 z = g z := fun z hz => (hk28 z (by omega)).trans (hs26 z hz)
          refine lv_iload_n C.1 C.2.1 dX7_give_85 rfl (lv_at hl 0 rfl) ?_
          refine k_icn C 1 dX7_give_86 (by decide) ?_
          refine lv_icmp_ne (tgt := 94) C.1 C.2.1 dX7_give_87 (by decide) (fun hc87 => ?_) (fun hc87 => ?_)
          · refine k_icn C 0 dX7_give_94 (by decide) ?_
            have e54 : CtAt ca ad g27 ck ct (tnN (fb ck)) (cn + 1) := by have h9 := e43; rw [if_neg hc66] at h9; exact h9
            have hE55 : EqAt ca ad g27 135 1 (ck + 11) ct ((learnS pw ex (ck + 11) ct IN).1) ((learnS pw ex (ck + 11) ct IN).2.1) ((learnS pw ex (ck + 11) ct IN).2.2.1) ((learnS pw ex (ck + 11) ct IN).2.2.2) := ⟨e44, e45, hr52, e46, e47⟩
            have hC56 : CtAt ca ad g27 ck ct (if ck = 0 then 0 else tnN (fb ck)) (cn + 1) := by rw [if_neg hc7]; exact e54
            have hE57 : EqAt ca ad g27 135 1 (if ck = 0 then 0 else ck + 11) ct ((learnS pw ex (ck + 11) ct IN).1) ((learnS pw ex (ck + 11) ct IN).2.1) ((learnS pw ex (ck + 11) ct IN).2.2.1) ((learnS pw ex (ck + 11) ct IN).2.2.2) := by rw [if_neg hc7]; exact hE55
            have hF59 : FieldAt ca ad g27 1 pw ex := ⟨e31, e32, e33⟩
            have hK60 : PkAt ca ad g27 6 v9 pl9 := ⟨e48, e49⟩
            have hE61 : EqAt ca ad g27 8 1 Lw Tw sw.1 sw.2.1 sw.2.2.1 sw.2.2.2 := ⟨e35, e36, hr50, e37, e38⟩
            have hI58 : DInv ca ad g27 pw ex fb 0 h bk bt BM ck ct (cn + 1) (learnS pw ex (ck + 11) ct IN).1 (learnS pw ex (ck + 11) ct IN).2.1 (learnS pw ex (ck + 11) ct IN).2.2.1 := ⟨e30, hF59, ⟨e29, e34⟩, ⟨_, _, hK60⟩, ⟨_, _, _, hE61, hBw⟩, e39, ⟨_, e40, hfd⟩, ⟨e41, e42, hr51⟩, hC56, ⟨_, hlb.2, hE57⟩, ⟨by omega, hh⟩, ⟨hbk, hBM⟩, ⟨hck, hlb.1⟩⟩
            exact hret H locs ls _ false _ _ dX7_give_95 hw (by rfl) (⟨hs53, hc7, hc47, x, rfl, hx, ln0, pl0, hln0, by rw [← hIN]; exact hc66, by rw [← hIN, show decide (learnR pw ex (ck + 11) ct IN = 1) = false from decide_eq_false hc87], by rw [← hIN]; exact hI58⟩)
          · refine k_icn C 1 dX7_give_90 (by decide) ?_
            refine lv_goto (tgt := 95) C.1 C.2.1 dX7_give_91 (by decide) ?_
            have e62 : CtAt ca ad g27 ck ct (tnN (fb ck)) (cn + 1) := by have h9 := e43; rw [if_neg hc66] at h9; exact h9
            have hE63 : EqAt ca ad g27 135 1 (ck + 11) ct ((learnS pw ex (ck + 11) ct IN).1) ((learnS pw ex (ck + 11) ct IN).2.1) ((learnS pw ex (ck + 11) ct IN).2.2.1) ((learnS pw ex (ck + 11) ct IN).2.2.2) := ⟨e44, e45, hr52, e46, e47⟩
            have hC64 : CtAt ca ad g27 ck ct (if ck = 0 then 0 else tnN (fb ck)) (cn + 1) := by rw [if_neg hc7]; exact e62
            have hE65 : EqAt ca ad g27 135 1 (if ck = 0 then 0 else ck + 11) ct ((learnS pw ex (ck + 11) ct IN).1) ((learnS pw ex (ck + 11) ct IN).2.1) ((learnS pw ex (ck + 11) ct IN).2.2.1) ((learnS pw ex (ck + 11) ct IN).2.2.2) := by rw [if_neg hc7]; exact hE63
            have hF67 : FieldAt ca ad g27 1 pw ex := ⟨e31, e32, e33⟩
            have hK68 : PkAt ca ad g27 6 v9 pl9 := ⟨e48, e49⟩
            have hE69 : EqAt ca ad g27 8 1 Lw Tw sw.1 sw.2.1 sw.2.2.1 sw.2.2.2 := ⟨e35, e36, hr50, e37, e38⟩
            have hI66 : DInv ca ad g27 pw ex fb 0 h bk bt BM ck ct (cn + 1) (learnS pw ex (ck + 11) ct IN).1 (learnS pw ex (ck + 11) ct IN).2.1 (learnS pw ex (ck + 11) ct IN).2.2.1 := ⟨e30, hF67, ⟨e29, e34⟩, ⟨_, _, hK68⟩, ⟨_, _, _, hE69, hBw⟩, e39, ⟨_, e40, hfd⟩, ⟨e41, e42, hr51⟩, hC64, ⟨_, hlb.2, hE65⟩, ⟨by omega, hh⟩, ⟨hbk, hBM⟩, ⟨hck, hlb.1⟩⟩
            exact hret H locs ls _ true _ _ dX7_give_95 hw (by rfl) (⟨hs53, hc7, hc47, x, rfl, hx, ln0, pl0, hln0, by rw [← hIN]; exact hc66, by rw [← hIN, show decide (learnR pw ex (ck + 11) ct IN = 1) = true from decide_eq_true hc87], by rw [← hIN]; exact hI66⟩)
        · have hm1 := learn_m1 hc66
          have e70 : CtAt ca ad g8 ck ct (tnN (fb ck)) cn := by have h9 := hC9; rw [if_pos hc66] at h9; exact h9
          have hE71 : EqAt ca ad g8 135 1 (ck + 11) ct ((learnS pw ex (ck + 11) ct IN).1) ((learnS pw ex (ck + 11) ct IN).2.1) ((learnS pw ex (ck + 11) ct IN).2.2.1) ((learnS pw ex (ck + 11) ct IN).2.2.2) := ⟨hE9.1, hE9.2.1, hE9.2.2.1, hE9.2.2.2.1, hE9.2.2.2.2⟩
          have hE72 : EqAt ca ad g8 135 1 (ck + 11) ct rk M ld (learnS pw ex (ck + 11) ct IN).2.2.2 := by have h9 := hE71; rw [hm1.1, hm1.2.1, hm1.2.2, hIN] at h9; rw [hIN]; exact h9
          have hE73 : EqAt ca ad g8 135 1 (ck + 11) ct rk M ld ((learnS pw ex (ck + 11) ct IN).2.2.2) := ⟨hE72.1, hE72.2.1, hE72.2.2.1, hE72.2.2.2.1, hE72.2.2.2.2⟩
          have hC74 : CtAt ca ad g8 ck ct (if ck = 0 then 0 else tnN (fb ck)) cn := by rw [if_neg hc7]; exact e70
          have hE75 : EqAt ca ad g8 135 1 (if ck = 0 then 0 else ck + 11) ct rk M ld ((learnS pw ex (ck + 11) ct IN).2.2.2) := by rw [if_neg hc7]; exact hE73
          have hF77 : FieldAt ca ad g8 1 pw ex := ⟨e11, e12, e13⟩
          have hK78 : PkAt ca ad g8 6 v9 pl9 := ⟨hK9.1, hK9.2⟩
          have hE79 : EqAt ca ad g8 8 1 Lw Tw sw.1 sw.2.1 sw.2.2.1 sw.2.2.2 := ⟨e16, e17, hr24, e18, e19⟩
          have hI76 : DInv ca ad g8 pw ex fb len h bk bt BM ck ct cn rk M ld := ⟨e10, hF77, ⟨e14, e15⟩, ⟨_, _, hK78⟩, ⟨_, _, _, hE79, hBw⟩, e20, ⟨_, e21, hfd⟩, ⟨e22, e23, hr25⟩, hC74, ⟨_, hlb.2, hE75⟩, ⟨hlen, hh⟩, ⟨hbk, hBM⟩, ⟨hck, hM⟩⟩
          exact hthr H locs ls _ _ _ xU 66 68 tw_U hw hl.1 dX7_give_69 dX7_give_72 dX7_give_73 dX7_give_76 (by decide) (Nat.le_of_ble_eq_true rfl) (by decide) (by decide) (⟨Or.inr (Or.inr (Or.inr ⟨rfl, hc7, hc47, x, rfl, hx, ln0, pl0, hln0, by rw [← hIN]; exact hc66⟩)), hs26, hI76⟩)
      · have hE80 : EqAt ca ad g 135 1 (ck + 11) ct rk M ld ln0 := ⟨hE5.1, hE5.2.1, hE5.2.2.1, hE5.2.2.2.1, hE5.2.2.2.2⟩
        have hC81 : CtAt ca ad g ck ct (if ck = 0 then 0 else tnN (fb ck)) cn := by rw [if_neg hc7]; exact hC5
        have hE82 : EqAt ca ad g 135 1 (if ck = 0 then 0 else ck + 11) ct rk M ld ln0 := by rw [if_neg hc7]; exact hE80
        have hF84 : FieldAt ca ad g 1 pw ex := ⟨hF.1, hF.2.1, hF.2.2⟩
        have hK85 : PkAt ca ad g 6 v0 pl0 := ⟨hK.1, hK.2⟩
        have hE86 : EqAt ca ad g 8 1 Lw Tw sw.1 sw.2.1 sw.2.2.1 sw.2.2.2 := ⟨hEw.1, hEw.2.1, hEw.2.2.1, hEw.2.2.2.1, hEw.2.2.2.2⟩
        have hI83 : DInv ca ad g pw ex fb len h bk bt BM ck ct cn rk M ld := ⟨eO, hF84, ⟨hT4.1, hT4.2⟩, ⟨_, _, hK85⟩, ⟨_, _, _, hE86, hBw⟩, eT, ⟨_, eD, hfd⟩, ⟨hB.1, hB.2.1, hB.2.2⟩, hC81, ⟨_, hln0, hE82⟩, ⟨hlen, hh⟩, ⟨hbk, hBM⟩, ⟨hck, hM⟩⟩
        exact hthr H locs ls _ _ _ xA 77 79 tw_A hw hl.1 dX7_give_50 dX7_give_53 dX7_give_54 dX7_give_57 (by decide) (Nat.le_of_ble_eq_true rfl) (by decide) (by decide) (⟨Or.inr (Or.inr (Or.inl ⟨rfl, hc7, of_decide_eq_true hc22, hc47⟩)), (fun z _ => rfl), hI83⟩)
    · have hE87 : EqAt ca ad g 135 1 (ck + 11) ct rk M ld ln0 := ⟨hE5.1, hE5.2.1, hE5.2.2.1, hE5.2.2.2.1, hE5.2.2.2.2⟩
      have hC88 : CtAt ca ad g ck ct (if ck = 0 then 0 else tnN (fb ck)) cn := by rw [if_neg hc7]; exact hC5
      have hE89 : EqAt ca ad g 135 1 (if ck = 0 then 0 else ck + 11) ct rk M ld ln0 := by rw [if_neg hc7]; exact hE87
      have hF91 : FieldAt ca ad g 1 pw ex := ⟨hF.1, hF.2.1, hF.2.2⟩
      have hK92 : PkAt ca ad g 6 v0 pl0 := ⟨hK.1, hK.2⟩
      have hE93 : EqAt ca ad g 8 1 Lw Tw sw.1 sw.2.1 sw.2.2.1 sw.2.2.2 := ⟨hEw.1, hEw.2.1, hEw.2.2.1, hEw.2.2.2.1, hEw.2.2.2.2⟩
      have hI90 : DInv ca ad g pw ex fb len h bk bt BM ck ct cn rk M ld := ⟨eO, hF91, ⟨hT4.1, hT4.2⟩, ⟨_, _, hK92⟩, ⟨_, _, _, hE93, hBw⟩, eT, ⟨_, eD, hfd⟩, ⟨hB.1, hB.2.1, hB.2.2⟩, hC88, ⟨_, hln0, hE89⟩, ⟨hlen, hh⟩, ⟨hbk, hBM⟩, ⟨hck, hM⟩⟩
      exact hthr H locs ls _ _ _ xO 110 112 tw_O hw hl.1 dX7_give_25 dX7_give_28 dX7_give_29 dX7_give_32 (by decide) (Nat.le_of_ble_eq_true rfl) (by decide) (by decide) (⟨Or.inr (Or.inl ⟨rfl, hc7, of_decide_eq_false hc22⟩), (fun z _ => rfl), hI90⟩)
  · have hF95 : FieldAt ca ad g 1 pw ex := ⟨hF.1, hF.2.1, hF.2.2⟩
    have hK96 : PkAt ca ad g 6 v0 pl0 := ⟨hK.1, hK.2⟩
    have hE97 : EqAt ca ad g 8 1 Lw Tw sw.1 sw.2.1 sw.2.2.1 sw.2.2.2 := ⟨hEw.1, hEw.2.1, hEw.2.2.1, hEw.2.2.2.1, hEw.2.2.2.2⟩
    have hE98 : EqAt ca ad g 135 1 (if ck = 0 then 0 else ck + 11) ct rk M ld ln0 := ⟨hEc.1, hEc.2.1, hEc.2.2.1, hEc.2.2.2.1, hEc.2.2.2.2⟩
    have hI94 : DInv ca ad g pw ex fb len h bk bt BM ck ct cn rk M ld := ⟨eO, hF95, ⟨hT4.1, hT4.2⟩, ⟨_, _, hK96⟩, ⟨_, _, _, hE97, hBw⟩, eT, ⟨_, eD, hfd⟩, ⟨hB.1, hB.2.1, hB.2.2⟩, hC, ⟨_, hln0, hE98⟩, ⟨hlen, hh⟩, ⟨hbk, hBM⟩, ⟨hck, hM⟩⟩
    exact hthr H locs ls _ _ _ xI 101 103 tw_I hw hl.1 dX7_give_10 dX7_give_13 dX7_give_14 dX7_give_17 (by decide) (Nat.le_of_ble_eq_true rfl) (by decide) (by decide) (⟨Or.inl ⟨rfl, hc7⟩, (fun z _ => rfl), hI94⟩)

abbrev rm_X7_follows : Room := { frames := 6, cells := 1, slots := 6, locals := 125 }

set_option maxHeartbeats 800000 in
set_option maxRecDepth 100000 in
/-- FountainDesk.follows -/
theorem c_X7_follows {l : Launch} {D : va_G} {ca : Nat → ClassId} {tB tS R : Nat} {ad : Nat → Nat} {g : Nat → va_E} {sz : Nat} (hlt : l.stackTraces = false) (pw ex : Nat → Nat) (hX : ExOk ex) (hP : PwOk pw) (hR : 197 < R) (fb : Nat → Nat → Bool) (hfb : ∀ k t s pl, 1 ≤ k → k ≤ 48 → EqBy s → t < 1000 → fillB pw ex k t s pl = fb k t) (len : Nat) (h : Nat → Nat) (bk bt : Nat) (BM : Nat → Nat → Nat) (ck ct cn rk : Nat) (M : Nat → Nat → Nat) (ld : Nat → Bool) (hI : DInv ca ad g pw ex fb len h bk bt BM ck ct cn rk M ld) (xx : Int32) : XMI l yX7_follows cX7_follows 2 .boolean rm_X7_follows D ca tB tS R ad g sz [.ref (ad 0), .int (xx)] (fun r g1 => (∀ z, 197 < z → g1 z = g z) ∧ ck ≠ 0 ∧ ∃ x : Nat, xx = nI x ∧ x < 65536 ∧ ∃ ln1 pl1, By ln1 ∧ r = bI (drv pw ex ck ct x (tnN (fb ck)) (rk, M, ld, ln1) pl1) ∧ DInv ca ad g1 pw ex fb len h bk bt BM ck ct cn rk M ld) (fun E g1 => (E = xI ∧ ck = 0 ∨ E = xO ∧ ck ≠ 0 ∧ ¬ (0 ≤ xx ∧ xx < 65536)) ∧ (∀ z, 197 < z → g1 z = g z) ∧ DInv ca ad g1 pw ex fb len h bk bt BM ck ct cn rk M ld) := by
  refine x_startZ hlt (by decide) (Nat.le_of_ble_eq_true rfl) (fun p e s m args below meth c ls Q hsz C hl F hw hret hthr => ?_)
  have hl : lv_has ls 2 [(0, .ref (ad 0)), (1, .int (xx))] := hl
  generalize s.heap = H at hw ⊢
  generalize ([] : List Loc) = locs at hw ⊢
  obtain ⟨eO, hF, hT4, ⟨v0, pl0, hK⟩, ⟨Lw, Tw, sw, hEw, hBw⟩, eT, ⟨fd, eD, hfd⟩, hB, hC, ⟨ln0, hln0, hEc⟩, ⟨hlen, hh⟩, ⟨hbk, hBM⟩, ⟨hck, hM⟩⟩ := hI
  refine lv_aload_n C.1 C.2.1 dX7_follows_0 rfl (lv_at hl 0 rfl) ?_
  refine k_get C F hw (0) (by omega) eO rfl in_X7 6 (by decide) fl_X7_58 rfl dX7_follows_1 ?_
  refine k_getN C F hw (134) (by omega) hC rfl in_X1 1 (by decide) fl_X7_147 rfl dX7_follows_4 ?_
  refine k_zne (tgt := 18) C dX7_follows_7 (by decide) (by omega) (fun hc7 => ?_) (fun hc7 => ?_)
  · have hck9 : 1 ≤ ck ∧ ck ≤ 48 ∧ 1 ≤ ct ∧ ct ≤ 16 := by omega
    have hC5 : CtAt ca ad g ck ct (tnN (fb ck)) cn := by have h9 := hC; rw [if_neg hc7] at h9; exact h9
    have hE5 : EqAt ca ad g 135 1 (ck + 11) ct rk M ld ln0 := by have h9 := hEc; rw [if_neg hc7] at h9; exact h9
    have htnc := tnN_le (fb ck)
    refine lv_iload_n C.1 C.2.1 dX7_follows_18 rfl (lv_at hl 1 rfl) ?_
    refine k_Si C F hw (As := [.int (xx)]) (rest := []) (c_X7_isPacket xx) (va_cwS _ C.2.2.2.2 gm_X7_104 rfl rfl rfl cd_X7_isPacket.2 ⟨by decide, by decide⟩) hl.1 rfl (Nat.le_of_ble_eq_true rfl) dX7_follows_19 ⟨by decide, by decide⟩ (fun r1 g2 H locs hp hw => ?_)
    obtain ⟨hr9, hg9⟩ := hp
    rw [hg9] at hw
    subst hr9
    refine k_bne (tgt := 33) C dX7_follows_22 (by decide) (fun hc22 => ?_) (fun hc22 => ?_)
    · obtain ⟨x, hx, rfl⟩ := nat_of0 (of_decide_eq_true hc22)
      refine lv_aload_n C.1 C.2.1 dX7_follows_33 rfl (lv_at hl 0 rfl) ?_
      refine lv_iload_n C.1 C.2.1 dX7_follows_34 rfl (lv_at hl 1 rfl) ?_
      have hF3 : FieldAt ca ad g 1 pw ex := ⟨hF.1, hF.2.1, hF.2.2⟩
      have hE4 : EqAt ca ad g 135 1 (ck + 11) ct rk M ld ln0 := ⟨hE5.1, hE5.2.1, hE5.2.2.1, hE5.2.2.2.1, hE5.2.2.2.2⟩
      have hK5 : PkAt ca ad g 6 v0 pl0 := ⟨hK.1, hK.2⟩
      refine k_Vi C F hw (i := 0) (As := [.int (nI x)]) (rest := []) (c_X7_catcherDerives pw ex hF3 hX hP hR eO ck ct (tnN (fb ck)) cn hC5 ⟨hck9.1, hck9.2.1⟩ ⟨hck9.2.2.1, hck9.2.2.2⟩ htnc (rk, M, ld, ln0) (EqAtS_mk hE4) ⟨hM, hln0⟩ v0 pl0 hK5 x hx) (by omega) eO rfl (cwV _ C.2.2.2.2 gm_X7_158 rfl rfl rfl cd_X7_catcherDerives ⟨by decide, by decide⟩) hl.1 rfl (Nat.le_of_ble_eq_true rfl) dX7_follows_35 ⟨by decide, by decide⟩ (fun r6 g7 H locs hp hw => ?_)
      obtain ⟨hs8, hr9, hC8, hE8, hb8, ⟨v8, pl8, hK8⟩⟩ := hp
      subst hr9
      obtain ⟨lx, hlx⟩ : ∃ z, z = (lnRed pw ex (ck + 11) ct M ld (lnPk ct (pkOut ck x (tnN (fb ck)) pl0).2.1 (pkOut ck x (tnN (fb ck)) pl0).1 ln0)) := ⟨_, rfl⟩
      dsimp only at hE8 hb8
      rw [← hlx] at hE8 hb8
      have hlxb : By lx := hb8
      have e9 : g7 (0) = .inr (7, [.ref (ad 1), .ref (ad 4), .ref (ad 6), .ref (ad 8), .ref (ad 71), .ref (ad 73), .ref (ad 134)]) := (hs8 _ (by omega)).trans eO
      have e10 : g7 (1) = .inr (3, [.ref (ad (1 + 1)), .ref (ad (1 + 2))]) := (hs8 _ (by omega)).trans hF.1
      have e11 : g7 (1 + 1) = na ca 510 (pw) := (hs8 _ (by omega)).trans hF.2.1
      have e12 : g7 (1 + 2) = na ca 256 (ex) := (hs8 _ (by omega)).trans hF.2.2
      have e13 : g7 (4) = .inr (5, [.ref (ad (4 + 1)), .int (nI len)]) := (hs8 _ (by omega)).trans hT4.1
      have e14 : g7 (4 + 1) = na ca 800 (h) := (hs8 _ (by omega)).trans hT4.2
      have e15 : g7 (8) = .inr (2, [.ref (ad 1), .ref (ad (8 + 1)), .ref (ad (8 + 61)), .ref (ad (8 + 62)), .int (nI Lw), .int (nI Tw), .int (nI (sw.1))]) := (hs8 _ (by omega)).trans hEw.1
      have e16 : g7 (8 + 1) = qa ca 59 (fun i => if i < 59 then some (ad (8 + 2 + i)) else none) := (hs8 _ (by omega)).trans hEw.2.1
      have e17 : g7 (8 + 61) = za ca 59 (sw.2.2.1) := (hs8 _ (by omega)).trans hEw.2.2.2.1
      have e18 : g7 (8 + 62) = na ca 75 (sw.2.2.2) := (hs8 _ (by omega)).trans hEw.2.2.2.2
      have e19 : g7 (71) = .inr (6, [.ref (ad 8), .ref (ad 6), .ref (ad 72)]) := (hs8 _ (by omega)).trans eT
      have e20 : g7 (72) = ia ca 49 (fd) := (hs8 _ (by omega)).trans eD
      have e21 : g7 (73) = .inr (0, [.ref (ad 74), .int (nI bk), .int (nI bt), .int (nI (if bk = 0 then 0 else tnN (fb bk)))]) := (hs8 _ (by omega)).trans hB.1
      have e22 : g7 (74) = qa ca 59 (fun i => if i < 59 then some (ad (75 + i)) else none) := (hs8 _ (by omega)).trans hB.2.1
      have hr23 : ∀ p9, p9 < 59 → g7 (8 + 2 + p9) = na ca 75 (sw.2.1 p9) := fun p9 hp9 => (hs8 _ (by omega)).trans (hEw.2.2.1 p9 hp9)
      have hr24 : ∀ p9, p9 < 59 → g7 (75 + p9) = na ca 16 (BM p9) := fun p9 hp9 => (hs8 _ (by omega)).trans (hB.2.2 p9 hp9)
      have hs25 : ∀ z, (197 < z) → g7 z = g z := fun z hz => hs8 z (by omega)
      have hE26 : EqAt ca ad g7 135 1 (ck + 11) ct rk M ld lx := ⟨hE8.1, hE8.2.1, hE8.2.2.1, hE8.2.2.2.1, hE8.2.2.2.2⟩
      have hC27 : CtAt ca ad g7 ck ct (if ck = 0 then 0 else tnN (fb ck)) cn := by rw [if_neg hc7]; exact hC8
      have hE28 : EqAt ca ad g7 135 1 (if ck = 0 then 0 else ck + 11) ct rk M ld lx := by rw [if_neg hc7]; exact hE26
      have hF30 : FieldAt ca ad g7 1 pw ex := ⟨e10, e11, e12⟩
      have hK31 : PkAt ca ad g7 6 v8 pl8 := ⟨hK8.1, hK8.2⟩
      have hE32 : EqAt ca ad g7 8 1 Lw Tw sw.1 sw.2.1 sw.2.2.1 sw.2.2.2 := ⟨e15, e16, hr23, e17, e18⟩
      have hI29 : DInv ca ad g7 pw ex fb len h bk bt BM ck ct cn rk M ld := ⟨e9, hF30, ⟨e13, e14⟩, ⟨_, _, hK31⟩, ⟨_, _, _, hE32, hBw⟩, e19, ⟨_, e20, hfd⟩, ⟨e21, e22, hr24⟩, hC27, ⟨_, hlxb, hE28⟩, ⟨hlen, hh⟩, ⟨hbk, hBM⟩, ⟨hck, hM⟩⟩
      exact hret H locs ls _ (drv pw ex ck ct x (tnN (fb ck)) (rk, M, ld, ln0) pl0) _ _ dX7_follows_38 hw (by rfl) (⟨hs25, hc7, x, rfl, hx, ln0, pl0, hln0, rfl, hI29⟩)
    · have hE33 : EqAt ca ad g 135 1 (ck + 11) ct rk M ld ln0 := ⟨hE5.1, hE5.2.1, hE5.2.2.1, hE5.2.2.2.1, hE5.2.2.2.2⟩
      have hC34 : CtAt ca ad g ck ct (if ck = 0 then 0 else tnN (fb ck)) cn := by rw [if_neg hc7]; exact hC5
      have hE35 : EqAt ca ad g 135 1 (if ck = 0 then 0 else ck + 11) ct rk M ld ln0 := by rw [if_neg hc7]; exact hE33
      have hF37 : FieldAt ca ad g 1 pw ex := ⟨hF.1, hF.2.1, hF.2.2⟩
      have hK38 : PkAt ca ad g 6 v0 pl0 := ⟨hK.1, hK.2⟩
      have hE39 : EqAt ca ad g 8 1 Lw Tw sw.1 sw.2.1 sw.2.2.1 sw.2.2.2 := ⟨hEw.1, hEw.2.1, hEw.2.2.1, hEw.2.2.2.1, hEw.2.2.2.2⟩
      have hI36 : DInv ca ad g pw ex fb len h bk bt BM ck ct cn rk M ld := ⟨eO, hF37, ⟨hT4.1, hT4.2⟩, ⟨_, _, hK38⟩, ⟨_, _, _, hE39, hBw⟩, eT, ⟨_, eD, hfd⟩, ⟨hB.1, hB.2.1, hB.2.2⟩, hC34, ⟨_, hln0, hE35⟩, ⟨hlen, hh⟩, ⟨hbk, hBM⟩, ⟨hck, hM⟩⟩
      exact hthr H locs ls _ _ _ xO 110 112 tw_O hw hl.1 dX7_follows_25 dX7_follows_28 dX7_follows_29 dX7_follows_32 (by decide) (Nat.le_of_ble_eq_true rfl) (by decide) (by decide) (⟨Or.inr ⟨rfl, hc7, of_decide_eq_false hc22⟩, (fun z _ => rfl), hI36⟩)
  · have hF41 : FieldAt ca ad g 1 pw ex := ⟨hF.1, hF.2.1, hF.2.2⟩
    have hK42 : PkAt ca ad g 6 v0 pl0 := ⟨hK.1, hK.2⟩
    have hE43 : EqAt ca ad g 8 1 Lw Tw sw.1 sw.2.1 sw.2.2.1 sw.2.2.2 := ⟨hEw.1, hEw.2.1, hEw.2.2.1, hEw.2.2.2.1, hEw.2.2.2.2⟩
    have hE44 : EqAt ca ad g 135 1 (if ck = 0 then 0 else ck + 11) ct rk M ld ln0 := ⟨hEc.1, hEc.2.1, hEc.2.2.1, hEc.2.2.2.1, hEc.2.2.2.2⟩
    have hI40 : DInv ca ad g pw ex fb len h bk bt BM ck ct cn rk M ld := ⟨eO, hF41, ⟨hT4.1, hT4.2⟩, ⟨_, _, hK42⟩, ⟨_, _, _, hE43, hBw⟩, eT, ⟨_, eD, hfd⟩, ⟨hB.1, hB.2.1, hB.2.2⟩, hC, ⟨_, hln0, hE44⟩, ⟨hlen, hh⟩, ⟨hbk, hBM⟩, ⟨hck, hM⟩⟩
    exact hthr H locs ls _ _ _ xI 101 103 tw_I hw hl.1 dX7_follows_10 dX7_follows_13 dX7_follows_14 dX7_follows_17 (by decide) (Nat.le_of_ble_eq_true rfl) (by decide) (by decide) (⟨Or.inl ⟨rfl, hc7⟩, (fun z _ => rfl), hI40⟩)

abbrev rm_X7_known : Room := { frames := 6, cells := 1, slots := 6, locals := 125 }

set_option maxHeartbeats 800000 in
set_option maxRecDepth 100000 in
/-- FountainDesk.known -/
theorem c_X7_known {l : Launch} {D : va_G} {ca : Nat → ClassId} {tB tS R : Nat} {ad : Nat → Nat} {g : Nat → va_E} {sz : Nat} (hlt : l.stackTraces = false) (pw ex : Nat → Nat) (hX : ExOk ex) (hP : PwOk pw) (hR : 197 < R) (fb : Nat → Nat → Bool) (hfb : ∀ k t s pl, 1 ≤ k → k ≤ 48 → EqBy s → t < 1000 → fillB pw ex k t s pl = fb k t) (len : Nat) (h : Nat → Nat) (bk bt : Nat) (BM : Nat → Nat → Nat) (ck ct cn rk : Nat) (M : Nat → Nat → Nat) (ld : Nat → Bool) (hI : DInv ca ad g pw ex fb len h bk bt BM ck ct cn rk M ld) (xx ix : Int32) : XMI l yX7_known cX7_known 3 .int rm_X7_known D ca tB tS R ad g sz [.ref (ad 0), .int (xx), .int (ix)] (fun r g1 => (∀ z, 197 < z → g1 z = g z) ∧ ck ≠ 0 ∧ ∃ x i : Nat, xx = nI x ∧ ix = nI i ∧ x < 65536 ∧ i < ct ∧ ∃ ln1 pl1, By ln1 ∧ drv pw ex ck ct x (tnN (fb ck)) (rk, M, ld, ln1) pl1 = true ∧ r = nI ((lnRed pw ex (ck + 11) ct M ld (lnPk ct (pkOut ck x (tnN (fb ck)) pl1).2.1 (pkOut ck x (tnN (fb ck)) pl1).1 ln1)) i) ∧ DInv ca ad g1 pw ex fb len h bk bt BM ck ct cn rk M ld) (fun E g1 => (E = xI ∧ ck = 0 ∨ E = xO ∧ ck ≠ 0 ∧ ¬ (0 ≤ xx ∧ xx < 65536) ∨ E = xI ∧ ck ≠ 0 ∧ (∃ x : Nat, xx = nI x ∧ x < 65536 ∧ ∃ ln1 pl1, By ln1 ∧ drv pw ex ck ct x (tnN (fb ck)) (rk, M, ld, ln1) pl1 = false) ∨ E = xO ∧ ck ≠ 0 ∧ (∃ x : Nat, xx = nI x ∧ x < 65536 ∧ ∃ ln1 pl1, By ln1 ∧ drv pw ex ck ct x (tnN (fb ck)) (rk, M, ld, ln1) pl1 = true) ∧ ¬ ∃ i : Nat, ix = nI i ∧ i < ct) ∧ (∀ z, 197 < z → g1 z = g z) ∧ DInv ca ad g1 pw ex fb len h bk bt BM ck ct cn rk M ld) := by
  refine x_startI hlt (by decide) (Nat.le_of_ble_eq_true rfl) (fun p e s m args below meth c ls Q hsz C hl F hw hret hthr => ?_)
  have hl : lv_has ls 3 [(0, .ref (ad 0)), (1, .int (xx)), (2, .int (ix))] := hl
  generalize s.heap = H at hw ⊢
  generalize ([] : List Loc) = locs at hw ⊢
  obtain ⟨eO, hF, hT4, ⟨v0, pl0, hK⟩, ⟨Lw, Tw, sw, hEw, hBw⟩, eT, ⟨fd, eD, hfd⟩, hB, hC, ⟨ln0, hln0, hEc⟩, ⟨hlen, hh⟩, ⟨hbk, hBM⟩, ⟨hck, hM⟩⟩ := hI
  refine lv_aload_n C.1 C.2.1 dX7_known_0 rfl (lv_at hl 0 rfl) ?_
  refine k_get C F hw (0) (by omega) eO rfl in_X7 6 (by decide) fl_X7_58 rfl dX7_known_1 ?_
  refine k_getN C F hw (134) (by omega) hC rfl in_X1 1 (by decide) fl_X7_147 rfl dX7_known_4 ?_
  refine k_zne (tgt := 18) C dX7_known_7 (by decide) (by omega) (fun hc7 => ?_) (fun hc7 => ?_)
  · have hck9 : 1 ≤ ck ∧ ck ≤ 48 ∧ 1 ≤ ct ∧ ct ≤ 16 := by omega
    have hC5 : CtAt ca ad g ck ct (tnN (fb ck)) cn := by have h9 := hC; rw [if_neg hc7] at h9; exact h9
    have hE5 : EqAt ca ad g 135 1 (ck + 11) ct rk M ld ln0 := by have h9 := hEc; rw [if_neg hc7] at h9; exact h9
    have htnc := tnN_le (fb ck)
    refine lv_iload_n C.1 C.2.1 dX7_known_18 rfl (lv_at hl 1 rfl) ?_
    refine k_Si C F hw (As := [.int (xx)]) (rest := []) (c_X7_isPacket xx) (va_cwS _ C.2.2.2.2 gm_X7_104 rfl rfl rfl cd_X7_isPacket.2 ⟨by decide, by decide⟩) hl.1 rfl (Nat.le_of_ble_eq_true rfl) dX7_known_19 ⟨by decide, by decide⟩ (fun r1 g2 H locs hp hw => ?_)
    obtain ⟨hr9, hg9⟩ := hp
    rw [hg9] at hw
    subst hr9
    refine k_bne (tgt := 33) C dX7_known_22 (by decide) (fun hc22 => ?_) (fun hc22 => ?_)
    · obtain ⟨x, hx, rfl⟩ := nat_of0 (of_decide_eq_true hc22)
      refine lv_aload_n C.1 C.2.1 dX7_known_33 rfl (lv_at hl 0 rfl) ?_
      refine lv_iload_n C.1 C.2.1 dX7_known_34 rfl (lv_at hl 1 rfl) ?_
      have hF3 : FieldAt ca ad g 1 pw ex := ⟨hF.1, hF.2.1, hF.2.2⟩
      have hE4 : EqAt ca ad g 135 1 (ck + 11) ct rk M ld ln0 := ⟨hE5.1, hE5.2.1, hE5.2.2.1, hE5.2.2.2.1, hE5.2.2.2.2⟩
      have hK5 : PkAt ca ad g 6 v0 pl0 := ⟨hK.1, hK.2⟩
      refine k_Vi C F hw (i := 0) (As := [.int (nI x)]) (rest := []) (c_X7_catcherDerives pw ex hF3 hX hP hR eO ck ct (tnN (fb ck)) cn hC5 ⟨hck9.1, hck9.2.1⟩ ⟨hck9.2.2.1, hck9.2.2.2⟩ htnc (rk, M, ld, ln0) (EqAtS_mk hE4) ⟨hM, hln0⟩ v0 pl0 hK5 x hx) (by omega) eO rfl (cwV _ C.2.2.2.2 gm_X7_158 rfl rfl rfl cd_X7_catcherDerives ⟨by decide, by decide⟩) hl.1 rfl (Nat.le_of_ble_eq_true rfl) dX7_known_35 ⟨by decide, by decide⟩ (fun r6 g7 H locs hp hw => ?_)
      obtain ⟨hs8, hr9, hC8, hE8, hb8, ⟨v8, pl8, hK8⟩⟩ := hp
      subst hr9
      obtain ⟨lx, hlx⟩ : ∃ z, z = (lnRed pw ex (ck + 11) ct M ld (lnPk ct (pkOut ck x (tnN (fb ck)) pl0).2.1 (pkOut ck x (tnN (fb ck)) pl0).1 ln0)) := ⟨_, rfl⟩
      dsimp only at hE8 hb8
      rw [← hlx] at hE8 hb8
      have hlxb : By lx := hb8
      have e9 : g7 (0) = .inr (7, [.ref (ad 1), .ref (ad 4), .ref (ad 6), .ref (ad 8), .ref (ad 71), .ref (ad 73), .ref (ad 134)]) := (hs8 _ (by omega)).trans eO
      have e10 : g7 (1) = .inr (3, [.ref (ad (1 + 1)), .ref (ad (1 + 2))]) := (hs8 _ (by omega)).trans hF.1
      have e11 : g7 (1 + 1) = na ca 510 (pw) := (hs8 _ (by omega)).trans hF.2.1
      have e12 : g7 (1 + 2) = na ca 256 (ex) := (hs8 _ (by omega)).trans hF.2.2
      have e13 : g7 (4) = .inr (5, [.ref (ad (4 + 1)), .int (nI len)]) := (hs8 _ (by omega)).trans hT4.1
      have e14 : g7 (4 + 1) = na ca 800 (h) := (hs8 _ (by omega)).trans hT4.2
      have e15 : g7 (8) = .inr (2, [.ref (ad 1), .ref (ad (8 + 1)), .ref (ad (8 + 61)), .ref (ad (8 + 62)), .int (nI Lw), .int (nI Tw), .int (nI (sw.1))]) := (hs8 _ (by omega)).trans hEw.1
      have e16 : g7 (8 + 1) = qa ca 59 (fun i => if i < 59 then some (ad (8 + 2 + i)) else none) := (hs8 _ (by omega)).trans hEw.2.1
      have e17 : g7 (8 + 61) = za ca 59 (sw.2.2.1) := (hs8 _ (by omega)).trans hEw.2.2.2.1
      have e18 : g7 (8 + 62) = na ca 75 (sw.2.2.2) := (hs8 _ (by omega)).trans hEw.2.2.2.2
      have e19 : g7 (71) = .inr (6, [.ref (ad 8), .ref (ad 6), .ref (ad 72)]) := (hs8 _ (by omega)).trans eT
      have e20 : g7 (72) = ia ca 49 (fd) := (hs8 _ (by omega)).trans eD
      have e21 : g7 (73) = .inr (0, [.ref (ad 74), .int (nI bk), .int (nI bt), .int (nI (if bk = 0 then 0 else tnN (fb bk)))]) := (hs8 _ (by omega)).trans hB.1
      have e22 : g7 (74) = qa ca 59 (fun i => if i < 59 then some (ad (75 + i)) else none) := (hs8 _ (by omega)).trans hB.2.1
      have hr23 : ∀ p9, p9 < 59 → g7 (8 + 2 + p9) = na ca 75 (sw.2.1 p9) := fun p9 hp9 => (hs8 _ (by omega)).trans (hEw.2.2.1 p9 hp9)
      have hr24 : ∀ p9, p9 < 59 → g7 (75 + p9) = na ca 16 (BM p9) := fun p9 hp9 => (hs8 _ (by omega)).trans (hB.2.2 p9 hp9)
      have hs25 : ∀ z, (197 < z) → g7 z = g z := fun z hz => hs8 z (by omega)
      refine k_bne (tgt := 49) C dX7_known_38 (by decide) (fun hc38 => ?_) (fun hc38 => ?_)
      · refine lv_iload_n C.1 C.2.1 dX7_known_49 rfl (lv_at hl 2 rfl) ?_
        refine lv_if_lt (tgt := 64) C.1 C.2.1 dX7_known_50 (by decide) (fun hc50 => ?_) (fun hc50 => ?_)
        · have hE26 : EqAt ca ad g7 135 1 (ck + 11) ct rk M ld lx := ⟨hE8.1, hE8.2.1, hE8.2.2.1, hE8.2.2.2.1, hE8.2.2.2.2⟩
          have hC27 : CtAt ca ad g7 ck ct (if ck = 0 then 0 else tnN (fb ck)) cn := by rw [if_neg hc7]; exact hC8
          have hE28 : EqAt ca ad g7 135 1 (if ck = 0 then 0 else ck + 11) ct rk M ld lx := by rw [if_neg hc7]; exact hE26
          have hF30 : FieldAt ca ad g7 1 pw ex := ⟨e10, e11, e12⟩
          have hK31 : PkAt ca ad g7 6 v8 pl8 := ⟨hK8.1, hK8.2⟩
          have hE32 : EqAt ca ad g7 8 1 Lw Tw sw.1 sw.2.1 sw.2.2.1 sw.2.2.2 := ⟨e15, e16, hr23, e17, e18⟩
          have hI29 : DInv ca ad g7 pw ex fb len h bk bt BM ck ct cn rk M ld := ⟨e9, hF30, ⟨e13, e14⟩, ⟨_, _, hK31⟩, ⟨_, _, _, hE32, hBw⟩, e19, ⟨_, e20, hfd⟩, ⟨e21, e22, hr24⟩, hC27, ⟨_, hlxb, hE28⟩, ⟨hlen, hh⟩, ⟨hbk, hBM⟩, ⟨hck, hM⟩⟩
          exact hthr H locs ls _ _ _ xO 110 112 tw_O hw hl.1 dX7_known_64 dX7_known_67 dX7_known_68 dX7_known_71 (by decide) (Nat.le_of_ble_eq_true rfl) (by decide) (by decide) (⟨Or.inr (Or.inr (Or.inr ⟨rfl, hc7, ⟨x, rfl, hx, ln0, pl0, hln0, hc38⟩, fun ⟨i, h1, h2⟩ => by first | exact absurd hc50 (by rw [h1]; exact nI_pos (by omega)) | exact hc61 (by rw [h1]; exact nI_lt h2 (by omega))⟩)), hs25, hI29⟩)
        · refine lv_iload_n C.1 C.2.1 dX7_known_53 rfl (lv_at hl 2 rfl) ?_
          refine lv_aload_n C.1 C.2.1 dX7_known_54 rfl (lv_at hl 0 rfl) ?_
          refine k_get C F hw (0) (by omega) e9 rfl in_X7 6 (by decide) fl_X7_58 rfl dX7_known_55 ?_
          refine k_getN C F hw (134) (by omega) hC8 rfl in_X1 2 (by decide) fl_X7_148 rfl dX7_known_58 ?_
          refine lv_icmp_lt (tgt := 72) C.1 C.2.1 dX7_known_61 (by decide) (fun hc61 => ?_) (fun hc61 => ?_)
          · obtain ⟨i, hi0, rfl⟩ := nI_of hc50
            have hib : i < ct := (nI_ltI hi0 (by omega)).mp hc61
            refine lv_aload_n C.1 C.2.1 dX7_known_72 rfl (lv_at hl 0 rfl) ?_
            refine k_get C F hw (0) (by omega) e9 rfl in_X7 6 (by decide) fl_X7_58 rfl dX7_known_73 ?_
            refine k_getN C F hw (134) (by omega) hC8 rfl in_X1 0 (by decide) fl_X7_152 rfl dX7_known_76 ?_
            refine lv_iload_n C.1 C.2.1 dX7_known_79 rfl (lv_at hl 2 rfl) ?_
            have hE33 : EqAt ca ad g7 135 1 (ck + 11) ct rk M ld lx := ⟨hE8.1, hE8.2.1, hE8.2.2.1, hE8.2.2.2.1, hE8.2.2.2.2⟩
            refine k_Vi C F hw (i := 135) (As := [.int (nI i)]) (rest := []) (c_X2_derivedValue 135 1 (ck + 11) ct rk M ld lx hE33 (by omega) (by omega) (by omega) i (by omega)) (by omega) hE8.1 rfl (cwV _ C.2.2.2.2 gm_X7_161 rfl rfl rfl cd_X2_derivedValue ⟨by decide, by decide⟩) hl.1 rfl (Nat.le_of_ble_eq_true rfl) dX7_known_80 ⟨by decide, by decide⟩ (fun r34 g35 H locs hp hw => ?_)
            obtain ⟨hr9, hg9⟩ := hp
            rw [hg9] at hw
            subst hr9
            have hE36 : EqAt ca ad g7 135 1 (ck + 11) ct rk M ld lx := ⟨hE8.1, hE8.2.1, hE8.2.2.1, hE8.2.2.2.1, hE8.2.2.2.2⟩
            have hC37 : CtAt ca ad g7 ck ct (if ck = 0 then 0 else tnN (fb ck)) cn := by rw [if_neg hc7]; exact hC8
            have hE38 : EqAt ca ad g7 135 1 (if ck = 0 then 0 else ck + 11) ct rk M ld lx := by rw [if_neg hc7]; exact hE36
            have hF40 : FieldAt ca ad g7 1 pw ex := ⟨e10, e11, e12⟩
            have hK41 : PkAt ca ad g7 6 v8 pl8 := ⟨hK8.1, hK8.2⟩
            have hE42 : EqAt ca ad g7 8 1 Lw Tw sw.1 sw.2.1 sw.2.2.1 sw.2.2.2 := ⟨e15, e16, hr23, e17, e18⟩
            have hI39 : DInv ca ad g7 pw ex fb len h bk bt BM ck ct cn rk M ld := ⟨e9, hF40, ⟨e13, e14⟩, ⟨_, _, hK41⟩, ⟨_, _, _, hE42, hBw⟩, e19, ⟨_, e20, hfd⟩, ⟨e21, e22, hr24⟩, hC37, ⟨_, hlxb, hE38⟩, ⟨hlen, hh⟩, ⟨hbk, hBM⟩, ⟨hck, hM⟩⟩
            exact hret H locs ls _ _ _ dX7_known_83 hw (⟨hs25, hc7, x, i, rfl, rfl, hx, hib, ln0, pl0, hln0, hc38, by rw [hlx], hI39⟩)
          · have hE43 : EqAt ca ad g7 135 1 (ck + 11) ct rk M ld lx := ⟨hE8.1, hE8.2.1, hE8.2.2.1, hE8.2.2.2.1, hE8.2.2.2.2⟩
            have hC44 : CtAt ca ad g7 ck ct (if ck = 0 then 0 else tnN (fb ck)) cn := by rw [if_neg hc7]; exact hC8
            have hE45 : EqAt ca ad g7 135 1 (if ck = 0 then 0 else ck + 11) ct rk M ld lx := by rw [if_neg hc7]; exact hE43
            have hF47 : FieldAt ca ad g7 1 pw ex := ⟨e10, e11, e12⟩
            have hK48 : PkAt ca ad g7 6 v8 pl8 := ⟨hK8.1, hK8.2⟩
            have hE49 : EqAt ca ad g7 8 1 Lw Tw sw.1 sw.2.1 sw.2.2.1 sw.2.2.2 := ⟨e15, e16, hr23, e17, e18⟩
            have hI46 : DInv ca ad g7 pw ex fb len h bk bt BM ck ct cn rk M ld := ⟨e9, hF47, ⟨e13, e14⟩, ⟨_, _, hK48⟩, ⟨_, _, _, hE49, hBw⟩, e19, ⟨_, e20, hfd⟩, ⟨e21, e22, hr24⟩, hC44, ⟨_, hlxb, hE45⟩, ⟨hlen, hh⟩, ⟨hbk, hBM⟩, ⟨hck, hM⟩⟩
            exact hthr H locs ls _ _ _ xO 110 112 tw_O hw hl.1 dX7_known_64 dX7_known_67 dX7_known_68 dX7_known_71 (by decide) (Nat.le_of_ble_eq_true rfl) (by decide) (by decide) (⟨Or.inr (Or.inr (Or.inr ⟨rfl, hc7, ⟨x, rfl, hx, ln0, pl0, hln0, hc38⟩, fun ⟨i, h1, h2⟩ => by first | exact absurd hc50 (by rw [h1]; exact nI_pos (by omega)) | exact hc61 (by rw [h1]; exact nI_lt h2 (by omega))⟩)), hs25, hI46⟩)
      · have hE50 : EqAt ca ad g7 135 1 (ck + 11) ct rk M ld lx := ⟨hE8.1, hE8.2.1, hE8.2.2.1, hE8.2.2.2.1, hE8.2.2.2.2⟩
        have hC51 : CtAt ca ad g7 ck ct (if ck = 0 then 0 else tnN (fb ck)) cn := by rw [if_neg hc7]; exact hC8
        have hE52 : EqAt ca ad g7 135 1 (if ck = 0 then 0 else ck + 11) ct rk M ld lx := by rw [if_neg hc7]; exact hE50
        have hF54 : FieldAt ca ad g7 1 pw ex := ⟨e10, e11, e12⟩
        have hK55 : PkAt ca ad g7 6 v8 pl8 := ⟨hK8.1, hK8.2⟩
        have hE56 : EqAt ca ad g7 8 1 Lw Tw sw.1 sw.2.1 sw.2.2.1 sw.2.2.2 := ⟨e15, e16, hr23, e17, e18⟩
        have hI53 : DInv ca ad g7 pw ex fb len h bk bt BM ck ct cn rk M ld := ⟨e9, hF54, ⟨e13, e14⟩, ⟨_, _, hK55⟩, ⟨_, _, _, hE56, hBw⟩, e19, ⟨_, e20, hfd⟩, ⟨e21, e22, hr24⟩, hC51, ⟨_, hlxb, hE52⟩, ⟨hlen, hh⟩, ⟨hbk, hBM⟩, ⟨hck, hM⟩⟩
        exact hthr H locs ls _ _ _ xI 101 103 tw_I hw hl.1 dX7_known_41 dX7_known_44 dX7_known_45 dX7_known_48 (by decide) (Nat.le_of_ble_eq_true rfl) (by decide) (by decide) (⟨Or.inr (Or.inr (Or.inl ⟨rfl, hc7, x, rfl, hx, ln0, pl0, hln0, hc38⟩)), hs25, hI53⟩)
    · have hE57 : EqAt ca ad g 135 1 (ck + 11) ct rk M ld ln0 := ⟨hE5.1, hE5.2.1, hE5.2.2.1, hE5.2.2.2.1, hE5.2.2.2.2⟩
      have hC58 : CtAt ca ad g ck ct (if ck = 0 then 0 else tnN (fb ck)) cn := by rw [if_neg hc7]; exact hC5
      have hE59 : EqAt ca ad g 135 1 (if ck = 0 then 0 else ck + 11) ct rk M ld ln0 := by rw [if_neg hc7]; exact hE57
      have hF61 : FieldAt ca ad g 1 pw ex := ⟨hF.1, hF.2.1, hF.2.2⟩
      have hK62 : PkAt ca ad g 6 v0 pl0 := ⟨hK.1, hK.2⟩
      have hE63 : EqAt ca ad g 8 1 Lw Tw sw.1 sw.2.1 sw.2.2.1 sw.2.2.2 := ⟨hEw.1, hEw.2.1, hEw.2.2.1, hEw.2.2.2.1, hEw.2.2.2.2⟩
      have hI60 : DInv ca ad g pw ex fb len h bk bt BM ck ct cn rk M ld := ⟨eO, hF61, ⟨hT4.1, hT4.2⟩, ⟨_, _, hK62⟩, ⟨_, _, _, hE63, hBw⟩, eT, ⟨_, eD, hfd⟩, ⟨hB.1, hB.2.1, hB.2.2⟩, hC58, ⟨_, hln0, hE59⟩, ⟨hlen, hh⟩, ⟨hbk, hBM⟩, ⟨hck, hM⟩⟩
      exact hthr H locs ls _ _ _ xO 110 112 tw_O hw hl.1 dX7_known_25 dX7_known_28 dX7_known_29 dX7_known_32 (by decide) (Nat.le_of_ble_eq_true rfl) (by decide) (by decide) (⟨Or.inr (Or.inl ⟨rfl, hc7, of_decide_eq_false hc22⟩), (fun z _ => rfl), hI60⟩)
  · have hF65 : FieldAt ca ad g 1 pw ex := ⟨hF.1, hF.2.1, hF.2.2⟩
    have hK66 : PkAt ca ad g 6 v0 pl0 := ⟨hK.1, hK.2⟩
    have hE67 : EqAt ca ad g 8 1 Lw Tw sw.1 sw.2.1 sw.2.2.1 sw.2.2.2 := ⟨hEw.1, hEw.2.1, hEw.2.2.1, hEw.2.2.2.1, hEw.2.2.2.2⟩
    have hE68 : EqAt ca ad g 135 1 (if ck = 0 then 0 else ck + 11) ct rk M ld ln0 := ⟨hEc.1, hEc.2.1, hEc.2.2.1, hEc.2.2.2.1, hEc.2.2.2.2⟩
    have hI64 : DInv ca ad g pw ex fb len h bk bt BM ck ct cn rk M ld := ⟨eO, hF65, ⟨hT4.1, hT4.2⟩, ⟨_, _, hK66⟩, ⟨_, _, _, hE67, hBw⟩, eT, ⟨_, eD, hfd⟩, ⟨hB.1, hB.2.1, hB.2.2⟩, hC, ⟨_, hln0, hE68⟩, ⟨hlen, hh⟩, ⟨hbk, hBM⟩, ⟨hck, hM⟩⟩
    exact hthr H locs ls _ _ _ xI 101 103 tw_I hw hl.1 dX7_known_10 dX7_known_13 dX7_known_14 dX7_known_17 (by decide) (Nat.le_of_ble_eq_true rfl) (by decide) (by decide) (⟨Or.inl ⟨rfl, hc7⟩, (fun z _ => rfl), hI64⟩)
