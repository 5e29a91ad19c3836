/-! ===== Turns.of, Block, Catcher ===== -/
theorem tn_go {fb : Nat → Bool} {t : Nat} (h : tnF fb (1000 - t) t = tnN fb) (ht : t < 1000) (hf : fb t = false) : tnF fb (1000 - (t + 1)) (t + 1) = tnN fb := by
  rw [show 1000 - t = (1000 - (t + 1)) + 1 by omega] at h
  unfold tnF at h
  rw [hf] at h
  exact h
theorem tn_end {fb : Nat → Bool} {t : Nat} (h : tnF fb (1000 - t) t = tnN fb) (ht : 1000 ≤ t) : t = tnN fb := by
  rw [show 1000 - t = 0 by omega] at h
  exact h
theorem tn_hit {fb : Nat → Bool} {t : Nat} (h : tnF fb (1000 - t) t = tnN fb) (ht : t < 1000) (hf : fb t = true) : t = tnN fb := by
  rw [show 1000 - t = (1000 - (t + 1)) + 1 by omega] at h
  unfold tnF at h
  rw [hf] at h
  exact h
def BlkAt (ca : Nat → ClassId) (ad : Nat → Nat) (g : Nat → va_E) (bk bt btn : Nat) (BM : Nat → Nat → Nat) : Prop := g 73 = .inr (0, [.ref (ad 74), .int (nI bk), .int (nI bt), .int (nI btn)]) ∧ g 74 = qa ca 59 (fun i => if i < 59 then some (ad (75 + i)) else none) ∧ ∀ p, p < 59 → g (75 + p) = na ca 16 (BM p)

abbrev rm_X6_of : Room := { frames := 5, cells := 0, slots := 0, locals := 119 }

theorem upd_self {f : Nat → Int32} {k : Nat} {x : Int32} : upd f k x k = x := pk_us
theorem upd_ne {f : Nat → Int32} {k j : Nat} {x : Int32} (h : j ≠ k) : upd f k x j = f j := pk_un h
theorem EqAt.keep {ca : Nat → ClassId} {ad : Nat → Nat} {g g1 : Nat → va_E} {b f L T rk : Nat} {M : Nat → Nat → Nat} {ld : Nat → Bool} {ln : Nat → Nat} {r : Nat} (h : EqAt ca ad g b f L T rk M ld ln) (hk : ∀ z, z ≠ r → g1 z = g z) (hr : r < b ∨ b + 62 < r) : EqAt ca ad g1 b f L T rk M ld ln :=
  ⟨(hk _ (by omega)).trans h.1, (hk _ (by omega)).trans h.2.1, fun p hp => (hk _ (by omega)).trans (h.2.2.1 p hp), (hk _ (by omega)).trans h.2.2.2.1, (hk _ (by omega)).trans h.2.2.2.2⟩
theorem EqAt.same {ca : Nat → ClassId} {ad : Nat → Nat} {g g1 : Nat → va_E} {b f L T rk : Nat} {M : Nat → Nat → Nat} {ld : Nat → Bool} {ln : Nat → Nat} (h : EqAt ca ad g b f L T rk M ld ln) (hk : ∀ z, b ≤ z → z ≤ b + 62 → g1 z = g z) : EqAt ca ad g1 b f L T rk M ld ln :=
  ⟨(hk _ (by omega) (by omega)).trans h.1, (hk _ (by omega) (by omega)).trans h.2.1, fun p hp => (hk _ (by omega) (by omega)).trans (h.2.2.1 p hp), (hk _ (by omega) (by omega)).trans h.2.2.2.1, (hk _ (by omega) (by omega)).trans h.2.2.2.2⟩
theorem PkAt.keep {ca : Nat → ClassId} {ad : Nat → Nat} {g g1 : Nat → va_E} {po v : Nat} {pl : Nat → Nat} {r : Nat} (h : PkAt ca ad g po v pl) (hk : ∀ z, z ≠ r → g1 z = g z) (hr : r < po ∨ po + 1 < r) : PkAt ca ad g1 po v pl := ⟨(hk _ (by omega)).trans h.1, (hk _ (by omega)).trans h.2⟩

set_option maxHeartbeats 800000 in
set_option maxRecDepth 100000 in
/-- Turns.of -/
theorem c_X6_of {l : Launch} {D : va_G} {ca : Nat → ClassId} {tB tS R : Nat} {ad : Nat → Nat} {g : Nat → va_E} {sz : Nat} (pw ex : Nat → Nat) (hF : FieldAt ca ad g 1 pw ex) (hX : ExOk ex) (hP : PwOk pw) (hR : 197 < R) (hW : WkWf ca ad g) (hK : PkWf ca ad g) (eT : g 71 = .inr (6, [.ref (ad 8), .ref (ad 6), .ref (ad 72)])) (fd : Nat → Int32) (eD : g 72 = ia ca 49 fd) (k : Nat) (hk : 1 ≤ k ∧ k ≤ 48) (fb : Nat → Bool) (hfb : ∀ t s pl, EqBy s → t < 1000 → fillB pw ex k t s pl = fb t) (hfd : fd k = -1 ∨ fd k = nI (tnN fb)) : MI l yX6_of cX6_of 3 .int rm_X6_of D ca tB tS R ad g sz [.ref (ad 71), .int (nI k)] (fun r g1 => (∀ z, (z < 6 ∨ 70 < z) ∧ z ≠ 72 → g1 z = g z) ∧ r = nI (tnN fb) ∧ WkWf ca ad g1 ∧ PkWf ca ad g1 ∧ ∃ fd1, g1 72 = ia ca 49 fd1 ∧ fd1 k = nI (tnN fb) ∧ ∀ j, j ≠ k → fd1 j = fd j) := by
  refine m_startI (by decide +kernel) (Nat.le_of_ble_eq_true rfl) (fun p e s m args below meth c ls Q hsz C hl F hw hret => ?_)
  have hl : lv_has ls 3 [(0, .ref (ad 71)), (1, .int (nI k))] := hl
  generalize s.heap = H at hw ⊢
  generalize ([] : List Loc) = locs at hw ⊢
  have htn := tnN_le fb
  refine lv_aload_n C.1 C.2.1 dX6_of_0 rfl (lv_at hl 0 rfl) ?_
  refine k_get C F hw (71) (by omega) eT rfl in_X6 2 (by decide) fl_X6_19 rfl dX6_of_1 ?_
  refine lv_iload_n C.1 C.2.1 dX6_of_4 rfl (lv_at hl 1 rfl) ?_
  refine k_ialdR C F hw (72) (by omega) eD (k) (by omega) (by decide) dX6_of_5 ?_
  refine lv_iconst (v := -1) C.1 C.2.1 dX6_of_6 (by decide) ?_
  refine lv_icmp_ne (tgt := 41) C.1 C.2.1 dX6_of_7 (by decide) (fun hc7 => ?_) (fun hc7 => ?_)
  · have hfd1 : fd k = nI (tnN fb) := hfd.resolve_left hc7
    refine lv_aload_n C.1 C.2.1 dX6_of_41 rfl (lv_at hl 0 rfl) ?_
    refine k_get C F hw (71) (by omega) eT rfl in_X6 2 (by decide) fl_X6_19 rfl dX6_of_42 ?_
    refine lv_iload_n C.1 C.2.1 dX6_of_45 rfl (lv_at hl 1 rfl) ?_
    refine k_ialdR C F hw (72) (by omega) eD (k) (by omega) (by decide) dX6_of_46 ?_
    exact hret H locs ls _ _ _ dX6_of_47 hw (⟨fun z _ => rfl, hfd1, hW, hK, fd, eD, hfd1, fun j _ => rfl⟩)
  · refine k_icn C 0 dX6_of_10 (by decide) ?_
    refine lv_istore_n (lv' := [(2, .int (nI 0)), (0, .ref (ad 71)), (1, .int (nI k))]) C.1 C.2.1 dX6_of_11 rfl hl (by decide) rfl (fun ls hl => ?_)
    have loop12 : ∀ (fuel : Nat) (t : Nat) (gL : Nat → va_E) (H : Heap) (locs : List Loc) (ls : Array Slot), ((1000 - t) + 1 ≤ fuel) → (t ≤ 1000) → (tnF fb (1000 - t) t = tnN fb) → (WkWf ca ad gL) → (PkWf ca ad gL) → (∀ z, (z < 6 ∨ 70 < z) ∧ z ≠ 72 → gL z = g z) → (gL (72) = ia ca 49 (fd)) → Wd D (AA R ad sz) s R ad gL H locs → lv_has ls 3 [(0, .ref (ad 71)), (1, .int (nI k)), (2, .int (nI t))] → W p l e rm_X6_of s m args below meth c H locs 0 0 Q (F0 m 12 ls []) := by
      intro fuel
      induction fuel with
      | zero =>
        intro t gL H locs ls hfu12
        exact absurd hfu12 (by omega)
      | succ fuel12 ih12 =>
        intro t gL H locs ls hfu12 ht hrun hW9 hK9 hsL12 eL12_0 hw hl
        have e1 : gL (71) = .inr (6, [.ref (ad 8), .ref (ad 6), .ref (ad 72)]) := (hsL12 _ (by omega)).trans eT
        have e2 : gL (1) = .inr (3, [.ref (ad (1 + 1)), .ref (ad (1 + 2))]) := (hsL12 _ (by omega)).trans hF.1
        have e3 : gL (1 + 1) = na ca 510 (pw) := (hsL12 _ (by omega)).trans hF.2.1
        have e4 : gL (1 + 2) = na ca 256 (ex) := (hsL12 _ (by omega)).trans hF.2.2
        refine lv_iload_n C.1 C.2.1 dX6_of_12 rfl (lv_at hl 2 rfl) ?_
        refine k_sip C 1000 dX6_of_13 (by decide) ?_
        refine k_ige (tgt := 34) C dX6_of_16 (by decide) (by omega) (by omega) (fun hc16 => ?_) (fun hc16 => ?_)
        · have htt : t = tnN fb := tn_end hrun hc16
          refine lv_aload_n C.1 C.2.1 dX6_of_34 rfl (lv_at hl 0 rfl) ?_
          refine k_get C F hw (71) (by omega) e1 rfl in_X6 2 (by decide) fl_X6_19 rfl dX6_of_35 ?_
          refine lv_iload_n C.1 C.2.1 dX6_of_38 rfl (lv_at hl 1 rfl) ?_
          refine lv_iload_n C.1 C.2.1 dX6_of_39 rfl (lv_at hl 2 rfl) ?_
          refine k_ti (x' := nI (tnN fb)) (by rw [htt]) ?_
          refine k_iastR C F hw (72) (by omega) eL12_0 (k) (nI (tnN fb)) (by omega) (by decide) dX6_of_40 (fun H locs hw => ?_)
          have hw : Wd D (AA R ad sz) s R ad (va_up gL (72) (ia ca 49 (upd fd k (nI (tnN fb))))) H locs := hw
          obtain ⟨g5, hg5⟩ : ∃ z, z = va_up gL (72) (ia ca 49 (upd fd k (nI (tnN fb)))) := ⟨_, rfl⟩
          rw [← hg5] at hw
          have hk6 : ∀ z, z ≠ 72 → g5 z = gL z := fun z hz => by rw [hg5]; exact va_up_ne _ _ hz
          have e7 : g5 (72) = ia ca 49 (upd fd k (nI (tnN fb))) := by rw [hg5]; exact va_up_self _ _ _
          have e8 : g5 (71) = .inr (6, [.ref (ad 8), .ref (ad 6), .ref (ad 72)]) := (hk6 _ (by omega)).trans e1
          have e9 : g5 (1) = .inr (3, [.ref (ad (1 + 1)), .ref (ad (1 + 2))]) := (hk6 _ (by omega)).trans e2
          have e10 : g5 (1 + 1) = na ca 510 (pw) := (hk6 _ (by omega)).trans e3
          have e11 : g5 (1 + 2) = na ca 256 (ex) := (hk6 _ (by omega)).trans e4
          have hs12 : ∀ z, (z < 6 ∨ 70 < z) ∧ z ≠ 72 → g5 z = g z := fun z hz => (hk6 z (by omega)).trans (hsL12 z hz)
          refine lv_aload_n C.1 C.2.1 dX6_of_41 rfl (lv_at hl 0 rfl) ?_
          refine k_get C F hw (71) (by omega) e8 rfl in_X6 2 (by decide) fl_X6_19 rfl dX6_of_42 ?_
          refine lv_iload_n C.1 C.2.1 dX6_of_45 rfl (lv_at hl 1 rfl) ?_
          refine k_ialdR C F hw (72) (by omega) e7 (k) (by omega) (by decide) dX6_of_46 ?_
          have hWk : WkWf ca ad g5 := by obtain ⟨L9, T9, s9, hE9, hB9⟩ := hW9; exact ⟨L9, T9, s9, EqAt.keep hE9 hk6 (by omega), hB9⟩
          have hPk : PkWf ca ad g5 := by obtain ⟨v9, pl9, hK9⟩ := hK9; exact ⟨v9, pl9, PkAt.keep hK9 hk6 (by omega)⟩
          exact hret H locs ls _ _ _ dX6_of_47 hw (⟨hs12, by rw [upd_self], hWk, hPk, _, e7, by rw [upd_self], fun j hj => upd_ne hj⟩)
        · refine lv_aload_n C.1 C.2.1 dX6_of_19 rfl (lv_at hl 0 rfl) ?_
          refine lv_iload_n C.1 C.2.1 dX6_of_20 rfl (lv_at hl 1 rfl) ?_
          refine lv_iload_n C.1 C.2.1 dX6_of_21 rfl (lv_at hl 2 rfl) ?_
          have hF13 : FieldAt ca ad gL 1 pw ex := ⟨e2, e3, e4⟩
          obtain ⟨L9, T9, s9, hE9, hB9⟩ := hW9
          obtain ⟨v9, pl9, hK9⟩ := hK9
          refine k_Vi C F hw (i := 71) (As := [.int (nI k), .int (nI t)]) (rest := []) (c_X6_fillsRank pw ex hF13 hX hP hR L9 T9 s9 hE9 hB9 v9 pl9 hK9 e1 k t hk hc16) (by omega) e1 rfl (cwV _ C.2.2.2.2 gm_X6_29 rfl rfl rfl cd_X6_fillsRank ⟨by decide, by decide⟩) hl.1 rfl (Nat.le_of_ble_eq_true rfl) dX6_of_22 ⟨by decide, by decide⟩ (fun r14 g15 H locs hp hw => ?_)
          obtain ⟨hs16, hr9, hW9, hK9⟩ := hp
          rw [hfb t s9 pl9 hB9 hc16] at hr9
          subst hr9
          have e17 : g15 (71) = .inr (6, [.ref (ad 8), .ref (ad 6), .ref (ad 72)]) := (hs16 _ (by omega)).trans e1
          have e18 : g15 (72) = ia ca 49 (fd) := (hs16 _ (by omega)).trans eL12_0
          have e19 : g15 (1) = .inr (3, [.ref (ad (1 + 1)), .ref (ad (1 + 2))]) := (hs16 _ (by omega)).trans e2
          have e20 : g15 (1 + 1) = na ca 510 (pw) := (hs16 _ (by omega)).trans e3
          have e21 : g15 (1 + 2) = na ca 256 (ex) := (hs16 _ (by omega)).trans e4
          have hs22 : ∀ z, (z < 6 ∨ 70 < z) ∧ z ≠ 72 → g15 z = g z := fun z hz => (hs16 z (by omega)).trans (hsL12 z hz)
          refine k_bne (tgt := 34) C dX6_of_25 (by decide) (fun hc25 => ?_) (fun hc25 => ?_)
          · have htt : t = tnN fb := tn_hit hrun (by omega) hc25
            refine lv_aload_n C.1 C.2.1 dX6_of_34 rfl (lv_at hl 0 rfl) ?_
            refine k_get C F hw (71) (by omega) e17 rfl in_X6 2 (by decide) fl_X6_19 rfl dX6_of_35 ?_
            refine lv_iload_n C.1 C.2.1 dX6_of_38 rfl (lv_at hl 1 rfl) ?_
            refine lv_iload_n C.1 C.2.1 dX6_of_39 rfl (lv_at hl 2 rfl) ?_
            refine k_ti (x' := nI (tnN fb)) (by rw [htt]) ?_
            refine k_iastR C F hw (72) (by omega) e18 (k) (nI (tnN fb)) (by omega) (by decide) dX6_of_40 (fun H locs hw => ?_)
            have hw : Wd D (AA R ad sz) s R ad (va_up g15 (72) (ia ca 49 (upd fd k (nI (tnN fb))))) H locs := hw
            obtain ⟨g23, hg23⟩ : ∃ z, z = va_up g15 (72) (ia ca 49 (upd fd k (nI (tnN fb)))) := ⟨_, rfl⟩
            rw [← hg23] at hw
            have hk24 : ∀ z, z ≠ 72 → g23 z = g15 z := fun z hz => by rw [hg23]; exact va_up_ne _ _ hz
            have e25 : g23 (72) = ia ca 49 (upd fd k (nI (tnN fb))) := by rw [hg23]; exact va_up_self _ _ _
            have e26 : g23 (71) = .inr (6, [.ref (ad 8), .ref (ad 6), .ref (ad 72)]) := (hk24 _ (by omega)).trans e17
            have e27 : g23 (1) = .inr (3, [.ref (ad (1 + 1)), .ref (ad (1 + 2))]) := (hk24 _ (by omega)).trans e19
            have e28 : g23 (1 + 1) = na ca 510 (pw) := (hk24 _ (by omega)).trans e20
            have e29 : g23 (1 + 2) = na ca 256 (ex) := (hk24 _ (by omega)).trans e21
            have hs30 : ∀ z, (z < 6 ∨ 70 < z) ∧ z ≠ 72 → g23 z = g z := fun z hz => (hk24 z (by omega)).trans (hs22 z hz)
            refine lv_aload_n C.1 C.2.1 dX6_of_41 rfl (lv_at hl 0 rfl) ?_
            refine k_get C F hw (71) (by omega) e26 rfl in_X6 2 (by decide) fl_X6_19 rfl dX6_of_42 ?_
            refine lv_iload_n C.1 C.2.1 dX6_of_45 rfl (lv_at hl 1 rfl) ?_
            refine k_ialdR C F hw (72) (by omega) e25 (k) (by omega) (by decide) dX6_of_46 ?_
            have hWk : WkWf ca ad g23 := by obtain ⟨L9, T9, s9, hE9, hB9⟩ := hW9; exact ⟨L9, T9, s9, EqAt.keep hE9 hk24 (by omega), hB9⟩
            have hPk : PkWf ca ad g23 := by obtain ⟨v9, pl9, hK9⟩ := hK9; exact ⟨v9, pl9, PkAt.keep hK9 hk24 (by omega)⟩
            exact hret H locs ls _ _ _ dX6_of_47 hw (⟨hs30, by rw [upd_self], hWk, hPk, _, e25, by rw [upd_self], fun j hj => upd_ne hj⟩)
          · refine k_inc C (t + 1) (lv' := [(2, .int (nI (t + 1))), (0, .ref (ad 71)), (1, .int (nI k))]) dX6_of_28 hl (k := 2) rfl (inc1 _) (by decide) rfl (fun ls hl => ?_)
            refine lv_goto (tgt := 12) C.1 C.2.1 dX6_of_31 (by decide) ?_
            exact ih12 (t + 1) g15 H locs ls (by omega) (by omega) (tn_go hrun (by omega) hc25) hW9 hK9 hs22 e18 hw (lv_sub hl [1, 2, 0] rfl)
    exact loop12 _ 0 g H locs ls (Nat.le_refl _) (by omega) rfl hW hK (fun z _ => rfl) eD hw (lv_sub hl [1, 2, 0] rfl)
