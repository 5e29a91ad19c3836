/-! ===== constructors: field, turns, catcher, desk, model ===== -/
theorem FieldAt.ext {ca : Nat → ClassId} {ad ad1 : Nat → Nat} {g g1 : Nat → va_E} {R : Nat} {pw ex : Nat → Nat} (hk : ∀ i, i < R → ad1 i = ad i) (hg : ∀ i, 1 ≤ i → i < R → g1 i = g i) (hb : 4 ≤ R) (h : FieldAt ca ad g 1 pw ex) : FieldAt ca ad1 g1 1 pw ex := by
  exact ⟨by rw [hg 1 (by omega) (by omega), h.1, hk (1 + 1) (by omega), hk (1 + 2) (by omega)], (hg _ (by omega) (by omega)).trans h.2.1, (hg _ (by omega) (by omega)).trans h.2.2⟩
theorem TpAt.ext {ca : Nat → ClassId} {ad ad1 : Nat → Nat} {g g1 : Nat → va_E} {R : Nat} {len : Nat} {h0 : Nat → Nat} (hk : ∀ i, i < R → ad1 i = ad i) (hg : ∀ i, 4 ≤ i → i < R → g1 i = g i) (hb : 6 ≤ R) (h : TpAt ca ad g len h0) : TpAt ca ad1 g1 len h0 := by
  exact ⟨by rw [hg 4 (by omega) (by omega), h.1, hk (4 + 1) (by omega)], (hg _ (by omega) (by omega)).trans h.2⟩
theorem PkAt.ext {ca : Nat → ClassId} {ad ad1 : Nat → Nat} {g g1 : Nat → va_E} {R : Nat} {v : Nat} {pl : Nat → Nat} (hk : ∀ i, i < R → ad1 i = ad i) (hg : ∀ i, 6 ≤ i → i < R → g1 i = g i) (hb : 8 ≤ R) (h : PkAt ca ad g 6 v pl) : PkAt ca ad1 g1 6 v pl := by
  exact ⟨by rw [hg 6 (by omega) (by omega), h.1, hk (6 + 1) (by omega)], (hg _ (by omega) (by omega)).trans h.2⟩
theorem EqAt.ext {ca : Nat → ClassId} {ad ad1 : Nat → Nat} {g g1 : Nat → va_E} {R : Nat} {b L T0 rk : Nat} {M : Nat → Nat → Nat} {ld : Nat → Bool} {ln : Nat → Nat} (hk : ∀ i, i < R → ad1 i = ad i) (hg : ∀ i, b ≤ i → i < R → g1 i = g i) (hb : 1 ≤ b ∧ b + 63 ≤ R) (h : EqAt ca ad g b 1 L T0 rk M ld ln) : EqAt ca ad1 g1 b 1 L T0 rk M ld ln := by
  exact ⟨by rw [hg b (by omega) (by omega), h.1, hk 1 (by omega), hk (b + 1) (by omega), hk (b + 61) (by omega), hk (b + 62) (by omega)], by rw [hg (b + 1) (by omega) (by omega), h.2.1]; exact qa_keep (fun i hi => hk _ (by omega)), fun p hp => (hg _ (by omega) (by omega)).trans (h.2.2.1 p hp), (hg _ (by omega) (by omega)).trans h.2.2.2.1, (hg _ (by omega) (by omega)).trans h.2.2.2.2⟩
theorem BlkAt.ext {ca : Nat → ClassId} {ad ad1 : Nat → Nat} {g g1 : Nat → va_E} {R : Nat} {bk bt btn : Nat} {BM : Nat → Nat → Nat} (hk : ∀ i, i < R → ad1 i = ad i) (hg : ∀ i, 73 ≤ i → i < R → g1 i = g i) (hb : 134 ≤ R) (h : BlkAt ca ad g bk bt btn BM) : BlkAt ca ad1 g1 bk bt btn BM := by
  exact ⟨by rw [hg 73 (by omega) (by omega), h.1, hk 74 (by omega)], by rw [hg 74 (by omega) (by omega), h.2.1]; exact qa_keep (fun i hi => hk _ (by omega)), fun p hp => (hg _ (by omega) (by omega)).trans (h.2.2 p hp)⟩
def TrAt (ca : Nat → ClassId) (ad : Nat → Nat) (g : Nat → va_E) (fd : Nat → Int32) : Prop := g 71 = .inr (6, [.ref (ad 8), .ref (ad 6), .ref (ad 72)]) ∧ g 72 = ia ca 49 fd
theorem TrAt.ext {ca : Nat → ClassId} {ad ad1 : Nat → Nat} {g g1 : Nat → va_E} {R : Nat} {fd : Nat → Int32} (hk : ∀ i, i < R → ad1 i = ad i) (hg : ∀ i, 71 ≤ i → i < R → g1 i = g i) (hb : 73 ≤ R) (h : TrAt ca ad g fd) : TrAt ca ad1 g1 fd := by
  exact ⟨by rw [hg 71 (by omega) (by omega), h.1, hk 8 (by omega), hk 6 (by omega), hk 72 (by omega)], (hg _ (by omega) (by omega)).trans h.2⟩
theorem Wd.recell {D : va_G} {A : Nat → Prop} {s : State} {R : Nat} {ad : Nat → Nat} {g : Nat → va_E} {H : Heap} {locs : List Loc} (hw : Wd D A s R ad g H locs) (r : Nat) {c : ClassId} {a a' : vp_A} (hr : r < R) (he : g r = .inl (c, a)) (hc : vp_cell c a = vp_cell c a') : Wd D A s R ad (va_up g r (.inl (c, a'))) H locs := by
  refine ⟨fun k q hq => ?_, ⟨fun i j x y hx hy e => ?_, fun k q hq => ?_⟩, hw.2.2⟩
  · obtain ⟨hk, rfl⟩ := ww_of hq
    by_cases h : k = r
    · subst h
      rw [va_up_self]
      have h1 := hw.1 k _ (ww_at k hk he)
      show H[ad k]? = some (vp_cell c a')
      rw [← hc]
      exact h1
    · rw [va_up_ne _ _ h]
      exact hw.1 k _ (ww_at k hk rfl)
  · obtain ⟨hi, rfl⟩ := ww_of hx
    obtain ⟨hj, rfl⟩ := ww_of hy
    exact hw.2.1.1 i j _ _ (ww_at i hi rfl) (ww_at j hj rfl) e
  · obtain ⟨hk, rfl⟩ := ww_of hq
    have h9 := hw.2.1.2 k _ (ww_at k hk rfl)
    exact h9
theorem na_cell {N : Nat} {F F' : Nat → Nat} (h : ∀ j, j < N → F j = F' j) (c : ClassId) : vp_cell c (N, .inl (fun j => nI (F j))) = vp_cell c (N, .inl (fun j => nI (F' j))) := by
  show arrV c N (fun j => .int (nI (F j))) = arrV c N (fun j => .int (nI (F' j)))
  unfold arrV
  congr 2
  funext j
  show Value.int (nI (F j.val)) = Value.int (nI (F' j.val))
  rw [h j.val j.isLt]
theorem shl1 : ∀ v, v < 256 → nI v <<< (nI 1 &&& 31) = nI (2 * v) := by decide +kernel
theorem pwG_lo {i : Nat} (h : 2 * pwG i ≤ 255) : 2 * pwG i = pwG (i + 1) := by show _ = xt (pwG i); unfold xt; rw [if_pos (by omega)]
theorem pwG_hi {i : Nat} (h : 255 < 2 * pwG i) : 2 * pwG i ^^^ 285 = pwG (i + 1) := by show _ = xt (pwG i); unfold xt; rw [if_neg (by omega)]

abbrev rm_X3_init : Room := { frames := 1, cells := 2, slots := 766, locals := 40 }

theorem fd_F {F : Nat → Nat} {i : Nat} (h : ∀ j, j < i → F j = pwG j ∧ F (j + 255) = pwG j) (hi : i < 255) : ∀ j, j < i + 1 → va_up (va_up F i (pwG i)) (i + 255) (pwG i) j = pwG j ∧ va_up (va_up F i (pwG i)) (i + 255) (pwG i) (j + 255) = pwG j := fun j hj => by
  by_cases e : j = i
  · subst e
    rw [va_up_self, va_up_ne _ _ (by omega), va_up_self]
    exact ⟨rfl, rfl⟩
  · rw [va_up_ne _ _ (by omega), va_up_ne _ _ e, va_up_ne _ _ (by omega), va_up_ne _ _ (by omega)]
    exact h j (by omega)
theorem fd_G {G : Nat → Nat} {i : Nat} (h : ∀ j, j < i → pwG (G (pwG j)) = pwG j) : ∀ j, j < i + 1 → pwG (va_up G (pwG i) i (pwG j)) = pwG j := fun j hj => by
  by_cases e : pwG j = pwG i
  · rw [e, va_up_self]
  · rw [va_up_ne _ _ e]
    exact h j (by by_cases e2 : j = i; (subst e2; exact absurd rfl e); omega)
theorem fd_G2 {G : Nat → Nat} {i p : Nat} (h : ∀ x, G x ≤ 254) (hi : i < 255) : ∀ x, va_up G p i x ≤ 254 := fun x => by
  by_cases e : x = p
  · subst e; rw [va_up_self]; omega
  · rw [va_up_ne _ _ e]; exact h x
theorem fd_end {F G : Nat → Nat} (h : ∀ j, j < 255 → F j = pwG j ∧ F (j + 255) = pwG j) (h1 : ∀ j, j < 255 → pwG (G (pwG j)) = pwG j) (h2 : ∀ x, G x ≤ 254) : (∀ j, j < 510 → F j = pwG j) ∧ TabOk pwG G := by
  refine ⟨fun j hj => ?_, fun _ => rfl, fun a ha h0 => ?_, h2⟩
  · by_cases e : j < 255
    · exact (h j e).1
    · have := (h (j - 255) (by omega)).2
      rw [show j - 255 + 255 = j by omega] at this
      rw [this, ← pwG_per, show j - 255 + 255 = j by omega]
  · obtain ⟨e, he, rfl⟩ := lg_ex ha h0
    exact h1 e he

set_option maxHeartbeats 800000 in
set_option maxRecDepth 100000 in
/-- X3_init -/
theorem c_X3_init {l : Launch} {D : va_G} {ca : Nat → ClassId} {tB tS : Nat} {ad : Nat → Nat} {g : Nat → va_E} {sz : Nat} (e0 : g 1 = .inr (3, [.null, .null])) : MN l yX3_init cX3_init 3 rm_X3_init D ca tB tS 2 4 ad g sz [.ref (ad 1)] 2 766 (fun ad1 g1 => (∀ i, i < 2 → ad1 i = ad i) ∧ (∀ i, i < 2 ∧ i ≠ 1 → g1 i = g i) ∧ ∃ ex, TabOk pwG ex ∧ FieldAt ca ad1 g1 1 pwG ex) := by
  refine m_startN (by decide +kernel) (Nat.le_of_ble_eq_true rfl) (fun p e s m args below meth c ls Q hsz C hnm hl F hAO hw hret => ?_)
  have hl : lv_has ls 3 [(0, .ref (ad 1))] := hl
  generalize s.heap = H at hw ⊢
  generalize ([] : List Loc) = locs at hw ⊢
  refine lv_aload_n C.1 C.2.1 dX3_init_0 rfl (lv_at hl 0 rfl) ?_
  refine k_obj C lo_X3 hl.1 (Nat.le_of_ble_eq_true rfl) dX3_init_1 (Nat.le_of_ble_eq_true rfl) (Nat.le_of_ble_eq_true rfl) ?_
  refine lv_aload_n C.1 C.2.1 dX3_init_4 rfl (lv_at hl 0 rfl) ?_
  refine k_sip C 510 dX3_init_5 (by decide) ?_
  refine k_newI C F hw 510 (by decide) (Nat.le_of_ble_eq_true rfl) (Nat.le_of_ble_eq_true rfl) dX3_init_8 (fun ad1 g1 H hk1 hg1 eN1 hw => ?_)
  rw [← hk1 1 (by decide)]
  rw [← hk1 1 (by decide)] at hl
  have e2 : g1 1 = .inr (3, [.null, .null]) := (hg1 1 (by decide)).trans e0
  have hka3 : ∀ i, i < 2 → ad1 i = ad i := fun i hi => hk1 i hi
  have hs4 : ∀ z, (z < 2 ∧ z ≠ 1) → g1 z = g z := fun z hz => (hg1 z (by omega)).trans ((fun z _ => rfl) z hz)
  have hw : Wd D (AA 2 ad sz) s 3 ad1 g1 H locs := hw
  refine k_putF C F hw (1) (by omega) e2 rfl in_X3 tyX3_ok nmX3 hnm 0 (by decide) rfl fl_X3_9 rfl (v := .ref (ad1 2)) rfl rfl (Nat.le_of_ble_eq_true rfl) dX3_init_10 (fun H locs hw => ?_)
  have hw : Wd D (AA 2 ad sz) s 3 ad1 (va_up g1 (1) (.inr (3, [.ref (ad1 2), .null]))) H locs := hw
  obtain ⟨g5, hg5⟩ : ∃ z, z = va_up g1 (1) (.inr (3, [.ref (ad1 2), .null])) := ⟨_, rfl⟩
  rw [← hg5] at hw
  have hk6 : ∀ z, z ≠ 1 → g5 z = g1 z := fun z hz => by rw [hg5]; exact va_up_ne _ _ hz
  have e7 : g5 (1) = .inr (3, [.ref (ad1 2), .null]) := by rw [hg5]; exact va_up_self _ _ _
  have e8 : g5 (2) = na ca 510 (fun _ => 0) := (hk6 _ (by omega)).trans eN1
  have hs9 : ∀ z, (z < 2 ∧ z ≠ 1) → g5 z = g z := fun z hz => (hk6 z (by omega)).trans (hs4 z hz)
  refine lv_aload_n C.1 C.2.1 dX3_init_13 rfl (lv_at hl 0 rfl) ?_
  refine k_sip C 256 dX3_init_14 (by decide) ?_
  refine k_newI C F hw 256 (by decide) (Nat.le_of_ble_eq_true rfl) (Nat.le_of_ble_eq_true rfl) dX3_init_17 (fun ad10 g10 H hk10 hg10 eN10 hw => ?_)
  rw [← hk10 1 (by decide)]
  rw [← hk10 1 (by decide)] at hl
  have e11 : g10 1 = .inr (3, [.ref (ad10 2), .null]) := by rw [hg10 1 (by decide), e7, hk10 2 (by decide)]
  have e12 : g10 2 = na ca 510 (fun _ => 0) := (hg10 2 (by decide)).trans e8
  have hka13 : ∀ i, i < 2 → ad10 i = ad i := fun i hi => (hk10 i (by omega)).trans (hka3 i hi)
  have hs14 : ∀ z, (z < 2 ∧ z ≠ 1) → g10 z = g z := fun z hz => (hg10 z (by omega)).trans (hs9 z hz)
  have hw : Wd D (AA 2 ad sz) s 4 ad10 g10 H locs := hw
  refine k_putF C F hw (1) (by omega) e11 rfl in_X3 tyX3_ok nmX3 hnm 1 (by decide) rfl fl_X3_13 rfl (v := .ref (ad10 3)) rfl rfl (Nat.le_of_ble_eq_true rfl) dX3_init_19 (fun H locs hw => ?_)
  have hw : Wd D (AA 2 ad sz) s 4 ad10 (va_up g10 (1) (.inr (3, [.ref (ad10 2), .ref (ad10 3)]))) H locs := hw
  obtain ⟨g15, hg15⟩ : ∃ z, z = va_up g10 (1) (.inr (3, [.ref (ad10 2), .ref (ad10 3)])) := ⟨_, rfl⟩
  rw [← hg15] at hw
  have hk16 : ∀ z, z ≠ 1 → g15 z = g10 z := fun z hz => by rw [hg15]; exact va_up_ne _ _ hz
  have e17 : g15 (1) = .inr (3, [.ref (ad10 2), .ref (ad10 3)]) := by rw [hg15]; exact va_up_self _ _ _
  have e18 : g15 (2) = na ca 510 (fun _ => 0) := (hk16 _ (by omega)).trans e12
  have e19 : g15 (3) = na ca 256 (fun _ => 0) := (hk16 _ (by omega)).trans eN10
  have hs20 : ∀ z, (z < 2 ∧ z ≠ 1) → g15 z = g z := fun z hz => (hk16 z (by omega)).trans (hs14 z hz)
  refine k_icn C 1 dX3_init_22 (by decide) ?_
  refine lv_istore_n (lv' := [(1, .int (nI 1)), (0, .ref (ad10 1))]) C.1 C.2.1 dX3_init_23 rfl hl (by decide) rfl (fun ls hl => ?_)
  refine k_icn C 0 dX3_init_24 (by decide) ?_
  refine lv_istore_n (lv' := [(2, .int (nI 0)), (1, .int (nI 1)), (0, .ref (ad10 1))]) C.1 C.2.1 dX3_init_25 rfl hl (by decide) rfl (fun ls hl => ?_)
  have loop26 : ∀ (fuel : Nat) (i : Nat) (F1 : Nat → Nat) (G1 : Nat → Nat) (gL : Nat → va_E) (H : Heap) (locs : List Loc) (ls : Array Slot), ((255 - i) + 1 ≤ fuel) → (i ≤ 255) → (∀ j, j < i → F1 j = pwG j ∧ F1 (j + 255) = pwG j) → (∀ j, j < i → pwG (G1 (pwG j)) = pwG j) → (∀ x, G1 x ≤ 254) → (∀ z, (z < 2 ∧ z ≠ 1) → gL z = g z) → (gL (1) = .inr (3, [.ref (ad10 2), .ref (ad10 3)])) → (gL (2) = na ca 510 (F1)) → (gL (3) = na ca 256 (G1)) → Wd D (AA 2 ad sz) s 4 ad10 gL H locs → lv_has ls 3 [(0, .ref (ad10 1)), (1, .int (nI (pwG i))), (2, .int (nI i))] → W p l e rm_X3_init s m args below meth c H locs 2 766 Q (F0 m 26 ls []) := by
    intro fuel
    induction fuel with
    | zero =>
      intro i F1 G1 gL H locs ls hfu26
      exact absurd hfu26 (by omega)
    | succ fuel26 ih26 =>
      intro i F1 G1 gL H locs ls hfu26 hi hF hG hG2 hsL26 eL26_0 eL26_1 eL26_2 hw hl
      have hpl := pwG_lt i
      refine lv_iload_n C.1 C.2.1 dX3_init_26 rfl (lv_at hl 2 rfl) ?_
      refine k_sip C 255 dX3_init_27 (by decide) ?_
      refine k_ige (tgt := 81) C dX3_init_30 (by decide) (by omega) (by omega) (fun hc30 => ?_) (fun hc30 => ?_)
      · obtain ⟨hq1, hq2⟩ := fd_end (fun j hj => hF j (by omega)) (fun j hj => hG j (by omega)) hG2
        have hw := hw.recell 2 (a' := (510, .inl (fun j => nI (pwG j)))) (by decide) eL26_1 (na_cell hq1 _)
        have hz : ∀ z, z ≠ 2 → va_up gL 2 (na ca 510 pwG) z = gL z := fun z hz => va_up_ne _ _ hz
        exact hret H locs ls _ _ _ dX3_init_81 hw (⟨hka13, (fun z h9 => (hz z (by omega)).trans (hsL26 z h9)), G1, hq2, (hz 1 (by decide)).trans eL26_0, va_up_self _ _ _, (hz 3 (by decide)).trans eL26_2⟩)
      · refine lv_aload_n C.1 C.2.1 dX3_init_33 rfl (lv_at hl 0 rfl) ?_
        refine k_get C F hw (1) (by omega) eL26_0 rfl in_X3 0 (by decide) fl_X3_9 rfl dX3_init_34 ?_
        refine lv_iload_n C.1 C.2.1 dX3_init_37 rfl (lv_at hl 2 rfl) ?_
        refine lv_iload_n C.1 C.2.1 dX3_init_38 rfl (lv_at hl 1 rfl) ?_
        refine k_iast C F hw (2) (by omega) eL26_1 (i) (pwG i) (by omega) (by decide) dX3_init_39 (fun H locs hw => ?_)
        have hw : Wd D (AA 2 ad sz) s 4 ad10 (va_up gL (2) (na ca 510 (va_up F1 i (pwG i)))) H locs := hw
        obtain ⟨g21, hg21⟩ : ∃ z, z = va_up gL (2) (na ca 510 (va_up F1 i (pwG i))) := ⟨_, rfl⟩
        rw [← hg21] at hw
        have hk22 : ∀ z, z ≠ 2 → g21 z = gL z := fun z hz => by rw [hg21]; exact va_up_ne _ _ hz
        have e23 : g21 (2) = na ca 510 (va_up F1 i (pwG i)) := by rw [hg21]; exact va_up_self _ _ _
        have e24 : g21 (1) = .inr (3, [.ref (ad10 2), .ref (ad10 3)]) := (hk22 _ (by omega)).trans eL26_0
        have e25 : g21 (3) = na ca 256 (G1) := (hk22 _ (by omega)).trans eL26_2
        have hs26 : ∀ z, (z < 2 ∧ z ≠ 1) → g21 z = g z := fun z hz => (hk22 z (by omega)).trans (hsL26 z hz)
        refine lv_aload_n C.1 C.2.1 dX3_init_40 rfl (lv_at hl 0 rfl) ?_
        refine k_get C F hw (1) (by omega) e24 rfl in_X3 0 (by decide) fl_X3_9 rfl dX3_init_41 ?_
        refine lv_iload_n C.1 C.2.1 dX3_init_44 rfl (lv_at hl 2 rfl) ?_
        refine k_sip C 255 dX3_init_45 (by decide) ?_
        refine k_add C dX3_init_48 ?_
        refine lv_iload_n C.1 C.2.1 dX3_init_49 rfl (lv_at hl 1 rfl) ?_
        refine k_iast C F hw (2) (by omega) e23 (i + 255) (pwG i) (by omega) (by decide) dX3_init_50 (fun H locs hw => ?_)
        have hw : Wd D (AA 2 ad sz) s 4 ad10 (va_up g21 (2) (na ca 510 (va_up (va_up F1 i (pwG i)) (i + 255) (pwG i)))) H locs := hw
        obtain ⟨g27, hg27⟩ : ∃ z, z = va_up g21 (2) (na ca 510 (va_up (va_up F1 i (pwG i)) (i + 255) (pwG i))) := ⟨_, rfl⟩
        rw [← hg27] at hw
        have hk28 : ∀ z, z ≠ 2 → g27 z = g21 z := fun z hz => by rw [hg27]; exact va_up_ne _ _ hz
        have e29 : g27 (2) = na ca 510 (va_up (va_up F1 i (pwG i)) (i + 255) (pwG i)) := by rw [hg27]; exact va_up_self _ _ _
        have e30 : g27 (1) = .inr (3, [.ref (ad10 2), .ref (ad10 3)]) := (hk28 _ (by omega)).trans e24
        have e31 : g27 (3) = na ca 256 (G1) := (hk28 _ (by omega)).trans e25
        have hs32 : ∀ z, (z < 2 ∧ z ≠ 1) → g27 z = g z := fun z hz => (hk28 z (by omega)).trans (hs26 z hz)
        refine lv_aload_n C.1 C.2.1 dX3_init_51 rfl (lv_at hl 0 rfl) ?_
        refine k_get C F hw (1) (by omega) e30 rfl in_X3 1 (by decide) fl_X3_13 rfl dX3_init_52 ?_
        refine lv_iload_n C.1 C.2.1 dX3_init_55 rfl (lv_at hl 1 rfl) ?_
        refine lv_iload_n C.1 C.2.1 dX3_init_56 rfl (lv_at hl 2 rfl) ?_
        refine k_iast C F hw (3) (by omega) e31 (pwG i) (i) (by omega) (by decide) dX3_init_57 (fun H locs hw => ?_)
        have hw : Wd D (AA 2 ad sz) s 4 ad10 (va_up g27 (3) (na ca 256 (va_up G1 (pwG i) i))) H locs := hw
        obtain ⟨g33, hg33⟩ : ∃ z, z = va_up g27 (3) (na ca 256 (va_up G1 (pwG i) i)) := ⟨_, rfl⟩
        rw [← hg33] at hw
        have hk34 : ∀ z, z ≠ 3 → g33 z = g27 z := fun z hz => by rw [hg33]; exact va_up_ne _ _ hz
        have e35 : g33 (3) = na ca 256 (va_up G1 (pwG i) i) := by rw [hg33]; exact va_up_self _ _ _
        have e36 : g33 (1) = .inr (3, [.ref (ad10 2), .ref (ad10 3)]) := (hk34 _ (by omega)).trans e30
        have e37 : g33 (2) = na ca 510 (va_up (va_up F1 i (pwG i)) (i + 255) (pwG i)) := (hk34 _ (by omega)).trans e29
        have hs38 : ∀ z, (z < 2 ∧ z ≠ 1) → g33 z = g z := fun z hz => (hk34 z (by omega)).trans (hs32 z hz)
        refine lv_iload_n C.1 C.2.1 dX3_init_58 rfl (lv_at hl 1 rfl) ?_
        refine k_icn C 1 dX3_init_59 (by decide) ?_
        refine lv_ishl C.1 C.2.1 dX3_init_60 ?_
        refine k_ti (x' := nI (2 * pwG i)) (shl1 _ (by omega)) ?_
        refine lv_istore_n (lv' := [(1, .int (nI (2 * pwG i))), (0, .ref (ad10 1)), (2, .int (nI i))]) C.1 C.2.1 dX3_init_61 rfl hl (by decide) rfl (fun ls hl => ?_)
        refine lv_iload_n C.1 C.2.1 dX3_init_62 rfl (lv_at hl 0 rfl) ?_
        refine k_sip C 255 dX3_init_63 (by decide) ?_
        refine k_ile (tgt := 75) C dX3_init_66 (by decide) (by omega) (by omega) (fun hc66 => ?_) (fun hc66 => ?_)
        · have hv9 := pwG_lo hc66
          rw [hv9] at hl
          refine k_inc C (i + 1) (lv' := [(2, .int (nI (i + 1))), (1, .int (nI (pwG (i + 1)))), (0, .ref (ad10 1))]) dX3_init_75 hl (k := 2) rfl (inc1 _) (by decide) rfl (fun ls hl => ?_)
          refine lv_goto (tgt := 26) C.1 C.2.1 dX3_init_78 (by decide) ?_
          exact ih26 (i + 1) (va_up (va_up F1 i (pwG i)) (i + 255) (pwG i)) (va_up G1 (pwG i) i) g33 H locs ls (by omega) (by omega) (fd_F hF (by omega)) (fd_G hG) (fd_G2 hG2 (by omega)) hs38 e36 e37 e35 hw (lv_sub hl [2, 1, 0] rfl)
        · refine lv_iload_n C.1 C.2.1 dX3_init_69 rfl (lv_at hl 0 rfl) ?_
          refine k_sip C 285 dX3_init_70 (by decide) ?_
          refine k_xor C dX3_init_73 ?_
          refine k_ti (x' := nI (pwG (i + 1))) (congrArg nI (pwG_hi (by omega))) ?_
          refine lv_istore_n (lv' := [(1, .int (nI (pwG (i + 1)))), (0, .ref (ad10 1)), (2, .int (nI i))]) C.1 C.2.1 dX3_init_74 rfl hl (by decide) rfl (fun ls hl => ?_)
          refine k_inc C (i + 1) (lv' := [(2, .int (nI (i + 1))), (1, .int (nI (pwG (i + 1)))), (0, .ref (ad10 1))]) dX3_init_75 hl (k := 2) rfl (inc1 _) (by decide) rfl (fun ls hl => ?_)
          refine lv_goto (tgt := 26) C.1 C.2.1 dX3_init_78 (by decide) ?_
          exact ih26 (i + 1) (va_up (va_up F1 i (pwG i)) (i + 255) (pwG i)) (va_up G1 (pwG i) i) g33 H locs ls (by omega) (by omega) (fd_F hF (by omega)) (fd_G hG) (fd_G2 hG2 (by omega)) hs38 e36 e37 e35 hw (lv_sub hl [2, 1, 0] rfl)
  exact loop26 _ 0 (fun _ => 0) (fun _ => 0) g15 H locs ls (Nat.le_refl _) (by omega) (fun j hj => absurd hj (Nat.not_lt_zero _)) (fun j hj => absurd hj (Nat.not_lt_zero _)) (fun x => Nat.zero_le _) hs20 e17 e18 e19 hw (lv_sub hl [2, 1, 0] rfl)

abbrev rm_X6_init : Room := { frames := 1, cells := 1, slots := 49, locals := 40 }

set_option maxHeartbeats 800000 in
set_option maxRecDepth 100000 in
/-- X6_init -/
theorem c_X6_init {l : Launch} {D : va_G} {ca : Nat → ClassId} {tB tS : Nat} {ad : Nat → Nat} {g : Nat → va_E} {sz : Nat} (e0 : g 71 = .inr (6, [.null, .null, .null])) : MN l yX6_init cX6_init 3 rm_X6_init D ca tB tS 72 73 ad g sz [.ref (ad 71), .ref (ad 8), .ref (ad 6)] 1 49 (fun ad1 g1 => (∀ i, i < 72 → ad1 i = ad i) ∧ (∀ i, i < 72 ∧ i ≠ 71 → g1 i = g i) ∧ ∃ fd, (∀ k, 1 ≤ k → k ≤ 48 → fd k = -1) ∧ TrAt ca ad1 g1 fd) := by
  refine m_startN (by decide +kernel) (Nat.le_of_ble_eq_true rfl) (fun p e s m args below meth c ls Q hsz C hnm hl F hAO hw hret => ?_)
  have hl : lv_has ls 3 [(0, .ref (ad 71)), (1, .ref (ad 8)), (2, .ref (ad 6))] := hl
  generalize s.heap = H at hw ⊢
  generalize ([] : List Loc) = locs at hw ⊢
  refine lv_aload_n C.1 C.2.1 dX6_init_0 rfl (lv_at hl 0 rfl) ?_
  refine k_obj C lo_X6 hl.1 (Nat.le_of_ble_eq_true rfl) dX6_init_1 (Nat.le_of_ble_eq_true rfl) (Nat.le_of_ble_eq_true rfl) ?_
  refine lv_aload_n C.1 C.2.1 dX6_init_4 rfl (lv_at hl 0 rfl) ?_
  refine lv_aload_n C.1 C.2.1 dX6_init_5 rfl (lv_at hl 1 rfl) ?_
  refine k_putF C F hw (71) (by omega) e0 rfl in_X6 tyX6_ok nmX6 hnm 0 (by decide) rfl fl_X6_9 rfl (v := .ref (ad 8)) rfl rfl (Nat.le_of_ble_eq_true rfl) dX6_init_6 (fun H locs hw => ?_)
  have hw : Wd D (AA 72 ad sz) s 72 ad (va_up g (71) (.inr (6, [.ref (ad 8), .null, .null]))) H locs := hw
  obtain ⟨g1, hg1⟩ : ∃ z, z = va_up g (71) (.inr (6, [.ref (ad 8), .null, .null])) := ⟨_, rfl⟩
  rw [← hg1] at hw
  have hk2 : ∀ z, z ≠ 71 → g1 z = g z := fun z hz => by rw [hg1]; exact va_up_ne _ _ hz
  have e3 : g1 (71) = .inr (6, [.ref (ad 8), .null, .null]) := by rw [hg1]; exact va_up_self _ _ _
  have hs4 : ∀ z, (z < 72 ∧ z ≠ 71) → g1 z = g z := fun z hz => hk2 z (by omega)
  refine lv_aload_n C.1 C.2.1 dX6_init_9 rfl (lv_at hl 0 rfl) ?_
  refine lv_aload_n C.1 C.2.1 dX6_init_10 rfl (lv_at hl 2 rfl) ?_
  refine k_putF C F hw (71) (by omega) e3 rfl in_X6 tyX6_ok nmX6 hnm 1 (by decide) rfl fl_X6_15 rfl (v := .ref (ad 6)) rfl rfl (Nat.le_of_ble_eq_true rfl) dX6_init_11 (fun H locs hw => ?_)
  have hw : Wd D (AA 72 ad sz) s 72 ad (va_up g1 (71) (.inr (6, [.ref (ad 8), .ref (ad 6), .null]))) H locs := hw
  obtain ⟨g5, hg5⟩ : ∃ z, z = va_up g1 (71) (.inr (6, [.ref (ad 8), .ref (ad 6), .null])) := ⟨_, rfl⟩
  rw [← hg5] at hw
  have hk6 : ∀ z, z ≠ 71 → g5 z = g1 z := fun z hz => by rw [hg5]; exact va_up_ne _ _ hz
  have e7 : g5 (71) = .inr (6, [.ref (ad 8), .ref (ad 6), .null]) := by rw [hg5]; exact va_up_self _ _ _
  have hs8 : ∀ z, (z < 72 ∧ z ≠ 71) → g5 z = g z := fun z hz => (hk6 z (by omega)).trans (hs4 z hz)
  refine lv_aload_n C.1 C.2.1 dX6_init_14 rfl (lv_at hl 0 rfl) ?_
  refine k_bip C 49 dX6_init_15 (by decide) ?_
  refine k_newI C F hw 49 (by decide) (Nat.le_of_ble_eq_true rfl) (Nat.le_of_ble_eq_true rfl) dX6_init_17 (fun ad9 g9 H hk9 hg9 eN9 hw => ?_)
  rw [← hk9 71 (by decide)]
  rw [← hk9 6 (by decide)] at hl
  rw [← hk9 8 (by decide)] at hl
  rw [← hk9 71 (by decide)] at hl
  have e10 : g9 71 = .inr (6, [.ref (ad9 8), .ref (ad9 6), .null]) := by rw [hg9 71 (by decide), e7, hk9 6 (by decide), hk9 8 (by decide)]
  have hka11 : ∀ i, i < 72 → ad9 i = ad i := fun i hi => hk9 i hi
  have hs12 : ∀ z, (z < 72 ∧ z ≠ 71) → g9 z = g z := fun z hz => (hg9 z (by omega)).trans (hs8 z hz)
  have hw : Wd D (AA 72 ad sz) s 73 ad9 g9 H locs := hw
  refine k_putF C F hw (71) (by omega) e10 rfl in_X6 tyX6_ok nmX6 hnm 2 (by decide) rfl fl_X6_19 rfl (v := .ref (ad9 72)) rfl rfl (Nat.le_of_ble_eq_true rfl) dX6_init_19 (fun H locs hw => ?_)
  have hw : Wd D (AA 72 ad sz) s 73 ad9 (va_up g9 (71) (.inr (6, [.ref (ad9 8), .ref (ad9 6), .ref (ad9 72)]))) H locs := hw
  obtain ⟨g13, hg13⟩ : ∃ z, z = va_up g9 (71) (.inr (6, [.ref (ad9 8), .ref (ad9 6), .ref (ad9 72)])) := ⟨_, rfl⟩
  rw [← hg13] at hw
  have hk14 : ∀ z, z ≠ 71 → g13 z = g9 z := fun z hz => by rw [hg13]; exact va_up_ne _ _ hz
  have e15 : g13 (71) = .inr (6, [.ref (ad9 8), .ref (ad9 6), .ref (ad9 72)]) := by rw [hg13]; exact va_up_self _ _ _
  have e16 : g13 (72) = na ca 49 (fun _ => 0) := (hk14 _ (by omega)).trans eN9
  have hs17 : ∀ z, (z < 72 ∧ z ≠ 71) → g13 z = g z := fun z hz => (hk14 z (by omega)).trans (hs12 z hz)
  refine lv_aload_n C.1 C.2.1 dX6_init_22 rfl (lv_at hl 0 rfl) ?_
  refine k_get C F hw (71) (by omega) e15 rfl in_X6 2 (by decide) fl_X6_19 rfl dX6_init_23 ?_
  refine lv_iconst (v := -1) C.1 C.2.1 dX6_init_26 (by decide) ?_
  refine k_Sv C F hw (As := [.ref (ad9 72), .int (-1)]) (rest := []) (c_J7_fill_53178R 72 49 (-1) (fun _ => nI 0) (by decide) (by decide) e16) (va_cwS _ C.2.2.2.2 gm_X6_23 rfl rfl rfl cd_J7_fill_53178.2 ⟨by decide, by decide⟩) hl.1 rfl (Nat.le_of_ble_eq_true rfl) dX6_init_27 ⟨by decide, by decide⟩ (fun g19 H locs hp hw => ?_)
  obtain ⟨hk20, e21⟩ := hp
  have e22 : g19 (71) = .inr (6, [.ref (ad9 8), .ref (ad9 6), .ref (ad9 72)]) := (hk20 _ (by omega)).trans e15
  have hs23 : ∀ z, (z < 72 ∧ z ≠ 71) → g19 z = g z := fun z hz => (hk20 z (by omega)).trans (hs17 z hz)
  exact hret H locs ls _ _ _ dX6_init_30 hw (⟨hka11, hs23, _, (fun k h1 h2 => if_pos (by omega)), e22, e21⟩)

abbrev rm_X1_init : Room := { frames := 2, cells := 63, slots := 4625, locals := 61 }

set_option maxHeartbeats 800000 in
set_option maxRecDepth 100000 in
/-- X1_init -/
theorem c_X1_init {l : Launch} {D : va_G} {ca : Nat → ClassId} {tB tS : Nat} {ad : Nat → Nat} {g : Nat → va_E} {sz : Nat} (e0 : g 134 = .inr (1, [.null, .int (nI 0), .int (nI 0), .int (nI 0), .int (nI 0)])) : MN l yX1_init cX1_init 2 rm_X1_init D ca tB tS 135 198 ad g sz [.ref (ad 134), .ref (ad 1)] 63 4625 (fun ad1 g1 => (∀ i, i < 135 → ad1 i = ad i) ∧ (∀ i, i < 135 ∧ i ≠ 134 → g1 i = g i) ∧ CtAt ca ad1 g1 0 0 0 0 ∧ EqAt ca ad1 g1 135 1 0 0 0 (fun _ _ => 0) (fun _ => false) (fun _ => 0)) := by
  refine m_startN (by decide +kernel) (Nat.le_of_ble_eq_true rfl) (fun p e s m args below meth c ls Q hsz C hnm hl F hAO hw hret => ?_)
  have hl : lv_has ls 2 [(0, .ref (ad 134)), (1, .ref (ad 1))] := hl
  generalize s.heap = H at hw ⊢
  generalize ([] : List Loc) = locs at hw ⊢
  refine lv_aload_n C.1 C.2.1 dX1_init_0 rfl (lv_at hl 0 rfl) ?_
  refine k_obj C lo_X1 hl.1 (Nat.le_of_ble_eq_true rfl) dX1_init_1 (Nat.le_of_ble_eq_true rfl) (Nat.le_of_ble_eq_true rfl) ?_
  refine lv_aload_n C.1 C.2.1 dX1_init_4 rfl (lv_at hl 0 rfl) ?_
  refine k_new (ci := 2) C F hw in_X2 tyX2_ok kl_X1_9 ki_X2 wi_X2 rfl [.null, .null, .null, .null, .int (nI 0), .int (nI 0), .int (nI 0)] (by intro j hj; exact df_X2 j hj) (Nat.le_of_ble_eq_true rfl) (Nat.le_of_ble_eq_true rfl) dX1_init_5 (fun ad1 g1 H hk1 hg1 eN1 hw => ?_)
  rw [← hk1 134 (by decide)]
  rw [← hk1 1 (by decide)] at hl
  rw [← hk1 134 (by decide)] at hl
  have e2 : g1 134 = .inr (1, [.null, .int (nI 0), .int (nI 0), .int (nI 0), .int (nI 0)]) := (hg1 134 (by decide)).trans e0
  have hka3 : ∀ i, i < 135 → ad1 i = ad i := fun i hi => hk1 i hi
  have hs4 : ∀ z, (z < 135 ∧ z ≠ 134) → g1 z = g z := fun z hz => (hg1 z (by omega)).trans ((fun z _ => rfl) z hz)
  have hw : Wd D (AA 135 ad sz) s 136 ad1 g1 H locs := hw
  refine lv_dup C.1 C.2.1 dX1_init_8 rfl ?_
  refine lv_aload_n C.1 C.2.1 dX1_init_9 rfl (lv_at hl 1 rfl) ?_
  refine k_I C F hAO hw (i := 135) (As := [.ref (ad1 1)]) (rest := [.ref (ad1 135), .ref (ad1 134)]) (c_X2_init_135 eN1) (cwI 1 C.2.2.2.2 (good_g cw_X2_init) rfl rfl rfl (C.2.2.2.2 _ wi_X2) (C.2.2.2.2 _ gl_X1_11) (C.2.2.2.2 _ gi_X1_11) rfl cd_X2_init.2 ⟨Nat.le_of_ble_eq_true rfl, Nat.le_of_ble_eq_true rfl⟩) hl.1 rfl (Nat.le_of_ble_eq_true rfl) dX1_init_10 ⟨Nat.le_of_ble_eq_true rfl, Nat.le_of_ble_eq_true rfl⟩ (fun ad5 g5 H locs hp hw => ?_)
  obtain ⟨hk5, hg5, hp⟩ := hp
  have hh5 : ∀ i, i < 135 → g5 i = g1 i := fun i hi => hg5 i ⟨by omega, by omega⟩
  rw [← hk5 134 (by decide)]
  rw [← hk5 135 (by decide)]
  rw [← hk5 1 (by decide)] at hl
  rw [← hk5 134 (by decide)] at hl
  have e6 : g5 134 = .inr (1, [.null, .int (nI 0), .int (nI 0), .int (nI 0), .int (nI 0)]) := (hh5 134 (by decide)).trans e2
  have hka7 : ∀ i, i < 135 → ad5 i = ad i := fun i hi => (hk5 i (by omega)).trans (hka3 i hi)
  have hs8 : ∀ z, (z < 135 ∧ z ≠ 134) → g5 z = g z := fun z hz => (hh5 z (by omega)).trans (hs4 z hz)
  have hw : Wd D (AA 135 ad sz) s 198 ad5 g5 H locs := hw
  refine k_putF C F hw (134) (by omega) e6 rfl in_X1 tyX1_ok nmX1 hnm 0 (by decide) rfl fl_X1_14 rfl (v := .ref (ad5 135)) rfl rfl (Nat.le_of_ble_eq_true rfl) dX1_init_13 (fun H locs hw => ?_)
  have hw : Wd D (AA 135 ad sz) s 198 ad5 (va_up g5 (134) (.inr (1, [.ref (ad5 135), .int (nI 0), .int (nI 0), .int (nI 0), .int (nI 0)]))) H locs := hw
  obtain ⟨g9, hg9⟩ : ∃ z, z = va_up g5 (134) (.inr (1, [.ref (ad5 135), .int (nI 0), .int (nI 0), .int (nI 0), .int (nI 0)])) := ⟨_, rfl⟩
  rw [← hg9] at hw
  have hk10 : ∀ z, z ≠ 134 → g9 z = g5 z := fun z hz => by rw [hg9]; exact va_up_ne _ _ hz
  have e11 : g9 (134) = .inr (1, [.ref (ad5 135), .int (nI 0), .int (nI 0), .int (nI 0), .int (nI 0)]) := by rw [hg9]; exact va_up_self _ _ _
  have hs12 : ∀ z, (z < 135 ∧ z ≠ 134) → g9 z = g z := fun z hz => (hk10 z (by omega)).trans (hs8 z hz)
  have hf13 : EqAt ca ad5 g9 135 1 0 0 0 (fun _ _ => 0) (fun _ => false) (fun _ => 0) := EqAt.ext (R := 198) (fun _ _ => rfl) (fun i h1 _ => hk10 i (by omega)) (by decide) hp
  refine lv_aload_n C.1 C.2.1 dX1_init_16 rfl (lv_at hl 0 rfl) ?_
  refine k_icn C 0 dX1_init_17 (by decide) ?_
  refine k_put C F hw (134) (by omega) e11 rfl in_X1 tyX1_ok nmX1 1 (by decide) fl_X1_20 rfl (v := .int (nI 0)) rfl rfl (Nat.le_of_ble_eq_true rfl) dX1_init_18 (fun H locs hw => ?_)
  have hw : Wd D (AA 135 ad sz) s 198 ad5 (va_up g9 (134) (.inr (1, [.ref (ad5 135), .int (nI 0), .int (nI 0), .int (nI 0), .int (nI 0)]))) H locs := hw
  obtain ⟨g14, hg14⟩ : ∃ z, z = va_up g9 (134) (.inr (1, [.ref (ad5 135), .int (nI 0), .int (nI 0), .int (nI 0), .int (nI 0)])) := ⟨_, rfl⟩
  rw [← hg14] at hw
  have hk15 : ∀ z, z ≠ 134 → g14 z = g9 z := fun z hz => by rw [hg14]; exact va_up_ne _ _ hz
  have e16 : g14 (134) = .inr (1, [.ref (ad5 135), .int (nI 0), .int (nI 0), .int (nI 0), .int (nI 0)]) := by rw [hg14]; exact va_up_self _ _ _
  have hs17 : ∀ z, (z < 135 ∧ z ≠ 134) → g14 z = g z := fun z hz => (hk15 z (by omega)).trans (hs12 z hz)
  have hf18 : EqAt ca ad5 g14 135 1 0 0 0 (fun _ _ => 0) (fun _ => false) (fun _ => 0) := EqAt.ext (R := 198) (fun _ _ => rfl) (fun i h1 _ => hk15 i (by omega)) (by decide) hf13
  refine lv_aload_n C.1 C.2.1 dX1_init_21 rfl (lv_at hl 0 rfl) ?_
  refine k_icn C 0 dX1_init_22 (by decide) ?_
  refine k_put C F hw (134) (by omega) e16 rfl in_X1 tyX1_ok nmX1 2 (by decide) fl_X1_24 rfl (v := .int (nI 0)) rfl rfl (Nat.le_of_ble_eq_true rfl) dX1_init_23 (fun H locs hw => ?_)
  have hw : Wd D (AA 135 ad sz) s 198 ad5 (va_up g14 (134) (.inr (1, [.ref (ad5 135), .int (nI 0), .int (nI 0), .int (nI 0), .int (nI 0)]))) H locs := hw
  obtain ⟨g19, hg19⟩ : ∃ z, z = va_up g14 (134) (.inr (1, [.ref (ad5 135), .int (nI 0), .int (nI 0), .int (nI 0), .int (nI 0)])) := ⟨_, rfl⟩
  rw [← hg19] at hw
  have hk20 : ∀ z, z ≠ 134 → g19 z = g14 z := fun z hz => by rw [hg19]; exact va_up_ne _ _ hz
  have e21 : g19 (134) = .inr (1, [.ref (ad5 135), .int (nI 0), .int (nI 0), .int (nI 0), .int (nI 0)]) := by rw [hg19]; exact va_up_self _ _ _
  have hs22 : ∀ z, (z < 135 ∧ z ≠ 134) → g19 z = g z := fun z hz => (hk20 z (by omega)).trans (hs17 z hz)
  have hf23 : EqAt ca ad5 g19 135 1 0 0 0 (fun _ _ => 0) (fun _ => false) (fun _ => 0) := EqAt.ext (R := 198) (fun _ _ => rfl) (fun i h1 _ => hk20 i (by omega)) (by decide) hf18
  refine lv_aload_n C.1 C.2.1 dX1_init_26 rfl (lv_at hl 0 rfl) ?_
  refine k_icn C 0 dX1_init_27 (by decide) ?_
  refine k_put C F hw (134) (by omega) e21 rfl in_X1 tyX1_ok nmX1 3 (by decide) fl_X1_27 rfl (v := .int (nI 0)) rfl rfl (Nat.le_of_ble_eq_true rfl) dX1_init_28 (fun H locs hw => ?_)
  have hw : Wd D (AA 135 ad sz) s 198 ad5 (va_up g19 (134) (.inr (1, [.ref (ad5 135), .int (nI 0), .int (nI 0), .int (nI 0), .int (nI 0)]))) H locs := hw
  obtain ⟨g24, hg24⟩ : ∃ z, z = va_up g19 (134) (.inr (1, [.ref (ad5 135), .int (nI 0), .int (nI 0), .int (nI 0), .int (nI 0)])) := ⟨_, rfl⟩
  rw [← hg24] at hw
  have hk25 : ∀ z, z ≠ 134 → g24 z = g19 z := fun z hz => by rw [hg24]; exact va_up_ne _ _ hz
  have e26 : g24 (134) = .inr (1, [.ref (ad5 135), .int (nI 0), .int (nI 0), .int (nI 0), .int (nI 0)]) := by rw [hg24]; exact va_up_self _ _ _
  have hs27 : ∀ z, (z < 135 ∧ z ≠ 134) → g24 z = g z := fun z hz => (hk25 z (by omega)).trans (hs22 z hz)
  have hf28 : EqAt ca ad5 g24 135 1 0 0 0 (fun _ _ => 0) (fun _ => false) (fun _ => 0) := EqAt.ext (R := 198) (fun _ _ => rfl) (fun i h1 _ => hk25 i (by omega)) (by decide) hf23
  refine lv_aload_n C.1 C.2.1 dX1_init_31 rfl (lv_at hl 0 rfl) ?_
  refine k_icn C 0 dX1_init_32 (by decide) ?_
  refine k_put C F hw (134) (by omega) e26 rfl in_X1 tyX1_ok nmX1 4 (by decide) fl_X1_30 rfl (v := .int (nI 0)) rfl rfl (Nat.le_of_ble_eq_true rfl) dX1_init_33 (fun H locs hw => ?_)
  have hw : Wd D (AA 135 ad sz) s 198 ad5 (va_up g24 (134) (.inr (1, [.ref (ad5 135), .int (nI 0), .int (nI 0), .int (nI 0), .int (nI 0)]))) H locs := hw
  obtain ⟨g29, hg29⟩ : ∃ z, z = va_up g24 (134) (.inr (1, [.ref (ad5 135), .int (nI 0), .int (nI 0), .int (nI 0), .int (nI 0)])) := ⟨_, rfl⟩
  rw [← hg29] at hw
  have hk30 : ∀ z, z ≠ 134 → g29 z = g24 z := fun z hz => by rw [hg29]; exact va_up_ne _ _ hz
  have e31 : g29 (134) = .inr (1, [.ref (ad5 135), .int (nI 0), .int (nI 0), .int (nI 0), .int (nI 0)]) := by rw [hg29]; exact va_up_self _ _ _
  have hs32 : ∀ z, (z < 135 ∧ z ≠ 134) → g29 z = g z := fun z hz => (hk30 z (by omega)).trans (hs27 z hz)
  have hf33 : EqAt ca ad5 g29 135 1 0 0 0 (fun _ _ => 0) (fun _ => false) (fun _ => 0) := EqAt.ext (R := 198) (fun _ _ => rfl) (fun i h1 _ => hk30 i (by omega)) (by decide) hf28
  exact hret H locs ls _ _ _ dX1_init_36 hw (⟨hka7, hs32, e31, hf33⟩)
