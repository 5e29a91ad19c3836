/-! ===== PacketRow.find, greatest ===== -/
def pkStep (L P st : Nat) (s : (Nat → Nat) × Nat × Nat) : (Nat → Nat) × Nat × Nat := (if s.2.2 < L then va_up s.1 s.2.1 s.2.2 else s.1, if s.2.2 < L then s.2.1 + 1 else s.2.1, (s.2.2 + st) % P)
def pkRun (L P st d : Nat) : Nat → (Nat → Nat) × Nat × Nat → (Nat → Nat) × Nat × Nat
  | 0, s => s
  | n + 1, s => if s.2.1 < d then pkRun L P st d n (pkStep L P st s) else s
noncomputable def pkD (k x t : Nat) : Nat := min (szN (chN (x + 65536 * t) 0 1000)) (k + 11)
noncomputable def pkA (k x t : Nat) : Nat := chN (x + 65536 * t) 2 (lpN (k + 11))
noncomputable def pkT (k x t : Nat) : Nat := 1 + chN (x + 65536 * t) 1 (lpN (k + 11) - 1)
theorem pkO_ex : ∃ f : Nat → Nat → Nat → (Nat → Nat) → (Nat → Nat) × Nat × Nat, ∀ k x t p0, f k x t p0 = pkRun (k + 11) (lpN (k + 11)) (pkT k x t) (pkD k x t) (lpN (k + 11)) (p0, 0, pkA k x t) := ⟨_, fun _ _ _ _ => rfl⟩
/-- by choice, so that nothing unfolds it unasked -/
noncomputable def pkOut : Nat → Nat → Nat → (Nat → Nat) → (Nat → Nat) × Nat × Nat := Classical.choose pkO_ex
theorem pkOut_eq (k x t : Nat) (p0 : Nat → Nat) : pkOut k x t p0 = pkRun (k + 11) (lpN (k + 11)) (pkT k x t) (pkD k x t) (lpN (k + 11)) (p0, 0, pkA k x t) := Classical.choose_spec pkO_ex k x t p0
theorem pk_stop {L P st d n : Nat} {s : (Nat → Nat) × Nat × Nat} (h : d ≤ s.2.1) : pkRun L P st d n s = s := by
  cases n with
  | zero => rfl
  | succ n => unfold pkRun; rw [if_neg (by omega)]
theorem pk_go {L P st d i : Nat} {s o : (Nat → Nat) × Nat × Nat} (h : pkRun L P st d (P - i) s = o) (hi : i < P) (hd : s.2.1 < d) : pkRun L P st d (P - (i + 1)) (pkStep L P st s) = o := by
  rw [show P - i = (P - (i + 1)) + 1 by omega] at h
  unfold pkRun at h
  rw [if_pos hd] at h
  exact h
theorem szN_le (v : Nat) : szN v ≤ 40 := by unfold szN; (repeat' split) <;> omega
theorem szN_pos (v : Nat) : 1 ≤ szN v := by unfold szN; (repeat' split) <;> omega
theorem chN_lt (y s : Nat) {m : Nat} (h : 0 < m) : chN y s m < m := by rw [chN_eq]; exact Nat.mod_lt _ h
def gtN (pl : Nat → Nat) (n : Nat) : Int32 := fr (fun i m => if m < nI (pl i) then nI (pl i) else m) n (-1)

abbrev rm_X4_find : Room := { frames := 2, cells := 0, slots := 0, locals := 47 }

set_option maxHeartbeats 800000 in
set_option maxRecDepth 100000 in
/-- PacketRow.find -/
theorem c_X4_find {l : Launch} {D : va_G} {ca : Nat → ClassId} {tB tS R : Nat} {ad : Nat → Nat} {g : Nat → va_E} {sz : Nat} (po k x t s0 : Nat) (p0 : Nat → Nat) (hR : po + 1 < R) (hk : 1 ≤ k ∧ k ≤ 48) (hx : x < 65536) (ht : t ≤ 1000) (eO : g po = .inr (4, [.ref (ad (po + 1)), .int (nI s0)])) (eP : g (po + 1) = na ca 59 p0) : MV l yX4_find cX4_find 12 rm_X4_find D ca tB tS R ad g sz [.ref (ad po), .int (nI k), .int (nI x), .int (nI t)] (fun g1 => (∀ z, z ≠ po ∧ z ≠ po + 1 → g1 z = g z) ∧ g1 po = .inr (4, [.ref (ad (po + 1)), .int (nI (pkOut k x t p0).2.1)]) ∧ g1 (po + 1) = na ca 59 (pkOut k x t p0).1) := by
  refine m_startV (by decide +kernel) (Nat.le_of_ble_eq_true rfl) (fun p e s m args below meth c ls Q hsz C hnm hl F hw hret => ?_)
  have hl : lv_has ls 12 [(0, .ref (ad po)), (1, .int (nI k)), (2, .int (nI x)), (3, .int (nI t))] := hl
  generalize s.heap = H at hw ⊢
  generalize ([] : List Loc) = locs at hw ⊢
  obtain ⟨t1, t2, t3, t4, -⟩ := lp_tab (k + 11) (by omega) (by omega)
  refine lv_iload_n C.1 C.2.1 dX4_find_0 rfl (lv_at hl 1 rfl) ?_
  refine k_bip C 11 dX4_find_1 (by decide) ?_
  refine k_add C dX4_find_3 ?_
  refine lv_istore (lv' := [(4, .int (nI (k + 11))), (0, .ref (ad po)), (1, .int (nI k)), (2, .int (nI x)), (3, .int (nI t))]) C.1 C.2.1 dX4_find_4 hl (by decide) rfl (fun ls hl => ?_)
  refine lv_iload_n C.1 C.2.1 dX4_find_6 rfl (lv_at hl 3 rfl) ?_
  refine lv_i2l C.1 C.2.1 dX4_find_7 rfl ?_
  refine lv_ldc2 (v := 65536) C.1 C.2.1 C.2.2.2.1 (C.2.2.2.2 _ kc_X4_19) dX4_find_8 ?_
  refine lv_iload_n C.1 C.2.1 dX4_find_11 rfl (lv_at hl 4 rfl) ?_
  refine lv_i2l C.1 C.2.1 dX4_find_12 rfl ?_
  refine lv_lmul C.1 C.2.1 dX4_find_13 ?_
  refine lv_ladd C.1 C.2.1 dX4_find_14 ?_
  refine k_tl (x' := lN (x + 65536 * t)) (by rw [nI_l (by omega), nI_l (by omega), show (65536 : Int64) = lN 65536 from by decide, lN_mul, lN_add]) ?_
  refine lv_lstore (lv' := [(5, .long (lN (x + 65536 * t))), (4, .int (nI (k + 11))), (0, .ref (ad po)), (1, .int (nI k)), (2, .int (nI x)), (3, .int (nI t))]) C.1 C.2.1 dX4_find_15 hl (by decide) rfl (fun ls hl => ?_)
  refine lv_lload C.1 C.2.1 dX4_find_17 (lv_at hl 0 rfl) ?_
  refine k_icn C 0 dX4_find_19 (by decide) ?_
  refine k_sip C 1000 dX4_find_20 (by decide) ?_
  refine k_Si C F hw (As := [.long (lN (x + 65536 * t)), .int (nI 0), .int (nI 1000)]) (rest := []) (c_X4_chance (x + 65536 * t) 0 (1000) (by decide) (by omega) (by omega)) (va_cwS _ C.2.2.2.2 gm_X4_21 rfl rfl rfl cd_X4_chance.2 ⟨by decide, by decide⟩) hl.1 rfl (Nat.le_of_ble_eq_true rfl) dX4_find_23 ⟨by decide, by decide⟩ (fun r1 g2 H locs hp hw => ?_)
  obtain ⟨hr9, hg9⟩ := hp
  rw [hg9] at hw
  subst hr9
  have hch0 := chN_lt (x + 65536 * t) 0 (show 0 < 1000 by omega)
  refine k_Si C F hw (As := [.int (nI (chN (x + 65536 * t) 0 (1000)))]) (rest := []) (c_X4_sizeFor (chN (x + 65536 * t) 0 1000) hch0) (va_cwS _ C.2.2.2.2 gm_X4_25 rfl rfl rfl cd_X4_sizeFor.2 ⟨by decide, by decide⟩) hl.1 rfl (Nat.le_of_ble_eq_true rfl) dX4_find_26 ⟨by decide, by decide⟩ (fun r3 g4 H locs hp hw => ?_)
  obtain ⟨hr9, hg9⟩ := hp
  rw [hg9] at hw
  subst hr9
  have hsz1 := szN_le (chN (x + 65536 * t) 0 1000)
  refine lv_iload C.1 C.2.1 dX4_find_29 (lv_at hl 1 rfl) ?_
  refine k_Si C F hw (As := [.int (nI (szN (chN (x + 65536 * t) 0 1000))), .int (nI (k + 11))]) (rest := []) (c_J9_min_7cf53 (szN (chN (x + 65536 * t) 0 1000)) (k + 11) (by omega) (by omega)) (va_cwS _ C.2.2.2.2 gm_X4_29 rfl rfl rfl cd_J9_min_7cf53.2 ⟨by decide, by decide⟩) hl.1 rfl (Nat.le_of_ble_eq_true rfl) dX4_find_31 ⟨by decide, by decide⟩ (fun r5 g6 H locs hp hw => ?_)
  obtain ⟨hr9, hg9⟩ := hp
  rw [hg9] at hw
  subst hr9
  have hD1 : pkD k x t ≤ 59 := by unfold pkD; omega
  refine k_ti (x' := nI (pkD k x t)) rfl ?_
  refine lv_istore (lv' := [(7, .int (nI (pkD k x t))), (5, .long (lN (x + 65536 * t))), (4, .int (nI (k + 11))), (0, .ref (ad po)), (1, .int (nI k)), (2, .int (nI x)), (3, .int (nI t))]) C.1 C.2.1 dX4_find_34 hl (by decide) rfl (fun ls hl => ?_)
  refine lv_iload C.1 C.2.1 dX4_find_36 (lv_at hl 2 rfl) ?_
  refine k_Si C F hw (As := [.int (nI (k + 11))]) (rest := []) (c_X4_leastPrimeFrom (k + 11) (by omega) (by omega)) (va_cwS _ C.2.2.2.2 gm_X4_35 rfl rfl rfl cd_X4_leastPrimeFrom.2 ⟨by decide, by decide⟩) hl.1 rfl (Nat.le_of_ble_eq_true rfl) dX4_find_38 ⟨by decide, by decide⟩ (fun r7 g8 H locs hp hw => ?_)
  obtain ⟨hr9, hg9⟩ := hp
  rw [hg9] at hw
  subst hr9
  refine lv_istore (lv' := [(8, .int (nI (lpN (k + 11)))), (7, .int (nI (pkD k x t))), (5, .long (lN (x + 65536 * t))), (4, .int (nI (k + 11))), (0, .ref (ad po)), (1, .int (nI k)), (2, .int (nI x)), (3, .int (nI t))]) C.1 C.2.1 dX4_find_41 hl (by decide) rfl (fun ls hl => ?_)
  refine lv_lload C.1 C.2.1 dX4_find_43 (lv_at hl 2 rfl) ?_
  refine k_icn C 2 dX4_find_45 (by decide) ?_
  refine lv_iload C.1 C.2.1 dX4_find_46 (lv_at hl 0 rfl) ?_
  refine k_Si C F hw (As := [.long (lN (x + 65536 * t)), .int (nI 2), .int (nI (lpN (k + 11)))]) (rest := []) (c_X4_chance (x + 65536 * t) 2 (lpN (k + 11)) (by decide) (by omega) (by omega)) (va_cwS _ C.2.2.2.2 gm_X4_21 rfl rfl rfl cd_X4_chance.2 ⟨by decide, by decide⟩) hl.1 rfl (Nat.le_of_ble_eq_true rfl) dX4_find_48 ⟨by decide, by decide⟩ (fun r9 g10 H locs hp hw => ?_)
  obtain ⟨hr9, hg9⟩ := hp
  rw [hg9] at hw
  subst hr9
  have hch2 := chN_lt (x + 65536 * t) 2 (show 0 < lpN (k + 11) by omega)
  refine k_ti (x' := nI (pkA k x t)) (rfl) ?_
  refine lv_istore (lv' := [(9, .int (nI (pkA k x t))), (8, .int (nI (lpN (k + 11)))), (7, .int (nI (pkD k x t))), (5, .long (lN (x + 65536 * t))), (4, .int (nI (k + 11))), (0, .ref (ad po)), (1, .int (nI k)), (2, .int (nI x)), (3, .int (nI t))]) C.1 C.2.1 dX4_find_51 hl (by decide) rfl (fun ls hl => ?_)
  refine k_icn C 1 dX4_find_53 (by decide) ?_
  refine lv_lload C.1 C.2.1 dX4_find_54 (lv_at hl 3 rfl) ?_
  refine k_icn C 1 dX4_find_56 (by decide) ?_
  refine lv_iload C.1 C.2.1 dX4_find_57 (lv_at hl 1 rfl) ?_
  refine k_icn C 1 dX4_find_59 (by decide) ?_
  refine k_sub C dX4_find_60 (by omega) ?_
  refine k_Si C F hw (As := [.long (lN (x + 65536 * t)), .int (nI 1), .int (nI ((lpN (k + 11)) - 1))]) (rest := [.int (nI 1)]) (c_X4_chance (x + 65536 * t) 1 (lpN (k + 11) - 1) (by decide) (by omega) (by omega)) (va_cwS _ C.2.2.2.2 gm_X4_21 rfl rfl rfl cd_X4_chance.2 ⟨by decide, by decide⟩) hl.1 rfl (Nat.le_of_ble_eq_true rfl) dX4_find_61 ⟨by decide, by decide⟩ (fun r11 g12 H locs hp hw => ?_)
  obtain ⟨hr9, hg9⟩ := hp
  rw [hg9] at hw
  subst hr9
  have hch1 := chN_lt (x + 65536 * t) 1 (show 0 < lpN (k + 11) - 1 by omega)
  refine k_add C dX4_find_64 ?_
  refine k_ti (x' := nI (pkT k x t)) (rfl) ?_
  have hA1 : pkA k x t < lpN (k + 11) := hch2
  have hT1 : pkT k x t < 100 := by unfold pkT; omega
  refine lv_istore (lv' := [(10, .int (nI (pkT k x t))), (9, .int (nI (pkA k x t))), (8, .int (nI (lpN (k + 11)))), (7, .int (nI (pkD k x t))), (5, .long (lN (x + 65536 * t))), (4, .int (nI (k + 11))), (0, .ref (ad po)), (1, .int (nI k)), (2, .int (nI x)), (3, .int (nI t))]) C.1 C.2.1 dX4_find_65 hl (by decide) rfl (fun ls hl => ?_)
  refine lv_aload_n C.1 C.2.1 dX4_find_67 rfl (lv_at hl 6 rfl) ?_
  refine k_icn C 0 dX4_find_68 (by decide) ?_
  refine k_put C F hw (po) (by omega) eO rfl in_X4 tyX4_ok nmX4 1 (by decide) fl_X4_15 rfl (v := .int (nI 0)) rfl rfl (Nat.le_of_ble_eq_true rfl) dX4_find_69 (fun H locs hw => ?_)
  have hw : Wd D (AA R ad sz) s R ad (va_up g (po) (.inr (4, [.ref (ad (po + 1)), .int (nI 0)]))) H locs := hw
  obtain ⟨g13, hg13⟩ : ∃ z, z = va_up g (po) (.inr (4, [.ref (ad (po + 1)), .int (nI 0)])) := ⟨_, rfl⟩
  rw [← hg13] at hw
  have hk14 : ∀ z, z ≠ po → g13 z = g z := fun z hz => by rw [hg13]; exact va_up_ne _ _ hz
  have e15 : g13 (po) = .inr (4, [.ref (ad (po + 1)), .int (nI 0)]) := by rw [hg13]; exact va_up_self _ _ _
  have e16 : g13 (po + 1) = na ca 59 (p0) := (hk14 _ (by omega)).trans eP
  have hs17 : ∀ z, z ≠ po ∧ z ≠ (po + 1) → g13 z = g z := fun z hz => hk14 z (by omega)
  refine k_icn C 0 dX4_find_72 (by decide) ?_
  refine lv_istore (lv' := [(11, .int (nI 0)), (10, .int (nI (pkT k x t))), (9, .int (nI (pkA k x t))), (8, .int (nI (lpN (k + 11)))), (7, .int (nI (pkD k x t))), (5, .long (lN (x + 65536 * t))), (4, .int (nI (k + 11))), (0, .ref (ad po)), (1, .int (nI k)), (2, .int (nI x)), (3, .int (nI t))]) C.1 C.2.1 dX4_find_73 hl (by decide) rfl (fun ls hl => ?_)
  have loop75 : ∀ (fuel : Nat) (i : Nat) (a : Nat) (pl : Nat → Nat) (v : Nat) (gL : Nat → va_E) (H : Heap) (locs : List Loc) (ls : Array Slot), ((lpN (k + 11) - i) + 1 ≤ fuel) → (i ≤ lpN (k + 11)) → (a < lpN (k + 11)) → (v ≤ pkD k x t) → (pkRun (k + 11) (lpN (k + 11)) (pkT k x t) (pkD k x t) (lpN (k + 11) - i) (pl, v, a) = pkOut k x t p0) → (∀ z, z ≠ po ∧ z ≠ (po + 1) → gL z = g z) → (gL (po) = .inr (4, [.ref (ad (po + 1)), .int (nI v)])) → (gL (po + 1) = na ca 59 (pl)) → Wd D (AA R ad sz) s R ad gL H locs → lv_has ls 12 [(0, .ref (ad po)), (1, .int (nI k)), (2, .int (nI x)), (3, .int (nI t)), (4, .int (nI (k + 11))), (5, .long (lN (x + 65536 * t))), (7, .int (nI (pkD k x t))), (8, .int (nI (lpN (k + 11)))), (9, .int (nI a)), (10, .int (nI (pkT k x t))), (11, .int (nI i))] → W p l e rm_X4_find s m args below meth c H locs 0 0 Q (F0 m 75 ls []) := by
    intro fuel
    induction fuel with
    | zero =>
      intro i a pl v gL H locs ls hfu75
      exact absurd hfu75 (by omega)
    | succ fuel75 ih75 =>
      intro i a pl v gL H locs ls hfu75 hi ha hv hrun hsL75 eL75_0 eL75_1 hw hl
      refine lv_iload C.1 C.2.1 dX4_find_75 (lv_at hl 10 rfl) ?_
      refine lv_iload C.1 C.2.1 dX4_find_77 (lv_at hl 7 rfl) ?_
      refine k_ige (tgt := 135) C dX4_find_79 (by decide) (by omega) (by omega) (fun hc79 => ?_) (fun hc79 => ?_)
      · have ho : (pl, v, a) = pkOut k x t p0 := by rw [show lpN (k + 11) - i = 0 by omega] at hrun; exact hrun
        exact hret H locs ls _ _ dX4_find_135 hw (⟨hsL75, by rw [eL75_0, ← ho], by rw [eL75_1, ← ho]⟩)
      · refine lv_aload_n C.1 C.2.1 dX4_find_82 rfl (lv_at hl 0 rfl) ?_
        refine k_get C F hw (po) (by omega) eL75_0 rfl in_X4 1 (by decide) fl_X4_15 rfl dX4_find_83 ?_
        refine lv_iload C.1 C.2.1 dX4_find_86 (lv_at hl 6 rfl) ?_
        refine k_ige (tgt := 135) C dX4_find_88 (by decide) (by omega) (by omega) (fun hc88 => ?_) (fun hc88 => ?_)
        · have ho : (pl, v, a) = pkOut k x t p0 := by rw [pk_stop (by show pkD k x t ≤ v; omega)] at hrun; exact hrun
          exact hret H locs ls _ _ dX4_find_135 hw (⟨hsL75, by rw [eL75_0, ← ho], by rw [eL75_1, ← ho]⟩)
        · refine lv_iload C.1 C.2.1 dX4_find_91 (lv_at hl 8 rfl) ?_
          refine lv_iload C.1 C.2.1 dX4_find_93 (lv_at hl 4 rfl) ?_
          refine k_ige (tgt := 119) C dX4_find_95 (by decide) (by omega) (by omega) (fun hc95 => ?_) (fun hc95 => ?_)
          · refine lv_iload C.1 C.2.1 dX4_find_119 (lv_at hl 8 rfl) ?_
            refine lv_iload C.1 C.2.1 dX4_find_121 (lv_at hl 9 rfl) ?_
            refine k_add C dX4_find_123 ?_
            refine lv_iload C.1 C.2.1 dX4_find_124 (lv_at hl 7 rfl) ?_
            refine k_rem C dX4_find_126 (by omega) (by omega) (by omega) ?_
            refine lv_istore (lv' := [(9, .int (nI ((a + (pkT k x t)) % (lpN (k + 11))))), (0, .ref (ad po)), (1, .int (nI k)), (2, .int (nI x)), (3, .int (nI t)), (4, .int (nI (k + 11))), (5, .long (lN (x + 65536 * t))), (7, .int (nI (pkD k x t))), (8, .int (nI (lpN (k + 11)))), (10, .int (nI (pkT k x t))), (11, .int (nI i))]) C.1 C.2.1 dX4_find_127 hl (by decide) rfl (fun ls hl => ?_)
            refine k_inc C (i + 1) (lv' := [(11, .int (nI (i + 1))), (9, .int (nI ((a + (pkT k x t)) % (lpN (k + 11))))), (0, .ref (ad po)), (1, .int (nI k)), (2, .int (nI x)), (3, .int (nI t)), (4, .int (nI (k + 11))), (5, .long (lN (x + 65536 * t))), (7, .int (nI (pkD k x t))), (8, .int (nI (lpN (k + 11)))), (10, .int (nI (pkT k x t)))]) dX4_find_129 hl (k := 10) rfl (inc1 _) (by decide) rfl (fun ls hl => ?_)
            refine lv_goto (tgt := 75) C.1 C.2.1 dX4_find_132 (by decide) ?_
            exact ih75 (i + 1) ((a + pkT k x t) % lpN (k + 11)) pl v gL H locs ls (by omega) (by omega) (Nat.mod_lt _ (by omega)) (by omega) (by have h9 := pk_go hrun (by omega) (by show v < _; omega); simpa [pkStep, show ¬ a < k + 11 by omega] using h9) hsL75 eL75_0 eL75_1 hw (lv_sub hl [2, 3, 4, 5, 6, 7, 8, 9, 1, 10, 0] rfl)
          · refine lv_aload_n C.1 C.2.1 dX4_find_98 rfl (lv_at hl 0 rfl) ?_
            refine k_get C F hw (po) (by omega) eL75_0 rfl in_X4 0 (by decide) fl_X4_9 rfl dX4_find_99 ?_
            refine lv_aload_n C.1 C.2.1 dX4_find_102 rfl (lv_at hl 0 rfl) ?_
            refine k_get C F hw (po) (by omega) eL75_0 rfl in_X4 1 (by decide) fl_X4_15 rfl dX4_find_103 ?_
            refine lv_iload C.1 C.2.1 dX4_find_106 (lv_at hl 8 rfl) ?_
            refine k_iast C F hw (po + 1) (by omega) eL75_1 (v) (a) (by omega) (by decide) dX4_find_108 (fun H locs hw => ?_)
            have hw : Wd D (AA R ad sz) s R ad (va_up gL (po + 1) (na ca 59 (va_up pl v a))) H locs := hw
            obtain ⟨g18, hg18⟩ : ∃ z, z = va_up gL (po + 1) (na ca 59 (va_up pl v a)) := ⟨_, rfl⟩
            rw [← hg18] at hw
            have hk19 : ∀ z, z ≠ (po + 1) → g18 z = gL z := fun z hz => by rw [hg18]; exact va_up_ne _ _ hz
            have e20 : g18 (po + 1) = na ca 59 (va_up pl v a) := by rw [hg18]; exact va_up_self _ _ _
            have e21 : g18 (po) = .inr (4, [.ref (ad (po + 1)), .int (nI v)]) := (hk19 _ (by omega)).trans eL75_0
            have hs22 : ∀ z, z ≠ po ∧ z ≠ (po + 1) → g18 z = g z := fun z hz => (hk19 z (by omega)).trans (hsL75 z hz)
            refine lv_aload_n C.1 C.2.1 dX4_find_109 rfl (lv_at hl 0 rfl) ?_
            refine lv_dup C.1 C.2.1 dX4_find_110 rfl ?_
            refine k_get C F hw (po) (by omega) e21 rfl in_X4 1 (by decide) fl_X4_15 rfl dX4_find_111 ?_
            refine k_icn C 1 dX4_find_114 (by decide) ?_
            refine k_add C dX4_find_115 ?_
            refine k_put C F hw (po) (by omega) e21 rfl in_X4 tyX4_ok nmX4 1 (by decide) fl_X4_15 rfl (v := .int (nI (v + 1))) rfl rfl (Nat.le_of_ble_eq_true rfl) dX4_find_116 (fun H locs hw => ?_)
            have hw : Wd D (AA R ad sz) s R ad (va_up g18 (po) (.inr (4, [.ref (ad (po + 1)), .int (nI (v + 1))]))) H locs := hw
            obtain ⟨g23, hg23⟩ : ∃ z, z = va_up g18 (po) (.inr (4, [.ref (ad (po + 1)), .int (nI (v + 1))])) := ⟨_, rfl⟩
            rw [← hg23] at hw
            have hk24 : ∀ z, z ≠ po → g23 z = g18 z := fun z hz => by rw [hg23]; exact va_up_ne _ _ hz
            have e25 : g23 (po) = .inr (4, [.ref (ad (po + 1)), .int (nI (v + 1))]) := by rw [hg23]; exact va_up_self _ _ _
            have e26 : g23 (po + 1) = na ca 59 (va_up pl v a) := (hk24 _ (by omega)).trans e20
            have hs27 : ∀ z, z ≠ po ∧ z ≠ (po + 1) → g23 z = g z := fun z hz => (hk24 z (by omega)).trans (hs22 z hz)
            refine lv_iload C.1 C.2.1 dX4_find_119 (lv_at hl 8 rfl) ?_
            refine lv_iload C.1 C.2.1 dX4_find_121 (lv_at hl 9 rfl) ?_
            refine k_add C dX4_find_123 ?_
            refine lv_iload C.1 C.2.1 dX4_find_124 (lv_at hl 7 rfl) ?_
            refine k_rem C dX4_find_126 (by omega) (by omega) (by omega) ?_
            refine lv_istore (lv' := [(9, .int (nI ((a + (pkT k x t)) % (lpN (k + 11))))), (0, .ref (ad po)), (1, .int (nI k)), (2, .int (nI x)), (3, .int (nI t)), (4, .int (nI (k + 11))), (5, .long (lN (x + 65536 * t))), (7, .int (nI (pkD k x t))), (8, .int (nI (lpN (k + 11)))), (10, .int (nI (pkT k x t))), (11, .int (nI i))]) C.1 C.2.1 dX4_find_127 hl (by decide) rfl (fun ls hl => ?_)
            refine k_inc C (i + 1) (lv' := [(11, .int (nI (i + 1))), (9, .int (nI ((a + (pkT k x t)) % (lpN (k + 11))))), (0, .ref (ad po)), (1, .int (nI k)), (2, .int (nI x)), (3, .int (nI t)), (4, .int (nI (k + 11))), (5, .long (lN (x + 65536 * t))), (7, .int (nI (pkD k x t))), (8, .int (nI (lpN (k + 11)))), (10, .int (nI (pkT k x t)))]) dX4_find_129 hl (k := 10) rfl (inc1 _) (by decide) rfl (fun ls hl => ?_)
            refine lv_goto (tgt := 75) C.1 C.2.1 dX4_find_132 (by decide) ?_
            exact ih75 (i + 1) ((a + pkT k x t) % lpN (k + 11)) (va_up pl v a) (v + 1) g23 H locs ls (by omega) (by omega) (Nat.mod_lt _ (by omega)) (by omega) (by have h9 := pk_go hrun (by omega) (by show v < _; omega); simpa [pkStep, show a < k + 11 by omega] using h9) hs27 e25 e26 hw (lv_sub hl [2, 3, 4, 5, 6, 7, 8, 9, 1, 10, 0] rfl)
  exact loop75 _ 0 (pkA k x t) p0 0 g13 H locs ls (Nat.le_refl _) (by omega) hA1 (by omega) ((pkOut_eq k x t p0).symm) hs17 e15 e16 hw (lv_sub hl [7, 8, 9, 10, 6, 5, 4, 3, 2, 1, 0] rfl)

abbrev rm_X4_greatest : Room := { frames := 1, cells := 0, slots := 0, locals := 21 }

set_option maxHeartbeats 800000 in
set_option maxRecDepth 100000 in
/-- PacketRow.greatest -/
theorem c_X4_greatest {l : Launch} {D : va_G} {ca : Nat → ClassId} {tB tS R : Nat} {ad : Nat → Nat} {g : Nat → va_E} {sz : Nat} (po v : Nat) (pl : Nat → Nat) (hR : po + 1 < R) (hv : v ≤ 59) (eO : g po = .inr (4, [.ref (ad (po + 1)), .int (nI v)])) (eP : g (po + 1) = na ca 59 pl) : MI l yX4_greatest cX4_greatest 3 .int rm_X4_greatest D ca tB tS R ad g sz [.ref (ad po)] (fun r g1 => r = gtN pl v ∧ g1 = g) := by
  refine m_startI (by decide +kernel) (Nat.le_of_ble_eq_true rfl) (fun p e s m args below meth c ls Q hsz C hl F hw hret => ?_)
  have hl : lv_has ls 3 [(0, .ref (ad po))] := hl
  generalize s.heap = H at hw ⊢
  generalize ([] : List Loc) = locs at hw ⊢
  refine lv_iconst (v := -1) C.1 C.2.1 dX4_greatest_0 (by decide) ?_
  refine lv_istore_n (lv' := [(1, .int (-1)), (0, .ref (ad po))]) C.1 C.2.1 dX4_greatest_1 rfl hl (by decide) rfl (fun ls hl => ?_)
  refine k_icn C 0 dX4_greatest_2 (by decide) ?_
  refine lv_istore_n (lv' := [(2, .int (nI 0)), (1, .int (-1)), (0, .ref (ad po))]) C.1 C.2.1 dX4_greatest_3 rfl hl (by decide) rfl (fun ls hl => ?_)
  have loop4 : ∀ (fuel : Nat) (i : Nat) (gL : Nat → va_E) (H : Heap) (locs : List Loc) (ls : Array Slot), ((v - i) + 1 ≤ fuel) → (i ≤ v) → (∀ z, True → gL z = g z) → Wd D (AA R ad sz) s R ad gL H locs → lv_has ls 3 [(0, .ref (ad po)), (1, .int (gtN pl i)), (2, .int (nI i))] → W p l e rm_X4_greatest s m args below meth c H locs 0 0 Q (F0 m 4 ls []) := by
    intro fuel
    induction fuel with
    | zero =>
      intro i gL H locs ls hfu4
      exact absurd hfu4 (by omega)
    | succ fuel4 ih4 =>
      intro i gL H locs ls hfu4 hi hsL4  hw hl
      have e1 : gL (po) = .inr (4, [.ref (ad (po + 1)), .int (nI v)]) := (hsL4 _ trivial).trans eO
      have e2 : gL (po + 1) = na ca 59 (pl) := (hsL4 _ trivial).trans eP
      refine lv_iload_n C.1 C.2.1 dX4_greatest_4 rfl (lv_at hl 2 rfl) ?_
      refine lv_aload_n C.1 C.2.1 dX4_greatest_5 rfl (lv_at hl 0 rfl) ?_
      refine k_get C F hw (po) (by omega) e1 rfl in_X4 1 (by decide) fl_X4_15 rfl dX4_greatest_6 ?_
      refine k_ige (tgt := 29) C dX4_greatest_9 (by decide) (by omega) (by omega) (fun hc9 => ?_) (fun hc9 => ?_)
      · refine lv_iload_n C.1 C.2.1 dX4_greatest_29 rfl (lv_at hl 1 rfl) ?_
        exact hret H locs ls _ _ _ dX4_greatest_30 hw (⟨by rw [show i = v by omega], funext (fun z => hsL4 z trivial)⟩)
      · refine lv_iload_n C.1 C.2.1 dX4_greatest_12 rfl (lv_at hl 1 rfl) ?_
        refine lv_aload_n C.1 C.2.1 dX4_greatest_13 rfl (lv_at hl 0 rfl) ?_
        refine k_get C F hw (po) (by omega) e1 rfl in_X4 0 (by decide) fl_X4_9 rfl dX4_greatest_14 ?_
        refine lv_iload_n C.1 C.2.1 dX4_greatest_17 rfl (lv_at hl 2 rfl) ?_
        refine k_iald C F hw (po + 1) (by omega) e2 (i) (by omega) (by decide) dX4_greatest_18 ?_
        refine k_Si C F hw (As := [.int (gtN pl i), .int (nI (pl i))]) (rest := []) (c_J9_max_7cf53 (gtN pl i) (nI (pl i))) (va_cwS _ C.2.2.2.2 gm_X4_38 rfl rfl rfl cd_J9_max_7cf53.2 ⟨by decide, by decide⟩) hl.1 rfl (Nat.le_of_ble_eq_true rfl) dX4_greatest_19 ⟨by decide, by decide⟩ (fun r3 g4 H locs hp hw => ?_)
        obtain ⟨hr9, hg9⟩ := hp
        rw [hg9] at hw
        subst hr9
        refine k_ti (x' := gtN pl (i + 1)) rfl ?_
        refine lv_istore_n (lv' := [(1, .int (gtN pl (i + 1))), (0, .ref (ad po)), (2, .int (nI i))]) C.1 C.2.1 dX4_greatest_22 rfl hl (by decide) rfl (fun ls hl => ?_)
        refine k_inc C (i + 1) (lv' := [(2, .int (nI (i + 1))), (1, .int (gtN pl (i + 1))), (0, .ref (ad po))]) dX4_greatest_23 hl (k := 2) rfl (inc1 _) (by decide) rfl (fun ls hl => ?_)
        refine lv_goto (tgt := 4) C.1 C.2.1 dX4_greatest_26 (by decide) ?_
        exact ih4 (i + 1) gL H locs ls (by omega) (by omega) hsL4  hw (lv_sub hl [2, 1, 0] rfl)
  exact loop4 _ 0 g H locs ls (Nat.le_refl _) (by omega) (fun z _ => rfl)  hw (lv_sub hl [2, 1, 0] rfl)
