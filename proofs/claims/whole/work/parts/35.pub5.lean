/-! ===== Math.floorMod, takeAll ===== -/
theorem nI_m32 (n : Nat) : nI n = nI (n % 2 ^ 32) := Int32.toBitVec_inj.mp (by show BitVec.ofNat 32 n = BitVec.ofNat 32 (n % 2 ^ 32); apply BitVec.eq_of_toNat_eq; rw [BitVec.toNat_ofNat, BitVec.toNat_ofNat, Nat.mod_mod])
theorem nI_hi {z : Nat} (h : 2 ^ 31 ≤ z) (h2 : z < 2 ^ 32) : nI z = -nI (2 ^ 32 - z) := by
  have h1 : nI z + nI (2 ^ 32 - z) = 0 := by rw [nI_add, show z + (2 ^ 32 - z) = 2 ^ 32 by omega]; decide
  have h3 : (nI z + nI (2 ^ 32 - z)) + -nI (2 ^ 32 - z) = 0 + -nI (2 ^ 32 - z) := by rw [h1]
  rw [Int32.add_assoc, Int32.add_right_neg, Int32.add_zero, Int32.zero_add] at h3
  exact h3
theorem nI_hneg {z : Nat} (h : 2 ^ 31 ≤ z) (h2 : z < 2 ^ 32) : nI z < 0 := by
  by_cases he : z = 2 ^ 31
  · subst he; decide
  · rw [nI_hi h h2, Int32.lt_iff_toInt_lt, sb_negT (by omega), Int32.toInt_zero]
    omega
theorem xor_hi {y : Nat} (h : 2 ^ 31 ≤ y) (h2 : y < 2 ^ 32) : 2 ^ 31 ≤ y ^^^ 65536 ∧ y ^^^ 65536 < 2 ^ 32 := by
  refine ⟨Nat.ge_two_pow_of_testBit (i := 31) ?_, Nat.xor_lt_two_pow h2 (by decide)⟩
  rw [Nat.testBit_xor]
  have h3 : y.testBit 31 = true := by
    have h4 : y = 2 ^ 31 + (y - 2 ^ 31) := by omega
    rw [h4, Nat.testBit_two_pow_add_eq, Nat.testBit_lt_two_pow (by omega)]
    rfl
  rw [h3]
  decide
theorem frem {w : Nat} (hw : w < 2 ^ 31) : (-nI w) - (-nI w) / nI 65536 * nI 65536 = -nI (w % 65536) := by
  have h1 : (-nI w) / nI 65536 = -nI (w / 65536) := by
    apply Int32.toInt_inj.mp
    have h100 : (nI 65536).toInt = 65536 := by decide
    rw [Int32.toInt_div, sb_negT hw, h100, sb_negT (by omega), Int.neg_tdiv, Int.tdiv_eq_ediv_of_nonneg (by omega), Int.bmod_eq_of_le (by omega) (by omega)]
    omega
  have h2 := pk_rem (a := w) (d := 65536) hw (by decide) (by decide)
  rw [pk_div hw (by decide) (by decide)] at h2
  rw [h1, ← h2, Int32.neg_mul, Int32.neg_sub, Int32.sub_neg, Int32.sub_eq_add_neg, Int32.add_comm]
theorem frem2 {y : Nat} (h : 2 ^ 31 ≤ y) (h2 : y < 2 ^ 32) : nI y - nI y / nI 65536 * nI 65536 = -nI ((2 ^ 32 - y) % 65536) := by
  by_cases he : y = 2 ^ 31
  · subst he; decide
  · rw [nI_hi h h2]; exact frem (by omega)
abbrev TS : Type := Nat × Nat × (Nat → Nat → Nat) × (Nat → Bool) × Nat
def TaR (pw ex : Nat → Nat) (fb : Nat → Nat → Bool) (BM : Nat → Nat → Nat) (ck ct stp : Nat) : Nat → Nat → TS → TS → Prop
  | 0, _, s, r => r = s
  | n + 1, x, s, r => ∃ ln1 pl1, By ln1 ∧ ((learnR pw ex (ck + 11) ct (inB fb BM ck ct s.2.1 s.2.2.1 s.2.2.2.1 x ln1 pl1) = -1 ∧ r = s) ∨ (learnR pw ex (ck + 11) ct (inB fb BM ck ct s.2.1 s.2.2.1 s.2.2.2.1 x ln1 pl1) ≠ -1 ∧ TaR pw ex fb BM ck ct stp n ((x + stp) % 65536) (s.1 + (if learnR pw ex (ck + 11) ct (inB fb BM ck ct s.2.1 s.2.2.1 s.2.2.2.1 x ln1 pl1) = 1 then 1 else 0), (learnS pw ex (ck + 11) ct (inB fb BM ck ct s.2.1 s.2.2.1 s.2.2.2.1 x ln1 pl1)).1, (learnS pw ex (ck + 11) ct (inB fb BM ck ct s.2.1 s.2.2.1 s.2.2.2.1 x ln1 pl1)).2.1, (learnS pw ex (ck + 11) ct (inB fb BM ck ct s.2.1 s.2.2.1 s.2.2.2.1 x ln1 pl1)).2.2.1, s.2.2.2.2 + 1) r))
theorem Ta_stop {pw ex : Nat → Nat} {fb : Nat → Nat → Bool} {BM : Nat → Nat → Nat} {ck ct stp n x gr rk cn : Nat} {M : Nat → Nat → Nat} {ld : Nat → Bool} {ln1 pl1 : Nat → Nat} (hl : By ln1) (h : learnR pw ex (ck + 11) ct (inB fb BM ck ct rk M ld x ln1 pl1) = -1) : TaR pw ex fb BM ck ct stp (n + 1) x (gr, rk, M, ld, cn) (gr, rk, M, ld, cn) := ⟨ln1, pl1, hl, Or.inl ⟨h, rfl⟩⟩
theorem Ta_go {pw ex : Nat → Nat} {fb : Nat → Nat → Bool} {BM : Nat → Nat → Nat} {ck ct stp n x gr rk cn : Nat} {M : Nat → Nat → Nat} {ld : Nat → Bool} {ln1 pl1 : Nat → Nat} {IN : EqS} {r : TS} (hl : By ln1) (hi : IN = inB fb BM ck ct rk M ld x ln1 pl1) (h : learnR pw ex (ck + 11) ct IN ≠ -1) (ht : TaR pw ex fb BM ck ct stp n ((x + stp) % 65536) (gr + (if learnR pw ex (ck + 11) ct IN = 1 then 1 else 0), (learnS pw ex (ck + 11) ct IN).1, (learnS pw ex (ck + 11) ct IN).2.1, (learnS pw ex (ck + 11) ct IN).2.2.1, cn + 1) r) : TaR pw ex fb BM ck ct stp (n + 1) x (gr, rk, M, ld, cn) r := by
  subst hi
  exact ⟨ln1, pl1, hl, Or.inr ⟨h, ht⟩⟩
theorem grow_n {pw ex : Nat → Nat} {L T gr : Nat} {s : EqS} (h : learnR pw ex L T s ≠ -1) : nI gr + learnR pw ex L T s = nI (gr + (if learnR pw ex L T s = 1 then 1 else 0)) := by
  rcases learnR_cases pw ex L T s with h1 | h1 | h1
  · exact absurd h1 h
  · rw [h1, if_neg (by decide)]; exact nI_add gr 0
  · rw [h1, if_pos rfl]; exact nI_add gr 1

abbrev rm_J9_floorMod_7cf53 : Room := { frames := 0, cells := 0, slots := 0, locals := 0 }

theorem fm_0 {y : Nat} (h : 2 ^ 31 ≤ y) (h2 : y < 2 ^ 32) (hz : -nI ((2 ^ 32 - y) % 65536) = 0) : -nI ((2 ^ 32 - y) % 65536) = nI (y % 65536) := by
  have h1 : nI ((2 ^ 32 - y) % 65536) = 0 := by
    have h9 := congrArg (fun z => -z) hz
    simpa using h9
  have h3 := (nI_eq (b := 0) (by omega) (by decide)).mp h1
  rw [h3, show y % 65536 = 0 by omega]
  rfl
theorem fm_1 {y : Nat} (h : 2 ^ 31 ≤ y) (h2 : y < 2 ^ 32) (hz : ¬ -nI ((2 ^ 32 - y) % 65536) = 0) : -nI ((2 ^ 32 - y) % 65536) + nI 65536 = nI (y % 65536) := by
  have h3 : (2 ^ 32 - y) % 65536 ≠ 0 := fun q => hz (by rw [q]; rfl)
  rw [Int32.add_comm, ← Int32.sub_eq_add_neg, pk_sub (by omega)]
  congr 1
  omega

set_option maxHeartbeats 800000 in
set_option maxRecDepth 100000 in
/-- Math.floorMod -/
theorem c_J9_floorMod_7cf53 {l : Launch} {D : va_G} {ca : Nat → ClassId} {tB tS R : Nat} {ad : Nat → Nat} {g : Nat → va_E} {sz : Nat} (y : Nat) (hy : y < 2 ^ 32) : MI l yJ9_floorMod_7cf53 cJ9_floorMod_7cf53 3 .int rm_J9_floorMod_7cf53 D ca tB tS R ad g sz [.int (nI y), .int (nI 65536)] (fun r g1 => r = nI (y % 65536) ∧ g1 = g) := by
  refine m_startI (by decide +kernel) (Nat.le_of_ble_eq_true rfl) (fun p e s m args below meth c ls Q hsz C hl F hw hret => ?_)
  have hl : lv_has ls 3 [(0, .int (nI y)), (1, .int (nI 65536))] := hl
  generalize s.heap = H at hw ⊢
  generalize ([] : List Loc) = locs at hw ⊢
  by_cases hlo : y < 2 ^ 31
  · refine lv_iload_n C.1 C.2.1 dJ9_floorMod_7cf53_0 rfl (lv_at hl 0 rfl) ?_
    refine lv_iload_n C.1 C.2.1 dJ9_floorMod_7cf53_1 rfl (lv_at hl 1 rfl) ?_
    refine k_rem C dJ9_floorMod_7cf53_2 (by omega) (by omega) (by omega) ?_
    refine lv_istore_n (lv' := [(2, .int (nI (y % 65536))), (0, .int (nI y)), (1, .int (nI 65536))]) C.1 C.2.1 dJ9_floorMod_7cf53_3 rfl hl (by decide) rfl (fun ls hl => ?_)
    refine lv_iload_n C.1 C.2.1 dJ9_floorMod_7cf53_4 rfl (lv_at hl 1 rfl) ?_
    refine lv_iload_n C.1 C.2.1 dJ9_floorMod_7cf53_5 rfl (lv_at hl 2 rfl) ?_
    refine k_xor C dJ9_floorMod_7cf53_6 ?_
    refine k_zge (tgt := 18) C dJ9_floorMod_7cf53_7 (by decide) (Nat.lt_of_lt_of_le (Nat.xor_lt_two_pow (n := 31) hlo (by decide)) (by decide)) ?_
    refine lv_iload_n C.1 C.2.1 dJ9_floorMod_7cf53_18 rfl (lv_at hl 0 rfl) ?_
    exact hret H locs ls _ _ _ dJ9_floorMod_7cf53_19 hw (⟨rfl, rfl⟩)
  · refine lv_iload_n C.1 C.2.1 dJ9_floorMod_7cf53_0 rfl (lv_at hl 0 rfl) ?_
    refine lv_iload_n C.1 C.2.1 dJ9_floorMod_7cf53_1 rfl (lv_at hl 1 rfl) ?_
    refine lv_irem C.1 C.2.1 dJ9_floorMod_7cf53_2 (by decide) ?_
    refine k_ti (x' := -nI ((2 ^ 32 - y) % 65536)) (frem2 (by omega) hy) ?_
    refine lv_istore_n (lv' := [(2, .int (-nI ((2 ^ 32 - y) % 65536))), (0, .int (nI y)), (1, .int (nI 65536))]) C.1 C.2.1 dJ9_floorMod_7cf53_3 rfl hl (by decide) rfl (fun ls hl => ?_)
    refine lv_iload_n C.1 C.2.1 dJ9_floorMod_7cf53_4 rfl (lv_at hl 1 rfl) ?_
    refine lv_iload_n C.1 C.2.1 dJ9_floorMod_7cf53_5 rfl (lv_at hl 2 rfl) ?_
    refine k_xor C dJ9_floorMod_7cf53_6 ?_
    have hxh := xor_hi (by omega) hy
    refine lv_if_ge (tgt := 18) C.1 C.2.1 dJ9_floorMod_7cf53_7 (by decide) (fun h => absurd (nI_hneg hxh.1 hxh.2) (Int32.not_lt.mpr h)) (fun _ => ?_)
    refine lv_iload_n C.1 C.2.1 dJ9_floorMod_7cf53_10 rfl (lv_at hl 0 rfl) ?_
    refine lv_if_eq (tgt := 18) C.1 C.2.1 dJ9_floorMod_7cf53_11 (by decide) (fun hc11 => ?_) (fun hc11 => ?_)
    · refine lv_iload_n C.1 C.2.1 dJ9_floorMod_7cf53_18 rfl (lv_at hl 0 rfl) ?_
      exact hret H locs ls _ _ _ dJ9_floorMod_7cf53_19 hw (⟨fm_0 (by omega) hy hc11, rfl⟩)
    · refine lv_iload_n C.1 C.2.1 dJ9_floorMod_7cf53_14 rfl (lv_at hl 0 rfl) ?_
      refine lv_iload_n C.1 C.2.1 dJ9_floorMod_7cf53_15 rfl (lv_at hl 2 rfl) ?_
      refine lv_iadd C.1 C.2.1 dJ9_floorMod_7cf53_16 ?_
      exact hret H locs ls _ _ _ dJ9_floorMod_7cf53_17 hw (⟨fm_1 (by omega) hy hc11, rfl⟩)

abbrev rm_X7_takeAll : Room := { frames := 6, cells := 1, slots := 6, locals := 130 }

set_option maxHeartbeats 800000 in
set_option maxRecDepth 100000 in
/-- FountainDesk.takeAll -/
theorem c_X7_takeAll {l : Launch} {D : va_G} {ca : Nat → ClassId} {tB tS R : Nat} {ad : Nat → Nat} {g : Nat → va_E} {sz : Nat} (hlt : l.stackTraces = false) (pw ex : Nat → Nat) (hX : ExOk ex) (hP : PwOk pw) (hR : 197 < R) (fb : Nat → Nat → Bool) (hfb : ∀ k t s pl, 1 ≤ k → k ≤ 48 → EqBy s → t < 1000 → fillB pw ex k t s pl = fb k t) (len : Nat) (h : Nat → Nat) (bk bt : Nat) (BM : Nat → Nat → Nat) (ck ct cn rk : Nat) (M : Nat → Nat → Nat) (ld : Nat → Bool) (hI : DInv ca ad g pw ex fb len h bk bt BM ck ct cn rk M ld) (xx nx : Int32) (stp : Nat) (hstp : stp < 2 ^ 32) : XMI l yX7_takeAll cX7_takeAll 8 .int rm_X7_takeAll D ca tB tS R ad g sz [.ref (ad 0), .int (xx), .int (nI stp), .int (nx)] (fun r g1 => (∀ z, 197 < z → g1 z = g z) ∧ (bk ≠ 0 ∧ bk = ck ∧ bt = ct) ∧ ∃ x n gr rk1 M1 ld1 cn1, xx = nI x ∧ x < 65536 ∧ nx = nI n ∧ n ≤ 100 ∧ r = nI gr ∧ TaR pw ex fb BM ck ct stp n x (0, rk, M, ld, cn) (gr, rk1, M1, ld1, cn1) ∧ DInv ca ad g1 pw ex fb len h bk bt BM ck ct cn1 rk1 M1 ld1) (fun E g1 => (E = xI ∧ ¬ (bk ≠ 0 ∧ bk = ck ∧ bt = ct) ∨ E = xO ∧ (bk ≠ 0 ∧ bk = ck ∧ bt = ct) ∧ ¬ (0 ≤ xx ∧ xx < 65536) ∨ E = xA ∧ (bk ≠ 0 ∧ bk = ck ∧ bt = ct) ∧ (0 ≤ xx ∧ xx < 65536) ∧ ¬ ∃ n : Nat, nx = nI n ∧ n ≤ 100) ∧ (∀ z, 197 < z → g1 z = g z) ∧ DInv ca ad g1 pw ex fb len h bk bt BM ck ct cn rk M ld) := by
  refine x_startI hlt (by decide) (Nat.le_of_ble_eq_true rfl) (fun p e s m args below meth c ls Q hsz C hl F hw hret hthr => ?_)
  have hl : lv_has ls 8 [(0, .ref (ad 0)), (1, .int (xx)), (2, .int (nI stp)), (3, .int (nx))] := hl
  generalize s.heap = H at hw ⊢
  generalize ([] : List Loc) = locs at hw ⊢
  obtain ⟨eO, hF, hT4, ⟨v0, pl0, hK⟩, ⟨Lw, Tw, sw, hEw, hBw⟩, eT, ⟨fd, eD, hfd⟩, hB, hC, ⟨ln0, hln0, hEc⟩, ⟨hlen, hh⟩, ⟨hbk, hBM⟩, ⟨hck, hM⟩⟩ := hI
  refine lv_aload_n C.1 C.2.1 dX7_takeAll_0 rfl (lv_at hl 0 rfl) ?_
  have hB1 : BlkAt ca ad g bk bt (if bk = 0 then 0 else tnN (fb bk)) BM := ⟨hB.1, hB.2.1, hB.2.2⟩
  refine k_Vi C F hw (i := 0) (As := []) (rest := []) (c_X7_blockFitsCatcher hR eO bk bt _ BM hB1 ck ct _ cn hC (by omega)) (by omega) eO rfl (cwV _ C.2.2.2.2 gm_X7_133 rfl rfl rfl cd_X7_blockFitsCatcher ⟨by decide, by decide⟩) hl.1 rfl (Nat.le_of_ble_eq_true rfl) dX7_takeAll_1 ⟨by decide, by decide⟩ (fun r2 g3 H locs hp hw => ?_)
  obtain ⟨hr9, hg9⟩ := hp
  rw [hg9] at hw
  subst hr9
  refine k_bne (tgt := 15) C dX7_takeAll_4 (by decide) (fun hc4 => ?_) (fun hc4 => ?_)
  · have hfit := of_decide_eq_true hc4
    have hne : ¬ ck = 0 := by omega
    have hck9 : 1 ≤ ck ∧ ck ≤ 48 ∧ 1 ≤ ct ∧ ct ≤ 16 := by omega
    have hC5 : CtAt ca ad g ck ct (tnN (fb ck)) cn := by have h9 := hC; rw [if_neg hne] at h9; exact h9
    have hE5 : EqAt ca ad g 135 1 (ck + 11) ct rk M ld ln0 := by have h9 := hEc; rw [if_neg hne] at h9; exact h9
    have htnc := tnN_le (fb ck)
    refine lv_iload_n C.1 C.2.1 dX7_takeAll_15 rfl (lv_at hl 1 rfl) ?_
    refine k_Si C F hw (As := [.int (xx)]) (rest := []) (c_X7_isPacket xx) (va_cwS _ C.2.2.2.2 gm_X7_104 rfl rfl rfl cd_X7_isPacket.2 ⟨by decide, by decide⟩) hl.1 rfl (Nat.le_of_ble_eq_true rfl) dX7_takeAll_16 ⟨by decide, by decide⟩ (fun r4 g5 H locs hp hw => ?_)
    obtain ⟨hr9, hg9⟩ := hp
    rw [hg9] at hw
    subst hr9
    refine k_bne (tgt := 30) C dX7_takeAll_19 (by decide) (fun hc19 => ?_) (fun hc19 => ?_)
    · refine lv_iload_n C.1 C.2.1 dX7_takeAll_30 rfl (lv_at hl 3 rfl) ?_
      refine lv_if_lt (tgt := 40) C.1 C.2.1 dX7_takeAll_31 (by decide) (fun hc31 => ?_) (fun hc31 => ?_)
      · have hE6 : EqAt ca ad g 135 1 (ck + 11) ct rk M ld ln0 := ⟨hE5.1, hE5.2.1, hE5.2.2.1, hE5.2.2.2.1, hE5.2.2.2.2⟩
        have hC7 : CtAt ca ad g ck ct (if ck = 0 then 0 else tnN (fb ck)) cn := by rw [if_neg hne]; exact hC5
        have hE8 : EqAt ca ad g 135 1 (if ck = 0 then 0 else ck + 11) ct rk M ld ln0 := by rw [if_neg hne]; exact hE6
        have hF10 : FieldAt ca ad g 1 pw ex := ⟨hF.1, hF.2.1, hF.2.2⟩
        have hK11 : PkAt ca ad g 6 v0 pl0 := ⟨hK.1, hK.2⟩
        have hE12 : EqAt ca ad g 8 1 Lw Tw sw.1 sw.2.1 sw.2.2.1 sw.2.2.2 := ⟨hEw.1, hEw.2.1, hEw.2.2.1, hEw.2.2.2.1, hEw.2.2.2.2⟩
        have hI9 : DInv ca ad g pw ex fb len h bk bt BM ck ct cn rk M ld := ⟨eO, hF10, ⟨hT4.1, hT4.2⟩, ⟨_, _, hK11⟩, ⟨_, _, _, hE12, hBw⟩, eT, ⟨_, eD, hfd⟩, ⟨hB.1, hB.2.1, hB.2.2⟩, hC7, ⟨_, hln0, hE8⟩, ⟨hlen, hh⟩, ⟨hbk, hBM⟩, ⟨hck, hM⟩⟩
        exact hthr H locs ls _ _ _ xA 77 79 tw_A hw hl.1 dX7_takeAll_40 dX7_takeAll_43 dX7_takeAll_44 dX7_takeAll_47 (by decide) (Nat.le_of_ble_eq_true rfl) (by decide) (by decide) (⟨Or.inr (Or.inr ⟨rfl, hfit, of_decide_eq_true hc19, fun ⟨n, h1, h2⟩ => by first | exact absurd hc31 (by rw [h1]; exact nI_pos (by omega)) | exact hc37 (by rw [h1]; exact nI_le (b := 100) h2 (by decide))⟩), fun z _ => rfl, hI9⟩)
      · refine lv_iload_n C.1 C.2.1 dX7_takeAll_34 rfl (lv_at hl 3 rfl) ?_
        refine k_bip C 100 dX7_takeAll_35 (by decide) ?_
        refine lv_icmp_le (tgt := 48) C.1 C.2.1 dX7_takeAll_37 (by decide) (fun hc37 => ?_) (fun hc37 => ?_)
        · obtain ⟨x, hx, rfl⟩ := nat_of0 (of_decide_eq_true hc19)
          obtain ⟨n, hn0, rfl⟩ := nI_of hc31
          have hn1 : n ≤ 100 := (nI_leI hn0 (by decide)).mp hc37
          refine k_icn C 0 dX7_takeAll_48 (by decide) ?_
          refine lv_istore (lv' := [(4, .int (nI 0)), (0, .ref (ad 0)), (1, .int (nI x)), (2, .int (nI stp)), (3, .int (nI n))]) C.1 C.2.1 dX7_takeAll_49 hl (by decide) rfl (fun ls hl => ?_)
          refine lv_iload_n C.1 C.2.1 dX7_takeAll_51 rfl (lv_at hl 2 rfl) ?_
          refine lv_istore (lv' := [(5, .int (nI x)), (4, .int (nI 0)), (0, .ref (ad 0)), (1, .int (nI x)), (2, .int (nI stp)), (3, .int (nI n))]) C.1 C.2.1 dX7_takeAll_52 hl (by decide) rfl (fun ls hl => ?_)
          refine k_icn C 0 dX7_takeAll_54 (by decide) ?_
          refine lv_istore (lv' := [(6, .int (nI 0)), (5, .int (nI x)), (4, .int (nI 0)), (0, .ref (ad 0)), (1, .int (nI x)), (2, .int (nI stp)), (3, .int (nI n))]) C.1 C.2.1 dX7_takeAll_55 hl (by decide) rfl (fun ls hl => ?_)
          have loop57 : ∀ (fuel : Nat) (i : Nat) (a : Nat) (gr : Nat) (rk1 : Nat) (M1 : Nat → Nat → Nat) (ld1 : Nat → Bool) (cn1 : Nat) (lc : Nat → Nat) (v : Nat) (pq : Nat → Nat) (gL : Nat → va_E) (H : Heap) (locs : List Loc) (ls : Array Slot), ((n - i) + 1 ≤ fuel) → (i ≤ n) → (a < 65536) → (gr ≤ i) → (∀ r9, TaR pw ex fb BM ck ct stp (n - i) a (gr, rk1, M1, ld1, cn1) r9 → TaR pw ex fb BM ck ct stp n x (0, rk, M, ld, cn) r9) → (∀ p, By (M1 p)) → (By lc) → (∀ z, (z < 6 ∨ 7 < z ∧ z < 134 ∨ 197 < z) → gL z = g z) → (gL (134) = .inr (1, [.ref (ad 135), .int (nI ck), .int (nI ct), .int (nI (tnN (fb ck))), .int (nI cn1)])) → (gL (135) = .inr (2, [.ref (ad 1), .ref (ad (135 + 1)), .ref (ad (135 + 61)), .ref (ad (135 + 62)), .int (nI (ck + 11)), .int (nI ct), .int (nI rk1)])) → (gL (135 + 1) = qa ca 59 (fun i => if i < 59 then some (ad (135 + 2 + i)) else none)) → (gL (135 + 61) = za ca 59 (ld1)) → (gL (135 + 62) = na ca 75 (lc)) → (gL (6) = .inr (4, [.ref (ad (6 + 1)), .int (nI v)])) → (gL (6 + 1) = na ca 59 (pq)) → (∀ p9, p9 < 59 → gL (135 + 2 + p9) = na ca 75 (M1 p9)) → Wd D (AA R ad sz) s R ad gL H locs → lv_has ls 8 [(0, .ref (ad 0)), (1, .int (nI x)), (2, .int (nI stp)), (3, .int (nI n)), (4, .int (nI gr)), (5, .int (nI a)), (6, .int (nI i))] → W p l e rm_X7_takeAll s m args below meth c H locs 0 0 Q (F0 m 57 ls []) := by
            intro fuel
            induction fuel with
            | zero =>
              intro i a gr rk1 M1 ld1 cn1 lc v pq gL H locs ls hfu57
              exact absurd hfu57 (by omega)
            | succ fuel57 ih57 =>
              intro i a gr rk1 M1 ld1 cn1 lc v pq gL H locs ls hfu57 hi ha hgr hTa hM1 hlc hsL57 eL57_0 eL57_1 eL57_2 eL57_3 eL57_4 eL57_5 eL57_6 hrL57_2 hw hl
              have e13 : gL (0) = .inr (7, [.ref (ad 1), .ref (ad 4), .ref (ad 6), .ref (ad 8), .ref (ad 71), .ref (ad 73), .ref (ad 134)]) := (hsL57 _ (by omega)).trans eO
              have e14 : gL (1) = .inr (3, [.ref (ad (1 + 1)), .ref (ad (1 + 2))]) := (hsL57 _ (by omega)).trans hF.1
              have e15 : gL (1 + 1) = na ca 510 (pw) := (hsL57 _ (by omega)).trans hF.2.1
              have e16 : gL (1 + 2) = na ca 256 (ex) := (hsL57 _ (by omega)).trans hF.2.2
              have e17 : gL (4) = .inr (5, [.ref (ad (4 + 1)), .int (nI len)]) := (hsL57 _ (by omega)).trans hT4.1
              have e18 : gL (4 + 1) = na ca 800 (h) := (hsL57 _ (by omega)).trans hT4.2
              have e19 : gL (8) = .inr (2, [.ref (ad 1), .ref (ad (8 + 1)), .ref (ad (8 + 61)), .ref (ad (8 + 62)), .int (nI Lw), .int (nI Tw), .int (nI (sw.1))]) := (hsL57 _ (by omega)).trans hEw.1
              have e20 : gL (8 + 1) = qa ca 59 (fun i => if i < 59 then some (ad (8 + 2 + i)) else none) := (hsL57 _ (by omega)).trans hEw.2.1
              have e21 : gL (8 + 61) = za ca 59 (sw.2.2.1) := (hsL57 _ (by omega)).trans hEw.2.2.2.1
              have e22 : gL (8 + 62) = na ca 75 (sw.2.2.2) := (hsL57 _ (by omega)).trans hEw.2.2.2.2
              have e23 : gL (71) = .inr (6, [.ref (ad 8), .ref (ad 6), .ref (ad 72)]) := (hsL57 _ (by omega)).trans eT
              have e24 : gL (72) = ia ca 49 (fd) := (hsL57 _ (by omega)).trans eD
              have e25 : gL (73) = .inr (0, [.ref (ad 74), .int (nI bk), .int (nI bt), .int (nI (if bk = 0 then 0 else tnN (fb bk)))]) := (hsL57 _ (by omega)).trans hB.1
              have e26 : gL (74) = qa ca 59 (fun i => if i < 59 then some (ad (75 + i)) else none) := (hsL57 _ (by omega)).trans hB.2.1
              have hr27 : ∀ p9, p9 < 59 → gL (8 + 2 + p9) = na ca 75 (sw.2.1 p9) := fun p9 hp9 => (hsL57 _ (by omega)).trans (hEw.2.2.1 p9 hp9)
              have hr28 : ∀ p9, p9 < 59 → gL (75 + p9) = na ca 16 (BM p9) := fun p9 hp9 => (hsL57 _ (by omega)).trans (hB.2.2 p9 hp9)
              refine lv_iload C.1 C.2.1 dX7_takeAll_57 (lv_at hl 6 rfl) ?_
              refine lv_iload_n C.1 C.2.1 dX7_takeAll_59 rfl (lv_at hl 3 rfl) ?_
              refine k_ige (tgt := 104) C dX7_takeAll_60 (by decide) (by omega) (by omega) (fun hc60 => ?_) (fun hc60 => ?_)
              · refine lv_iload C.1 C.2.1 dX7_takeAll_104 (lv_at hl 4 rfl) ?_
                have hE29 : EqAt ca ad gL 135 1 (ck + 11) ct rk1 M1 ld1 lc := ⟨eL57_1, eL57_2, hrL57_2, eL57_3, eL57_4⟩
                have hC30 : CtAt ca ad gL ck ct (if ck = 0 then 0 else tnN (fb ck)) cn1 := by rw [if_neg hne]; exact eL57_0
                have hE31 : EqAt ca ad gL 135 1 (if ck = 0 then 0 else ck + 11) ct rk1 M1 ld1 lc := by rw [if_neg hne]; exact hE29
                have hF33 : FieldAt ca ad gL 1 pw ex := ⟨e14, e15, e16⟩
                have hK34 : PkAt ca ad gL 6 v pq := ⟨eL57_5, eL57_6⟩
                have hE35 : EqAt ca ad gL 8 1 Lw Tw sw.1 sw.2.1 sw.2.2.1 sw.2.2.2 := ⟨e19, e20, hr27, e21, e22⟩
                have hI32 : DInv ca ad gL pw ex fb len h bk bt BM ck ct cn1 rk1 M1 ld1 := ⟨e13, hF33, ⟨e17, e18⟩, ⟨_, _, hK34⟩, ⟨_, _, _, hE35, hBw⟩, e23, ⟨_, e24, hfd⟩, ⟨e25, e26, hr28⟩, hC30, ⟨_, hlc, hE31⟩, ⟨hlen, hh⟩, ⟨hbk, hBM⟩, ⟨hck, hM1⟩⟩
                exact hret H locs ls _ _ _ dX7_takeAll_106 hw (⟨fun z hz => hsL57 z (by omega), hfit, x, n, gr, rk1, M1, ld1, cn1, rfl, hx, rfl, hn1, rfl, hTa _ (by rw [show n - i = 0 by omega]; rfl), hI32⟩)
              · refine lv_aload_n C.1 C.2.1 dX7_takeAll_63 rfl (lv_at hl 0 rfl) ?_
                refine lv_iload C.1 C.2.1 dX7_takeAll_64 (lv_at hl 5 rfl) ?_
                have hF36 : FieldAt ca ad gL 1 pw ex := ⟨e14, e15, e16⟩
                have hE37 : EqAt ca ad gL 135 1 (ck + 11) ct rk1 M1 ld1 lc := ⟨eL57_1, eL57_2, hrL57_2, eL57_3, eL57_4⟩
                have hK38 : PkAt ca ad gL 6 v pq := ⟨eL57_5, eL57_6⟩
                have hB39 : BlkAt ca ad gL bk bt (if bk = 0 then 0 else tnN (fb bk)) BM := ⟨e25, e26, hr28⟩
                refine k_Vi C F hw (i := 0) (As := [.int (nI a)]) (rest := []) (c_X7_catchFromBlock pw ex hF36 hX hP hR e13 ck ct (tnN (fb ck)) cn1 eL57_0 ⟨hck9.1, hck9.2.1⟩ ⟨hck9.2.2.1, hck9.2.2.2⟩ htnc (rk1, M1, ld1, lc) (EqAtS_mk hE37) ⟨hM1, hlc⟩ v pq hK38 a ha bk bt _ BM hB39 hBM) (by omega) e13 rfl (cwV _ C.2.2.2.2 gm_X7_137 rfl rfl rfl cd_X7_catchFromBlock ⟨by decide, by decide⟩) hl.1 rfl (Nat.le_of_ble_eq_true rfl) dX7_takeAll_66 ⟨by decide, by decide⟩ (fun r40 g41 H locs hp hw => ?_)
                obtain ⟨hs42, hr9, hC42, hE42, hb42, ⟨v42, pl42, hK42⟩⟩ := hp
                obtain ⟨IN, hIN⟩ : ∃ z, z = inB fb BM ck ct rk1 M1 ld1 a lc pq := ⟨_, rfl⟩
                change r40 = learnR pw ex (ck + 11) ct (inB fb BM ck ct rk1 M1 ld1 a lc pq) at hr9
                change CtAt ca ad g41 ck ct (tnN (fb ck)) (if learnR pw ex (ck + 11) ct (inB fb BM ck ct rk1 M1 ld1 a lc pq) = -1 then cn1 else cn1 + 1) at hC42
                change EqAtS ca ad g41 135 1 (ck + 11) ct (learnS pw ex (ck + 11) ct (inB fb BM ck ct rk1 M1 ld1 a lc pq)) at hE42
                change EqBy (inB fb BM ck ct rk1 M1 ld1 a lc pq) at hb42
                rw [← hIN] at hr9 hC42 hE42 hb42
                subst hr9
                have hlb := learnS_by (ex := ex) (L := ck + 11) (T := ct) hP hb42
                have e43 : g41 (0) = .inr (7, [.ref (ad 1), .ref (ad 4), .ref (ad 6), .ref (ad 8), .ref (ad 71), .ref (ad 73), .ref (ad 134)]) := (hs42 _ (by omega)).trans e13
                have e44 : g41 (1) = .inr (3, [.ref (ad (1 + 1)), .ref (ad (1 + 2))]) := (hs42 _ (by omega)).trans e14
                have e45 : g41 (1 + 1) = na ca 510 (pw) := (hs42 _ (by omega)).trans e15
                have e46 : g41 (1 + 2) = na ca 256 (ex) := (hs42 _ (by omega)).trans e16
                have e47 : g41 (4) = .inr (5, [.ref (ad (4 + 1)), .int (nI len)]) := (hs42 _ (by omega)).trans e17
                have e48 : g41 (4 + 1) = na ca 800 (h) := (hs42 _ (by omega)).trans e18
                have e49 : g41 (8) = .inr (2, [.ref (ad 1), .ref (ad (8 + 1)), .ref (ad (8 + 61)), .ref (ad (8 + 62)), .int (nI Lw), .int (nI Tw), .int (nI (sw.1))]) := (hs42 _ (by omega)).trans e19
                have e50 : g41 (8 + 1) = qa ca 59 (fun i => if i < 59 then some (ad (8 + 2 + i)) else none) := (hs42 _ (by omega)).trans e20
                have e51 : g41 (8 + 61) = za ca 59 (sw.2.2.1) := (hs42 _ (by omega)).trans e21
                have e52 : g41 (8 + 62) = na ca 75 (sw.2.2.2) := (hs42 _ (by omega)).trans e22
                have e53 : g41 (71) = .inr (6, [.ref (ad 8), .ref (ad 6), .ref (ad 72)]) := (hs42 _ (by omega)).trans e23
                have e54 : g41 (72) = ia ca 49 (fd) := (hs42 _ (by omega)).trans e24
                have e55 : g41 (73) = .inr (0, [.ref (ad 74), .int (nI bk), .int (nI bt), .int (nI (if bk = 0 then 0 else tnN (fb bk)))]) := (hs42 _ (by omega)).trans e25
                have e56 : g41 (74) = qa ca 59 (fun i => if i < 59 then some (ad (75 + i)) else none) := (hs42 _ (by omega)).trans e26
                have hr57 : ∀ p9, p9 < 59 → g41 (8 + 2 + p9) = na ca 75 (sw.2.1 p9) := fun p9 hp9 => (hs42 _ (by omega)).trans (hr27 p9 hp9)
                have hr58 : ∀ p9, p9 < 59 → g41 (75 + p9) = na ca 16 (BM p9) := fun p9 hp9 => (hs42 _ (by omega)).trans (hr28 p9 hp9)
                have hs59 : ∀ z, (z < 6 ∨ 7 < z ∧ z < 134 ∨ 197 < z) → g41 z = g z := fun z hz => (hs42 z (by omega)).trans (hsL57 z hz)
                refine lv_istore (lv' := [(7, .int (learnR pw ex (ck + 11) ct IN)), (0, .ref (ad 0)), (1, .int (nI x)), (2, .int (nI stp)), (3, .int (nI n)), (4, .int (nI gr)), (5, .int (nI a)), (6, .int (nI i))]) C.1 C.2.1 dX7_takeAll_69 hl (by decide) rfl (fun ls hl => ?_)
                refine lv_iload C.1 C.2.1 dX7_takeAll_71 (lv_at hl 0 rfl) ?_
                refine lv_iconst (v := -1) C.1 C.2.1 dX7_takeAll_73 (by decide) ?_
                refine lv_icmp_ne (tgt := 80) C.1 C.2.1 dX7_takeAll_74 (by decide) (fun hc74 => ?_) (fun hc74 => ?_)
                · have e60 : CtAt ca ad g41 ck ct (tnN (fb ck)) (cn1 + 1) := by have h9 := hC42; rw [if_neg hc74] at h9; exact h9
                  refine lv_iload C.1 C.2.1 dX7_takeAll_80 (lv_at hl 5 rfl) ?_
                  refine lv_iload C.1 C.2.1 dX7_takeAll_82 (lv_at hl 0 rfl) ?_
                  refine lv_iadd C.1 C.2.1 dX7_takeAll_84 ?_
                  refine k_ti (x' := nI (gr + (if learnR pw ex (ck + 11) ct IN = 1 then 1 else 0))) (grow_n hc74) ?_
                  refine lv_istore (lv' := [(4, .int (nI (gr + (if learnR pw ex (ck + 11) ct IN = 1 then 1 else 0)))), (7, .int (learnR pw ex (ck + 11) ct IN)), (0, .ref (ad 0)), (1, .int (nI x)), (2, .int (nI stp)), (3, .int (nI n)), (5, .int (nI a)), (6, .int (nI i))]) C.1 C.2.1 dX7_takeAll_85 hl (by decide) rfl (fun ls hl => ?_)
                  refine lv_iload C.1 C.2.1 dX7_takeAll_87 (lv_at hl 6 rfl) ?_
                  refine lv_iload_n C.1 C.2.1 dX7_takeAll_89 rfl (lv_at hl 4 rfl) ?_
                  refine k_add C dX7_takeAll_90 ?_
                  refine lv_ldc (v := 65536) C.1 C.2.1 C.2.2.2.1 (C.2.2.2.2 _ kc_X7_140) dX7_takeAll_91 ?_
                  refine k_ti (show (65536 : Int32) = nI 65536 from by decide) ?_
                  refine k_Si C F hw (As := [.int (nI (a + stp)), .int (nI 65536)]) (rest := []) (by have h9 := c_J9_floorMod_7cf53 (l := l) (D := D) (ca := ca) (tB := tB) (tS := tS) (R := R) (ad := ad) (g := g41) (sz := H.size) ((a + stp) % 2 ^ 32) (Nat.mod_lt _ (by decide)); rw [← nI_m32, show (a + stp) % 2 ^ 32 % 65536 = (a + stp) % 65536 by omega] at h9; exact h9) (va_cwS _ C.2.2.2.2 gm_X7_141 rfl rfl rfl cd_J9_floorMod_7cf53.2 ⟨by decide, by decide⟩) hl.1 rfl (Nat.le_of_ble_eq_true rfl) dX7_takeAll_93 ⟨by decide, by decide⟩ (fun r61 g62 H locs hp hw => ?_)
                  obtain ⟨hr9, hg9⟩ := hp
                  rw [hg9] at hw
                  subst hr9
                  refine lv_istore (lv' := [(5, .int (nI ((a + stp) % 65536))), (4, .int (nI (gr + (if learnR pw ex (ck + 11) ct IN = 1 then 1 else 0)))), (7, .int (learnR pw ex (ck + 11) ct IN)), (0, .ref (ad 0)), (1, .int (nI x)), (2, .int (nI stp)), (3, .int (nI n)), (6, .int (nI i))]) C.1 C.2.1 dX7_takeAll_96 hl (by decide) rfl (fun ls hl => ?_)
                  refine k_inc C (i + 1) (lv' := [(6, .int (nI (i + 1))), (5, .int (nI ((a + stp) % 65536))), (4, .int (nI (gr + (if learnR pw ex (ck + 11) ct IN = 1 then 1 else 0)))), (7, .int (learnR pw ex (ck + 11) ct IN)), (0, .ref (ad 0)), (1, .int (nI x)), (2, .int (nI stp)), (3, .int (nI n))]) dX7_takeAll_98 hl (k := 7) rfl (inc1 _) (by decide) rfl (fun ls hl => ?_)
                  refine lv_goto (tgt := 57) C.1 C.2.1 dX7_takeAll_101 (by decide) ?_
                  exact ih57 (i + 1) ((a + stp) % 65536) (gr + (if learnR pw ex (ck + 11) ct IN = 1 then 1 else 0)) ((learnS pw ex (ck + 11) ct IN).1) ((learnS pw ex (ck + 11) ct IN).2.1) ((learnS pw ex (ck + 11) ct IN).2.2.1) (cn1 + 1) ((learnS pw ex (ck + 11) ct IN).2.2.2) v42 pl42 g41 H locs ls (by omega) (by omega) (Nat.mod_lt _ (by decide)) (by split <;> omega) (fun r9 h9 => hTa r9 (by rw [show n - i = (n - (i + 1)) + 1 by omega]; exact Ta_go hlc hIN hc74 h9)) hlb.1 hlb.2 hs59 e60 hE42.1 hE42.2.1 hE42.2.2.2.1 hE42.2.2.2.2 hK42.1 hK42.2 hE42.2.2.1 hw (lv_sub hl [4, 5, 6, 7, 2, 1, 0] rfl)
                · refine lv_iload C.1 C.2.1 dX7_takeAll_77 (lv_at hl 5 rfl) ?_
                  have hm1 := learn_m1 hc74
                  have e63 : CtAt ca ad g41 ck ct (tnN (fb ck)) cn1 := by have h9 := hC42; rw [if_pos hc74] at h9; exact h9
                  have hE64 : EqAt ca ad g41 135 1 (ck + 11) ct ((learnS pw ex (ck + 11) ct IN).1) ((learnS pw ex (ck + 11) ct IN).2.1) ((learnS pw ex (ck + 11) ct IN).2.2.1) ((learnS pw ex (ck + 11) ct IN).2.2.2) := ⟨hE42.1, hE42.2.1, hE42.2.2.1, hE42.2.2.2.1, hE42.2.2.2.2⟩
                  have hE65 : EqAt ca ad g41 135 1 (ck + 11) ct rk1 M1 ld1 (learnS pw ex (ck + 11) ct IN).2.2.2 := by have h9 := hE64; rw [hm1.1, hm1.2.1, hm1.2.2, hIN] at h9; rw [hIN]; exact h9
                  have hE66 : EqAt ca ad g41 135 1 (ck + 11) ct rk1 M1 ld1 ((learnS pw ex (ck + 11) ct IN).2.2.2) := ⟨hE65.1, hE65.2.1, hE65.2.2.1, hE65.2.2.2.1, hE65.2.2.2.2⟩
                  have hC67 : CtAt ca ad g41 ck ct (if ck = 0 then 0 else tnN (fb ck)) cn1 := by rw [if_neg hne]; exact e63
                  have hE68 : EqAt ca ad g41 135 1 (if ck = 0 then 0 else ck + 11) ct rk1 M1 ld1 ((learnS pw ex (ck + 11) ct IN).2.2.2) := by rw [if_neg hne]; exact hE66
                  have hF70 : FieldAt ca ad g41 1 pw ex := ⟨e44, e45, e46⟩
                  have hK71 : PkAt ca ad g41 6 v42 pl42 := ⟨hK42.1, hK42.2⟩
                  have hE72 : EqAt ca ad g41 8 1 Lw Tw sw.1 sw.2.1 sw.2.2.1 sw.2.2.2 := ⟨e49, e50, hr57, e51, e52⟩
                  have hI69 : DInv ca ad g41 pw ex fb len h bk bt BM ck ct cn1 rk1 M1 ld1 := ⟨e43, hF70, ⟨e47, e48⟩, ⟨_, _, hK71⟩, ⟨_, _, _, hE72, hBw⟩, e53, ⟨_, e54, hfd⟩, ⟨e55, e56, hr58⟩, hC67, ⟨_, hlb.2, hE68⟩, ⟨hlen, hh⟩, ⟨hbk, hBM⟩, ⟨hck, hM1⟩⟩
                  exact hret H locs ls _ _ _ dX7_takeAll_79 hw (⟨fun z hz => hs59 z (by omega), hfit, x, n, gr, rk1, M1, ld1, cn1, rfl, hx, rfl, hn1, rfl, hTa _ (by rw [show n - i = (n - i - 1) + 1 by omega]; exact Ta_stop hlc (by rw [← hIN]; exact hc74)), hI69⟩)
          exact loop57 _ 0 x 0 rk M ld cn ln0 v0 pl0 g H locs ls (Nat.le_refl _) (by omega) hx (by omega) (fun r9 h9 => h9) hM hln0 (fun z _ => rfl) hC5 hE5.1 hE5.2.1 hE5.2.2.2.1 hE5.2.2.2.2 hK.1 hK.2 hE5.2.2.1 hw (lv_sub hl [3, 4, 5, 6, 2, 1, 0] rfl)
        · have hE73 : EqAt ca ad g 135 1 (ck + 11) ct rk M ld ln0 := ⟨hE5.1, hE5.2.1, hE5.2.2.1, hE5.2.2.2.1, hE5.2.2.2.2⟩
          have hC74 : CtAt ca ad g ck ct (if ck = 0 then 0 else tnN (fb ck)) cn := by rw [if_neg hne]; exact hC5
          have hE75 : EqAt ca ad g 135 1 (if ck = 0 then 0 else ck + 11) ct rk M ld ln0 := by rw [if_neg hne]; exact hE73
          have hF77 : FieldAt ca ad g 1 pw ex := ⟨hF.1, hF.2.1, hF.2.2⟩
          have hK78 : PkAt ca ad g 6 v0 pl0 := ⟨hK.1, hK.2⟩
          have hE79 : EqAt ca ad g 8 1 Lw Tw sw.1 sw.2.1 sw.2.2.1 sw.2.2.2 := ⟨hEw.1, hEw.2.1, hEw.2.2.1, hEw.2.2.2.1, hEw.2.2.2.2⟩
          have hI76 : DInv ca ad g pw ex fb len h bk bt BM ck ct cn rk M ld := ⟨eO, hF77, ⟨hT4.1, hT4.2⟩, ⟨_, _, hK78⟩, ⟨_, _, _, hE79, hBw⟩, eT, ⟨_, eD, hfd⟩, ⟨hB.1, hB.2.1, hB.2.2⟩, hC74, ⟨_, hln0, hE75⟩, ⟨hlen, hh⟩, ⟨hbk, hBM⟩, ⟨hck, hM⟩⟩
          exact hthr H locs ls _ _ _ xA 77 79 tw_A hw hl.1 dX7_takeAll_40 dX7_takeAll_43 dX7_takeAll_44 dX7_takeAll_47 (by decide) (Nat.le_of_ble_eq_true rfl) (by decide) (by decide) (⟨Or.inr (Or.inr ⟨rfl, hfit, of_decide_eq_true hc19, fun ⟨n, h1, h2⟩ => by first | exact absurd hc31 (by rw [h1]; exact nI_pos (by omega)) | exact hc37 (by rw [h1]; exact nI_le (b := 100) h2 (by decide))⟩), fun z _ => rfl, hI76⟩)
    · have hE80 : EqAt ca ad g 135 1 (ck + 11) ct rk M ld ln0 := ⟨hE5.1, hE5.2.1, hE5.2.2.1, hE5.2.2.2.1, hE5.2.2.2.2⟩
      have hC81 : CtAt ca ad g ck ct (if ck = 0 then 0 else tnN (fb ck)) cn := by rw [if_neg hne]; exact hC5
      have hE82 : EqAt ca ad g 135 1 (if ck = 0 then 0 else ck + 11) ct rk M ld ln0 := by rw [if_neg hne]; exact hE80
      have hF84 : FieldAt ca ad g 1 pw ex := ⟨hF.1, hF.2.1, hF.2.2⟩
      have hK85 : PkAt ca ad g 6 v0 pl0 := ⟨hK.1, hK.2⟩
      have hE86 : EqAt ca ad g 8 1 Lw Tw sw.1 sw.2.1 sw.2.2.1 sw.2.2.2 := ⟨hEw.1, hEw.2.1, hEw.2.2.1, hEw.2.2.2.1, hEw.2.2.2.2⟩
      have hI83 : DInv ca ad g pw ex fb len h bk bt BM ck ct cn rk M ld := ⟨eO, hF84, ⟨hT4.1, hT4.2⟩, ⟨_, _, hK85⟩, ⟨_, _, _, hE86, hBw⟩, eT, ⟨_, eD, hfd⟩, ⟨hB.1, hB.2.1, hB.2.2⟩, hC81, ⟨_, hln0, hE82⟩, ⟨hlen, hh⟩, ⟨hbk, hBM⟩, ⟨hck, hM⟩⟩
      exact hthr H locs ls _ _ _ xO 110 112 tw_O hw hl.1 dX7_takeAll_22 dX7_takeAll_25 dX7_takeAll_26 dX7_takeAll_29 (by decide) (Nat.le_of_ble_eq_true rfl) (by decide) (by decide) (⟨Or.inr (Or.inl ⟨rfl, hfit, of_decide_eq_false hc19⟩), fun z _ => rfl, hI83⟩)
  · have hF88 : FieldAt ca ad g 1 pw ex := ⟨hF.1, hF.2.1, hF.2.2⟩
    have hK89 : PkAt ca ad g 6 v0 pl0 := ⟨hK.1, hK.2⟩
    have hE90 : EqAt ca ad g 8 1 Lw Tw sw.1 sw.2.1 sw.2.2.1 sw.2.2.2 := ⟨hEw.1, hEw.2.1, hEw.2.2.1, hEw.2.2.2.1, hEw.2.2.2.2⟩
    have hE91 : EqAt ca ad g 135 1 (if ck = 0 then 0 else ck + 11) ct rk M ld ln0 := ⟨hEc.1, hEc.2.1, hEc.2.2.1, hEc.2.2.2.1, hEc.2.2.2.2⟩
    have hI87 : DInv ca ad g pw ex fb len h bk bt BM ck ct cn rk M ld := ⟨eO, hF88, ⟨hT4.1, hT4.2⟩, ⟨_, _, hK89⟩, ⟨_, _, _, hE90, hBw⟩, eT, ⟨_, eD, hfd⟩, ⟨hB.1, hB.2.1, hB.2.2⟩, hC, ⟨_, hln0, hE91⟩, ⟨hlen, hh⟩, ⟨hbk, hBM⟩, ⟨hck, hM⟩⟩
    exact hthr H locs ls _ _ _ xI 101 103 tw_I hw hl.1 dX7_takeAll_7 dX7_takeAll_10 dX7_takeAll_11 dX7_takeAll_14 (by decide) (Nat.le_of_ble_eq_true rfl) (by decide) (by decide) (⟨Or.inl ⟨rfl, of_decide_eq_false hc4⟩, fun z _ => rfl, hI87⟩)
