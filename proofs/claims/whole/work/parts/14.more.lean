/-! ===== further rows of the layer ===== -/
section Layer3
variable {p : Program} {l : Launch} {e : Env} {Rm : Room} {s : State} {m : MethodId} {args : Array Value} {below : List Frame} {meth : Method} {c : Code} {H : Heap} {locs : List Loc} {cells slots : Nat} {Q : State → Prop}
variable {cc : ByteArray} {nL pc : Nat} {own : String} {ls : Array Slot} {rest : List Value} {D : va_G} {ca : Nat → ClassId} {tB tS : Nat} {A : Nat → Prop} {R : Nat} {ad : Nat → Nat} {g : Nat → va_E}
theorem k_ialdR (C : CallFix p m c cc nL s args GW own) (F : Fx D ca tB tS A s) (hw : Wd D A s R ad g H locs) (i : Nat) {n : Nat} {f : Nat → Int32} (hi : i < R) (he : g i = ia ca n f) (j : Nat) (hj : j < n) (hn : n < 2 ^ 31) (hdg : decode cc pc = .ok (.iaload, 1))
    (kk : W p l e Rm s m args below meth c H locs cells slots Q (F0 m (pc + 1) ls (.int (f j) :: rest))) : W p l e Rm s m args below meth c H locs cells slots Q (F0 m pc ls (.int (nI j) :: .ref (ad i) :: rest)) := by
  refine va_iald C.1 C.2.1 F.1 hw.1 i 0 (ww_at i hi he) rfl (vp_in_nI hj hn) hdg ?_
  rw [nI_clamp (by omega)]
  exact kk
theorem k_iastR (C : CallFix p m c cc nL s args GW own) (F : Fx D ca tB tS A s) (hw : Wd D A s R ad g H locs) (i : Nat) {n : Nat} {f : Nat → Int32} (hi : i < R) (he : g i = ia ca n f) (j : Nat) (x : Int32) (hj : j < n) (hn : n < 2 ^ 31) (hdg : decode cc pc = .ok (.iastore, 1))
    (kk : ∀ (H1 : Heap) (locs1 : List Loc), Wd D A s R ad (va_up g i (ia ca n (upd f j x))) H1 locs1 → W p l e Rm s m args below meth c H1 locs1 cells slots Q (F0 m (pc + 1) ls rest)) : W p l e Rm s m args below meth c H locs cells slots Q (F0 m pc ls (.int x :: .int (nI j) :: .ref (ad i) :: rest)) := by
  refine va_iast C.1 C.2.1 F.1 hw.1 hw.2.1 hw.2.2 i 0 (ww_at i hi he) rfl (vp_in_nI hj hn) hdg (fun H1 locs1 h1 h2 h3 => ?_)
  rw [ww_set, nI_clamp (by omega)] at h1 h2
  exact kk H1 locs1 ⟨h1, h2, h3⟩
theorem k_bald (C : CallFix p m c cc nL s args GW own) (F : Fx D ca tB tS A s) (hw : Wd D A s R ad g H locs) (i : Nat) {n : Nat} {f : Nat → Int32} (hi : i < R) (he : g i = ba ca n f) (j : Nat) (hj : j < n) (hn : n < 2 ^ 31) (hdg : decode cc pc = .ok (.baload, 1))
    (kk : W p l e Rm s m args below meth c H locs cells slots Q (F0 m (pc + 1) ls (.int (f j) :: rest))) : W p l e Rm s m args below meth c H locs cells slots Q (F0 m pc ls (.int (nI j) :: .ref (ad i) :: rest)) := by
  refine va_bald C.1 C.2.1 F.1 hw.1 i 1 (ww_at i hi he) rfl (vp_in_nI hj hn) hdg ?_
  rw [nI_clamp (by omega)]
  exact kk
theorem k_bast (C : CallFix p m c cc nL s args GW own) (F : Fx D ca tB tS A s) (hw : Wd D A s R ad g H locs) (i : Nat) {n : Nat} {f : Nat → Int32} {x : Int32} (hi : i < R) (he : g i = ba ca n f) (j : Nat) (hj : j < n) (hn : n < 2 ^ 31) (hdg : decode cc pc = .ok (.bastore, 1))
    (kk : ∀ (H1 : Heap) (locs1 : List Loc), Wd D A s R ad (va_up g i (ba ca n (upd f j (vp_nar .byte x)))) H1 locs1 → W p l e Rm s m args below meth c H1 locs1 cells slots Q (F0 m (pc + 1) ls rest)) : W p l e Rm s m args below meth c H locs cells slots Q (F0 m pc ls (.int x :: .int (nI j) :: .ref (ad i) :: rest)) := by
  refine va_bast C.1 C.2.1 F.1 hw.1 hw.2.1 hw.2.2 i 1 (ww_at i hi he) rfl (vp_in_nI hj hn) hdg (fun H1 locs1 h1 h2 h3 => ?_)
  rw [ww_set, nI_clamp (by omega)] at h1 h2
  exact kk H1 locs1 ⟨h1, h2, h3⟩
theorem k_getsB (C : CallFix p m c cc nL s args GW own) (F : Fx D ca tB tS A s) (hw : Wd D A s R ad g H locs) {index : Nat} (hl : Cond.fieldLink own index RX4 "BELOW" "[I" ∈ GW) (hdg : decode cc pc = .ok (.getstatic index, 3)) (kk : W p l e Rm s m args below meth c H locs cells slots Q (F0 m (pc + 3) ls (.ref tB :: rest))) : W p l e Rm s m args below meth c H locs cells slots Q (F0 m pc ls rest) :=
  va_gets C.1 C.2.1 F.2.1.2.1.1 hw.2.2 C.2.2.2.1 (C.2.2.2.2 _ hl) (fun _ h => h) hdg kk
theorem k_getsS (C : CallFix p m c cc nL s args GW own) (F : Fx D ca tB tS A s) (hw : Wd D A s R ad g H locs) {index : Nat} (hl : Cond.fieldLink own index RX4 "SIZES" "[I" ∈ GW) (hdg : decode cc pc = .ok (.getstatic index, 3)) (kk : W p l e Rm s m args below meth c H locs cells slots Q (F0 m (pc + 3) ls (.ref tS :: rest))) : W p l e Rm s m args below meth c H locs cells slots Q (F0 m pc ls rest) :=
  va_gets C.1 C.2.1 F.2.1.2.2.1.1 hw.2.2 C.2.2.2.1 (C.2.2.2.2 _ hl) (fun _ h => h) hdg kk
theorem k_tabB (C : CallFix p m c cc nL s args GW own) (F : Fx D ca tB tS A s) (hw : Wd D A s R ad g H locs) (j : Nat) (hj : j < 11) (hdg : decode cc pc = .ok (.iaload, 1)) (kk : W p l e Rm s m args below meth c H locs cells slots Q (F0 m (pc + 1) ls (.int (nI (fBelow.getD j 0)) :: rest))) : W p l e Rm s m args below meth c H locs cells slots Q (F0 m pc ls (.int (nI j) :: .ref tB :: rest)) :=
  va_ti C.1 C.2.1 F.2.1.2.1.2 hw.2.2 (vp_in_nI hj (by decide)) (by rw [nI_clamp (by omega)]) hdg kk
theorem k_tabS (C : CallFix p m c cc nL s args GW own) (F : Fx D ca tB tS A s) (hw : Wd D A s R ad g H locs) (j : Nat) (hj : j < 11) (hdg : decode cc pc = .ok (.iaload, 1)) (kk : W p l e Rm s m args below meth c H locs cells slots Q (F0 m (pc + 1) ls (.int (nI (fSizes.getD j 0)) :: rest))) : W p l e Rm s m args below meth c H locs cells slots Q (F0 m pc ls (.int (nI j) :: .ref tS :: rest)) :=
  va_ti C.1 C.2.1 F.2.1.2.2.1.2 hw.2.2 (vp_in_nI hj (by decide)) (by rw [nI_clamp (by omega)]) hdg kk
theorem k_tlenB (C : CallFix p m c cc nL s args GW own) (F : Fx D ca tB tS A s) (hw : Wd D A s R ad g H locs) (hdg : decode cc pc = .ok (.arraylength, 1)) (kk : W p l e Rm s m args below meth c H locs cells slots Q (F0 m (pc + 1) ls (.int (nI 11) :: rest))) : W p l e Rm s m args below meth c H locs cells slots Q (F0 m pc ls (.ref tB :: rest)) :=
  va_tlen C.1 C.2.1 F.2.1.2.1.2 hw.2.2 rfl hdg kk
theorem k_tlenS (C : CallFix p m c cc nL s args GW own) (F : Fx D ca tB tS A s) (hw : Wd D A s R ad g H locs) (hdg : decode cc pc = .ok (.arraylength, 1)) (kk : W p l e Rm s m args below meth c H locs cells slots Q (F0 m (pc + 1) ls (.int (nI 11) :: rest))) : W p l e Rm s m args below meth c H locs cells slots Q (F0 m pc ls (.ref tS :: rest)) :=
  va_tlen C.1 C.2.1 F.2.1.2.2.1.2 hw.2.2 rfl hdg kk
theorem k_lrem (C : CallFix p m c cc nL s args GW own) {a b : Nat} (hdg : decode cc pc = .ok (.lrem, 1)) (ha : a < 2 ^ 63) (h0 : 0 < b) (hb : b < 2 ^ 63) (kk : W p l e Rm s m args below meth c H locs cells slots Q (F0 m (pc + 1) ls (.long (lN (a % b)) :: rest))) : W p l e Rm s m args below meth c H locs cells slots Q (F0 m pc ls (.long (lN b) :: .long (lN a) :: rest)) :=
  lv_lrem C.1 C.2.1 hdg (fun h => by have := (pk_lEQ (b := 0) hb (by decide)).mp h; omega) (k_tl (pk_lRem ha h0 hb) kk)
end Layer3
/-! ===== longs (rows of laws/BITS.to-paste) and the mix ===== -/
theorem wb_tb (n : Nat) : (lN n).toBitVec = BitVec.ofNat 64 n := rfl
theorem wb_inj {a b : Int64} (h : a.toBitVec = b.toBitVec) : a = b := Int64.toBitVec_inj.mp h
theorem wb_tn {n : Nat} (h : n < 2 ^ 64) : (lN n).toBitVec.toNat = n := by rw [wb_tb, BitVec.toNat_ofNat, Nat.mod_eq_of_lt h]
theorem wb_of32 (x : Int32) : ∃ n, n < 2 ^ 32 ∧ x = nI n := ⟨x.toBitVec.toNat, x.toBitVec.isLt, Int32.toBitVec_inj.mp (by show _ = BitVec.ofNat 32 _; simp)⟩
theorem wb_cu : ∀ k, k < 64 → ((nI k).toInt64.toUInt64 &&& Int64.toUInt64 63) = UInt64.ofNat k := by decide +kernel
theorem wb_mod (n : Nat) : lN n = lN (n % 2 ^ 64) := wb_inj (by rw [wb_tb, wb_tb]; apply BitVec.eq_of_toNat_eq; rw [BitVec.toNat_ofNat, BitVec.toNat_ofNat, Nat.mod_mod])
theorem wb_shr {n k : Nat} (hn : n < 2 ^ 64) (hk : k < 64) : ((lN n).toUInt64 >>> ((nI k).toInt64.toUInt64 &&& Int64.toUInt64 63)).toInt64 = lN (n / 2 ^ k) := by
  rw [wb_cu k hk]
  apply wb_inj
  apply BitVec.eq_of_toNat_eq
  show ((lN n).toUInt64 >>> UInt64.ofNat k).toNat = (BitVec.ofNat 64 _).toNat
  have h1 : (UInt64.ofNat k).toNat = k := by
    show (BitVec.ofNat 64 k).toNat = k
    rw [BitVec.toNat_ofNat, Nat.mod_eq_of_lt (by omega)]
  have h2 : (lN n).toUInt64.toNat = n := wb_tn hn
  rw [UInt64.toNat_shiftRight, h1, h2, Nat.mod_eq_of_lt hk, Nat.shiftRight_eq_div_pow, BitVec.toNat_ofNat, Nat.mod_eq_of_lt (Nat.lt_of_le_of_lt (Nat.div_le_self _ _) hn)]
theorem lN_xor (a b : Nat) : lN a ^^^ lN b = lN (a ^^^ b) := wb_inj (by simp [lN])
def mz1 (y s : Nat) : Nat := (y + (s + 1) * 0x9E3779B97F4A7C15) % 2 ^ 64
def mz2 (z : Nat) : Nat := (z ^^^ (z / 2 ^ 30)) * 0xBF58476D1CE4E5B9 % 2 ^ 64
def mz3 (z : Nat) : Nat := (z ^^^ (z / 2 ^ 27)) * 0x94D049BB133111EB % 2 ^ 64
def mz4 (z : Nat) : Nat := z ^^^ (z / 2 ^ 31)
def mixN (y s : Nat) : Nat := mz4 (mz3 (mz2 (mz1 y s)))
/-- by choice, so that nothing unfolds it unasked -/
theorem chN_ex : ∃ f : Nat → Nat → Nat → Nat, ∀ y s m, f y s m = mixN y s / 2 ^ 32 % m := ⟨fun y s m => mixN y s / 2 ^ 32 % m, fun _ _ _ => rfl⟩
noncomputable def chN : Nat → Nat → Nat → Nat := Classical.choose chN_ex
theorem chN_eq (y s m : Nat) : chN y s m = mixN y s / 2 ^ 32 % m := Classical.choose_spec chN_ex y s m
theorem mz1_lt (y s : Nat) : mz1 y s < 2 ^ 64 := Nat.mod_lt _ (by decide)
theorem mz2_lt (z : Nat) : mz2 z < 2 ^ 64 := Nat.mod_lt _ (by decide)
theorem mz3_lt (z : Nat) : mz3 z < 2 ^ 64 := Nat.mod_lt _ (by decide)
theorem mz4_lt {z : Nat} (h : z < 2 ^ 64) : mz4 z < 2 ^ 64 := Nat.xor_lt_two_pow h (Nat.lt_of_le_of_lt (Nat.div_le_self _ _) h)
theorem mixN_lt (y s : Nat) : mixN y s < 2 ^ 64 := mz4_lt (mz3_lt _)
theorem mzr1 (y s : Nat) (hs : s < 100) : lN y + (nI (s + 1)).toInt64 * (-7046029254386353131 : Int64) = lN (mz1 y s) := by
  rw [nI_l (by omega), show (-7046029254386353131 : Int64) = lN 0x9E3779B97F4A7C15 from by decide, lN_mul, lN_add, wb_mod]
  rfl
theorem mzr2 {z : Nat} (h : z < 2 ^ 64) : (lN z ^^^ ((lN z).toUInt64 >>> ((nI 30).toInt64.toUInt64 &&& Int64.toUInt64 63)).toInt64) * (-4658895280553007687 : Int64) = lN (mz2 z) := by
  rw [wb_shr h (by decide), lN_xor, show (-4658895280553007687 : Int64) = lN 0xBF58476D1CE4E5B9 from by decide, lN_mul, wb_mod]
  rfl
theorem mzr3 {z : Nat} (h : z < 2 ^ 64) : (lN z ^^^ ((lN z).toUInt64 >>> ((nI 27).toInt64.toUInt64 &&& Int64.toUInt64 63)).toInt64) * (-7723592293110705685 : Int64) = lN (mz3 z) := by
  rw [wb_shr h (by decide), lN_xor, show (-7723592293110705685 : Int64) = lN 0x94D049BB133111EB from by decide, lN_mul, wb_mod]
  rfl
theorem mzr4 {z : Nat} (h : z < 2 ^ 64) : lN z ^^^ ((lN z).toUInt64 >>> ((nI 31).toInt64.toUInt64 &&& Int64.toUInt64 63)).toInt64 = lN (mz4 z) := by
  rw [wb_shr h (by decide), lN_xor]
  rfl
theorem mzr5 {z : Nat} (h : z < 2 ^ 64) : ((lN z).toUInt64 >>> ((nI 32).toInt64.toUInt64 &&& Int64.toUInt64 63)).toInt64 = lN (z / 2 ^ 32) := wb_shr h (by decide)
theorem hi32 {z : Nat} (h : z < 2 ^ 64) : z / 2 ^ 32 < 2 ^ 32 := by omega
/-! ===== small numbers ===== -/
def prN (p : Nat) : Bool := decide (∀ d, d < p → 2 ≤ d → p % d ≠ 0)
def lpF : Nat → Nat → Nat
  | 0, p => p
  | n + 1, p => if prN p = true then p else lpF n (p + 1)
def lpN (l : Nat) : Nat := lpF 8 l
theorem lp_tab : ∀ l, l < 60 → 12 ≤ l → prN (lpN l) = true ∧ lpN l < 2 * l ∧ lpN l ≤ 61 ∧ l ≤ lpN l ∧ ∀ q, q < lpN l → l ≤ q → prN q = false := by decide +kernel
theorem prN_small {p d : Nat} (h : ∀ k, k < d → 2 ≤ k → p % k ≠ 0) (hd : p < d * d) (hp : 0 < p) : prN p = true := by
  unfold prN
  rw [decide_eq_true_iff]
  intro k hk h2 h0
  by_cases hkd : k < d
  · exact h k hkd h2 h0
  · have hq : k * (p / k) = p := by have := Nat.div_add_mod p k; omega
    generalize p / k = q at hq
    have h3 : q < d := by
      by_cases hx : q < d
      · exact hx
      · exfalso
        have : d * d ≤ k * q := Nat.mul_le_mul (by omega) (by omega)
        omega
    have h4 : 2 ≤ q := by
      by_cases h5 : q = 0
      · rw [h5, Nat.mul_zero] at hq; omega
      · by_cases h6 : q = 1
        · rw [h6, Nat.mul_one] at hq; omega
        · omega
    refine h q h3 h4 ?_
    rw [← hq]
    exact Nat.mul_mod_left _ _
def szN (v : Nat) : Nat := if v < 5 then 1 else if v < 505 then 2 else if v < 671 then 3 else if v < 754 then 4 else if v < 804 then 5 else if v < 837 then 6 else if v < 861 then 7 else if v < 879 then 8 else if v < 900 then 10 else if v < 960 then 20 else 40
theorem sz_tab {v i : Nat} (hi : i < 11) (h : ∀ j, j < i → fBelow.getD j 0 ≤ v) (hv : v < fBelow.getD i 0) : fSizes.getD i 0 = szN v := by
  match i, hi with
  | 0, _ =>
    have h2 : v < 5 := hv
    show 1 = szN v
    unfold szN
    (repeat' split) <;> omega
  | 1, _ =>
    have h1 : 5 ≤ v := h 0 (by omega)
    have h2 : v < 505 := hv
    show 2 = szN v
    unfold szN
    (repeat' split) <;> omega
  | 2, _ =>
    have h1 : 505 ≤ v := h 1 (by omega)
    have h2 : v < 671 := hv
    show 3 = szN v
    unfold szN
    (repeat' split) <;> omega
  | 3, _ =>
    have h1 : 671 ≤ v := h 2 (by omega)
    have h2 : v < 754 := hv
    show 4 = szN v
    unfold szN
    (repeat' split) <;> omega
  | 4, _ =>
    have h1 : 754 ≤ v := h 3 (by omega)
    have h2 : v < 804 := hv
    show 5 = szN v
    unfold szN
    (repeat' split) <;> omega
  | 5, _ =>
    have h1 : 804 ≤ v := h 4 (by omega)
    have h2 : v < 837 := hv
    show 6 = szN v
    unfold szN
    (repeat' split) <;> omega
  | 6, _ =>
    have h1 : 837 ≤ v := h 5 (by omega)
    have h2 : v < 861 := hv
    show 7 = szN v
    unfold szN
    (repeat' split) <;> omega
  | 7, _ =>
    have h1 : 861 ≤ v := h 6 (by omega)
    have h2 : v < 879 := hv
    show 8 = szN v
    unfold szN
    (repeat' split) <;> omega
  | 8, _ =>
    have h1 : 879 ≤ v := h 7 (by omega)
    have h2 : v < 900 := hv
    show 10 = szN v
    unfold szN
    (repeat' split) <;> omega
  | 9, _ =>
    have h1 : 900 ≤ v := h 8 (by omega)
    have h2 : v < 960 := hv
    show 20 = szN v
    unfold szN
    (repeat' split) <;> omega
  | 10, _ =>
    have h1 : 960 ≤ v := h 9 (by omega)
    have h2 : v < 1000 := hv
    show 40 = szN v
    unfold szN
    (repeat' split) <;> omega
section Layer3b
variable {p : Program} {l : Launch} {e : Env} {Rm : Room} {s : State} {m : MethodId} {args : Array Value} {below : List Frame} {meth : Method} {c : Code} {H : Heap} {locs : List Loc} {cells slots : Nat} {Q : State → Prop}
variable {cc : ByteArray} {nL pc : Nat} {own : String} {ls : Array Slot} {rest : List Value} {D : va_G} {ca : Nat → ClassId} {tB tS : Nat} {A : Nat → Prop} {R : Nat} {ad : Nat → Nat} {g : Nat → va_E}
theorem k_alenR (C : CallFix p m c cc nL s args GW own) (F : Fx D ca tB tS A s) (hw : Wd D A s R ad g H locs) (i : Nat) {n : Nat} {f : Nat → Int32} (hi : i < R) (he : g i = ia ca n f) (hdg : decode cc pc = .ok (.arraylength, 1))
    (kk : W p l e Rm s m args below meth c H locs cells slots Q (F0 m (pc + 1) ls (.int (nI n) :: rest))) : W p l e Rm s m args below meth c H locs cells slots Q (F0 m pc ls (.ref (ad i) :: rest)) :=
  va_alen C.1 C.2.1 F.1 hw.1 i 0 (ww_at i hi he) (ty := .int) rfl rfl hdg kk
end Layer3b
