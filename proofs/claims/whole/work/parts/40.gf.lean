/-! ===== the field of 256: the model's product ===== -/
def xt (a : Nat) : Nat := if a < 128 then 2 * a else 2 * a ^^^ 285
def xk : Nat → Nat → Nat
  | 0, a => a
  | k + 1, a => xt (xk k a)
def mtn (b a : Nat) : Nat → Nat
  | 0 => 0
  | k + 1 => mtn b a k ^^^ (if b.testBit k = true then xk k a else 0)
def mt (a b : Nat) : Nat := mtn b a 8
theorem xt_eq {a : Nat} (h : a < 256) : xt a = 2 * a ^^^ (a / 128) * 285 := by
  unfold xt
  split
  · rw [show a / 128 = 0 by omega, Nat.zero_mul, Nat.xor_zero]
  · rw [show a / 128 = 1 by omega, Nat.one_mul]
theorem xt_tab : ∀ a, a < 256 → xt a < 256 := by decide +kernel
theorem xlt {a b : Nat} (ha : a < 256) (hb : b < 256) : a ^^^ b < 256 := Nat.xor_lt_two_pow (n := 8) ha hb
theorem xor_swap (a b c d : Nat) : (a ^^^ b) ^^^ (c ^^^ d) = (a ^^^ c) ^^^ (b ^^^ d) := by
  rw [Nat.xor_assoc, Nat.xor_assoc, ← Nat.xor_assoc b c d, Nat.xor_comm b c, Nat.xor_assoc c b d]
theorem bit_mul (x y k : Nat) (hx : x < 2) (hy : y < 2) : (x ^^^ y) * k = x * k ^^^ y * k := by
  have h1 : x = 0 ∨ x = 1 := by omega
  have h2 : y = 0 ∨ y = 1 := by omega
  rcases h1 with h1 | h1 <;> rcases h2 with h2 | h2 <;> subst h1 <;> subst h2 <;> simp
theorem xt_xor {a b : Nat} (ha : a < 256) (hb : b < 256) : xt (a ^^^ b) = xt a ^^^ xt b := by
  rw [xt_eq ha, xt_eq hb, xt_eq (xlt ha hb)]
  have h1 : 2 * (a ^^^ b) = 2 * a ^^^ 2 * b := by
    have := Nat.shiftLeft_xor_distrib (a := a) (b := b) (i := 1)
    simp only [Nat.shiftLeft_eq] at this
    rw [Nat.mul_comm 2, Nat.mul_comm 2 a, Nat.mul_comm 2 b]
    exact this
  have h2 : (a ^^^ b) / 128 = a / 128 ^^^ b / 128 := by
    have := Nat.shiftRight_xor_distrib (a := a) (b := b) (i := 7)
    simpa only [Nat.shiftRight_eq_div_pow] using this
  rw [h1, h2, bit_mul _ _ _ (by omega) (by omega), xor_swap]
theorem xk_lt {a : Nat} (h : a < 256) : ∀ k, xk k a < 256
  | 0 => h
  | k + 1 => xt_tab _ (xk_lt h k)
theorem xk_xor {a b : Nat} (ha : a < 256) (hb : b < 256) : ∀ k, xk k (a ^^^ b) = xk k a ^^^ xk k b
  | 0 => rfl
  | k + 1 => by show xt (xk k (a ^^^ b)) = xt (xk k a) ^^^ xt (xk k b); rw [xk_xor ha hb k, xt_xor (xk_lt ha k) (xk_lt hb k)]
theorem xk_add (a i : Nat) : ∀ j, xk j (xk i a) = xk (i + j) a
  | 0 => rfl
  | j + 1 => by show xt (xk j (xk i a)) = xt (xk (i + j) a); rw [xk_add a i j]
theorem xk_0 : ∀ k, xk k 0 = 0
  | 0 => rfl
  | k + 1 => by show xt (xk k 0) = 0; rw [xk_0 k]; rfl
theorem mtn_lt {a b : Nat} (h : a < 256) : ∀ k, mtn b a k < 256
  | 0 => by unfold mtn; decide
  | k + 1 => by
    unfold mtn
    refine xlt (mtn_lt h k) ?_
    split
    · exact xk_lt h k
    · decide
theorem mt_lt {a b : Nat} (h : a < 256) : mt a b < 256 := mtn_lt h 8
theorem mtn_xl {a b c : Nat} (ha : a < 256) (hb : b < 256) : ∀ k, mtn c (a ^^^ b) k = mtn c a k ^^^ mtn c b k
  | 0 => by simp [mtn]
  | k + 1 => by
    unfold mtn
    rw [mtn_xl ha hb k]
    split
    · rw [xk_xor ha hb, xor_swap]
    · rw [Nat.xor_zero, Nat.xor_zero, Nat.xor_zero]
theorem mt_xl {a b : Nat} (c : Nat) (ha : a < 256) (hb : b < 256) : mt (a ^^^ b) c = mt a c ^^^ mt b c := mtn_xl ha hb 8
theorem mtn_xr {a b c : Nat} : ∀ k, mtn (b ^^^ c) a k = mtn b a k ^^^ mtn c a k
  | 0 => by simp [mtn]
  | k + 1 => by
    unfold mtn
    rw [mtn_xr k, Nat.testBit_xor]
    rw [xor_swap]
    cases b.testBit k <;> cases c.testBit k <;> simp
theorem mt_xr (a b c : Nat) : mt a (b ^^^ c) = mt a b ^^^ mt a c := mtn_xr 8
theorem mt_r0 (a : Nat) : mt a 0 = 0 := by simp [mt, mtn]
theorem mtn_l0 (b : Nat) : ∀ k, mtn b 0 k = 0
  | 0 => rfl
  | k + 1 => by unfold mtn; rw [mtn_l0 b k, xk_0]; split <;> rfl
theorem mt_l0 (b : Nat) : mt 0 b = 0 := mtn_l0 b 8
theorem mt_r1 (a : Nat) : mt a 1 = a := by
  unfold mt
  have h : ∀ k, mtn 1 a (k + 1) = a := by
    intro k
    induction k with
    | zero => simp [mtn, xk]
    | succ k ih => unfold mtn; rw [ih, Nat.testBit_lt_two_pow (Nat.one_lt_two_pow (by omega))]; simp
  exact h 7
theorem lin_ext {f g : Nat → Nat} (hf : ∀ a b, a < 256 → b < 256 → f (a ^^^ b) = f a ^^^ f b) (hg : ∀ a b, a < 256 → b < 256 → g (a ^^^ b) = g a ^^^ g b) (h : ∀ k, k < 8 → f (2 ^ k) = g (2 ^ k)) {a : Nat} (ha : a < 256) : f a = g a := by
  have hz : ∀ (f : Nat → Nat), (∀ a b, a < 256 → b < 256 → f (a ^^^ b) = f a ^^^ f b) → f 0 = 0 := fun f hf => by
    have := hf 0 0 (by decide) (by decide)
    rw [Nat.xor_self, Nat.xor_self] at this
    exact this
  have key : ∀ n, n ≤ 8 → ∀ a, a < 2 ^ n → f a = g a := by
    intro n
    induction n with
    | zero => intro _ a h; rw [show a = 0 by omega, hz f hf, hz g hg]
    | succ n ih =>
      intro hn a h1
      by_cases h2 : a < 2 ^ n
      · exact ih (by omega) a h2
      · have h3 : 2 ^ (n + 1) = 2 ^ n + 2 ^ n := by rw [Nat.pow_succ]; omega
        have h4 : a - 2 ^ n < 2 ^ n := by omega
        have h5 : 2 ^ n ≤ 2 ^ 7 := Nat.pow_le_pow_right (by decide) (by omega)
        have h6 : a = 2 ^ n ^^^ (a - 2 ^ n) := by
          have := Nat.two_pow_add_eq_or_of_lt h4 1
          rw [Nat.mul_one] at this
          have h7 : 2 ^ n ^^^ (a - 2 ^ n) = 2 ^ n + (a - 2 ^ n) := by
            rw [this]
            apply Nat.eq_of_testBit_eq
            intro i
            rw [Nat.testBit_xor, Nat.testBit_or, Nat.testBit_two_pow]
            by_cases hi : n = i
            · subst hi; rw [Nat.testBit_lt_two_pow h4]; simp
            · simp [hi]
          omega
        rw [h6, hf _ _ (by omega) (by omega), hg _ _ (by omega) (by omega), h n (by omega), ih (by omega) _ h4]
  exact key 8 (Nat.le_refl _) a ha
theorem mt_xt_tab : ∀ i, i < 8 → ∀ j, j < 8 → mt (2 ^ i) (xt (2 ^ j)) = xt (mt (2 ^ i) (2 ^ j)) := by decide +kernel
theorem mt_xt {a b : Nat} (ha : a < 256) (hb : b < 256) : mt a (xt b) = xt (mt a b) := by
  refine lin_ext (f := fun b => mt a (xt b)) (g := fun b => xt (mt a b)) ?_ ?_ ?_ hb
  · intro x y hx hy
    show mt a (xt (x ^^^ y)) = _
    rw [xt_xor hx hy, mt_xr]
  · intro x y hx hy
    show xt (mt a (x ^^^ y)) = _
    rw [mt_xr, xt_xor (mt_lt ha) (mt_lt ha)]
  · intro j hj
    have h2 : (2 : Nat) ^ j < 256 := Nat.lt_of_le_of_lt (Nat.pow_le_pow_right (by decide) (show j ≤ 7 by omega)) (by decide)
    refine lin_ext (f := fun a => mt a (xt (2 ^ j))) (g := fun a => xt (mt a (2 ^ j))) ?_ ?_ ?_ ha
    · intro x y hx hy; exact mt_xl _ hx hy
    · intro x y hx hy
      show xt (mt (x ^^^ y) (2 ^ j)) = _
      rw [mt_xl _ hx hy, xt_xor (mt_lt hx) (mt_lt hy)]
    · intro i hi; exact mt_xt_tab i hi j hj
/-- the powers of 2 -/
def pwG (e : Nat) : Nat := xk e 1
theorem pwG_lt (e : Nat) : pwG e < 256 := xk_lt (by decide) e
theorem mt_pw {a : Nat} (ha : a < 256) : ∀ e, mt a (pwG e) = xk e a
  | 0 => mt_r1 a
  | e + 1 => by show mt a (xt (pwG e)) = xt (xk e a); rw [mt_xt ha (pwG_lt e), mt_pw ha e]
theorem mt_pp (i j : Nat) : mt (pwG i) (pwG j) = pwG (i + j) := by rw [mt_pw (pwG_lt i)]; exact xk_add 1 i j
theorem pwG_255 : pwG 255 = 1 := by decide +kernel
theorem pwG_per (i : Nat) : pwG (i + 255) = pwG i := by rw [← mt_pp, pwG_255, mt_r1]
def lgL : List Nat := [0, 0, 1, 25, 2, 50, 26, 198, 3, 223, 51, 238, 27, 104, 199, 75, 4, 100, 224, 14, 52, 141, 239, 129, 28, 193, 105, 248, 200, 8, 76, 113, 5, 138, 101, 47, 225, 36, 15, 33, 53, 147, 142, 218, 240, 18, 130, 69, 29, 181, 194, 125, 106, 39, 249, 185, 201, 154, 9, 120, 77, 228, 114, 166, 6, 191, 139, 98, 102, 221, 48, 253, 226, 152, 37, 179, 16, 145, 34, 136, 54, 208, 148, 206, 143, 150, 219, 189, 241, 210, 19, 92, 131, 56, 70, 64, 30, 66, 182, 163, 195, 72, 126, 110, 107, 58, 40, 84, 250, 133, 186, 61, 202, 94, 155, 159, 10, 21, 121, 43, 78, 212, 229, 172, 115, 243, 167, 87, 7, 112, 192, 247, 140, 128, 99, 13, 103, 74, 222, 237, 49, 197, 254, 24, 227, 165, 153, 119, 38, 184, 180, 124, 17, 68, 146, 217, 35, 32, 137, 46, 55, 63, 209, 91, 149, 188, 207, 205, 144, 135, 151, 178, 220, 252, 190, 97, 242, 86, 211, 171, 20, 42, 93, 158, 132, 60, 57, 83, 71, 109, 65, 162, 31, 45, 67, 216, 183, 123, 164, 118, 196, 23, 73, 236, 127, 12, 111, 246, 108, 161, 59, 82, 41, 157, 85, 170, 251, 96, 134, 177, 187, 204, 62, 90, 203, 89, 95, 176, 156, 169, 160, 81, 11, 245, 22, 235, 122, 117, 44, 215, 79, 174, 213, 233, 230, 231, 173, 232, 116, 214, 244, 234, 168, 80, 88, 175]
theorem lg_tab : ∀ a, a < 256 → a ≠ 0 → pwG (lgL.getD a 0) = a ∧ lgL.getD a 0 < 255 := by decide +kernel
theorem lg_ex {a : Nat} (h : a < 256) (h0 : a ≠ 0) : ∃ e, e < 255 ∧ pwG e = a := ⟨_, (lg_tab a h h0).2, (lg_tab a h h0).1⟩
theorem mt_comm {a b : Nat} (ha : a < 256) (hb : b < 256) : mt a b = mt b a := by
  by_cases h1 : a = 0
  · subst h1; rw [mt_l0, mt_r0]
  by_cases h2 : b = 0
  · subst h2; rw [mt_l0, mt_r0]
  obtain ⟨i, _, rfl⟩ := lg_ex ha h1
  obtain ⟨j, _, rfl⟩ := lg_ex hb h2
  rw [mt_pp, mt_pp, Nat.add_comm]
theorem mt_assoc {a b c : Nat} (ha : a < 256) (hb : b < 256) (hc : c < 256) : mt (mt a b) c = mt a (mt b c) := by
  by_cases h1 : a = 0
  · subst h1; rw [mt_l0, mt_l0, mt_l0]
  by_cases h2 : b = 0
  · subst h2; rw [mt_l0, mt_r0, mt_l0]
  by_cases h3 : c = 0
  · subst h3; rw [mt_r0, mt_r0, mt_r0]
  obtain ⟨i, _, rfl⟩ := lg_ex ha h1
  obtain ⟨j, _, rfl⟩ := lg_ex hb h2
  obtain ⟨k, _, rfl⟩ := lg_ex hc h3
  rw [mt_pp, mt_pp, mt_pp, mt_pp, Nat.add_assoc]
theorem mt_l1 {a : Nat} (h : a < 256) : mt 1 a = a := by rw [mt_comm (by decide) h, mt_r1]
theorem pwG_ne (e : Nat) : pwG e ≠ 0 := by
  intro h
  have h1 : pwG (e + (255 * (e + 1) - e)) = 1 := by
    rw [show e + (255 * (e + 1) - e) = 255 * (e + 1) by omega]
    generalize e + 1 = n
    induction n with
    | zero => rfl
    | succ n ih => rw [Nat.mul_succ, pwG_per, ih]
  rw [← mt_pp, h, mt_l0] at h1
  exact absurd h1 (by decide)
theorem mt_ne {a b : Nat} (ha : a < 256) (hb : b < 256) (h1 : a ≠ 0) (h2 : b ≠ 0) : mt a b ≠ 0 := by
  obtain ⟨i, _, rfl⟩ := lg_ex ha h1
  obtain ⟨j, _, rfl⟩ := lg_ex hb h2
  rw [mt_pp]
  exact pwG_ne _
/-- the class's tables -/
def TabOk (pw ex : Nat → Nat) : Prop := (∀ x, pw x = pwG x) ∧ (∀ a, a < 256 → a ≠ 0 → pwG (ex a) = a) ∧ ExOk ex
theorem fTimes_mt {pw ex : Nat → Nat} (h : TabOk pw ex) {a b : Nat} (ha : a < 256) (hb : b < 256) : fTimes pw ex a b = mt a b := by
  unfold fTimes
  split
  · rename_i h1
    rcases h1 with h1 | h1
    · subst h1; rw [mt_l0]
    · subst h1; rw [mt_r0]
  · rename_i h1
    rw [h.1, ← mt_pp, h.2.1 a ha (by omega), h.2.1 b hb (by omega)]
theorem inv_mt {pw ex : Nat → Nat} (h : TabOk pw ex) {a : Nat} (ha : a < 256) (h0 : a ≠ 0) : mt (pw (255 - ex a)) a = 1 := by
  have h1 := h.2.2 a
  rw [h.1]
  have h2 := mt_pp (255 - ex a) (ex a)
  rw [h.2.1 a ha h0, show 255 - ex a + ex a = 255 by omega, pwG_255] at h2
  exact h2
/-- the model's inverse: the least b from 1 on -/
def invF (a : Nat) : Nat → Nat → Nat
  | 0, b => b
  | n + 1, b => if mt a b = 1 then b else invF a n (b + 1)
def mInv (a : Nat) : Nat := invF a 255 1
theorem inv_ex {a : Nat} (ha : a < 256) (h0 : a ≠ 0) : ∃ b, 1 ≤ b ∧ b < 256 ∧ mt a b = 1 := by
  obtain ⟨i, hi, rfl⟩ := lg_ex ha h0
  refine ⟨pwG (255 - i), ?_, pwG_lt _, ?_⟩
  · have := pwG_ne (255 - i); omega
  · rw [mt_pp, show i + (255 - i) = 255 by omega, pwG_255]
theorem invF_ok {a : Nat} : ∀ n b, (∃ z, b ≤ z ∧ z < b + n ∧ mt a z = 1) → b ≤ invF a n b ∧ invF a n b < b + n ∧ mt a (invF a n b) = 1 ∧ ∀ z, b ≤ z → z < invF a n b → mt a z ≠ 1
  | 0, b, ⟨z, h1, h2, _⟩ => absurd h2 (by omega)
  | n + 1, b, ⟨z, h1, h2, h3⟩ => by
    unfold invF
    split
    · rename_i h4
      exact ⟨Nat.le_refl _, by omega, h4, fun z h5 h6 => by omega⟩
    · rename_i h4
      have h5 : b ≠ z := fun h => h4 (h ▸ h3)
      obtain ⟨q1, q2, q3, q4⟩ := invF_ok n (b + 1) ⟨z, by omega, by omega, h3⟩
      refine ⟨by omega, by omega, q3, fun y h6 h7 => ?_⟩
      by_cases h8 : y = b
      · subst h8; exact h4
      · exact q4 y (by omega) h7
theorem mInv_ok {a : Nat} (ha : a < 256) (h0 : a ≠ 0) : 1 ≤ mInv a ∧ mInv a < 256 ∧ mt a (mInv a) = 1 ∧ ∀ z, 1 ≤ z → z < mInv a → mt a z ≠ 1 := by
  obtain ⟨b, h1, h2, h3⟩ := inv_ex ha h0
  have := invF_ok 255 1 ⟨b, h1, by omega, h3⟩
  exact ⟨this.1, by have := this.2.1; unfold mInv; omega, this.2.2⟩
theorem mInv_unique {a b : Nat} (ha : a < 256) (h0 : a ≠ 0) (h1 : 1 ≤ b) (h2 : mt a b = 1) (h3 : ∀ z, 1 ≤ z → z < b → mt a z ≠ 1) : mInv a = b := by
  have h := mInv_ok ha h0
  rcases Nat.lt_trichotomy (mInv a) b with h4 | h4 | h4
  · exact absurd h.2.2.1 (h3 _ h.1 h4)
  · exact h4
  · exact absurd h2 (h.2.2.2 _ h1 h4)
