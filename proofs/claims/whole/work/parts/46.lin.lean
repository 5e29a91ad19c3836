/-! ===== vectors, kernels; the model's basis ===== -/
def rel (L T c : Nat) : Prop := c < L ∨ (59 ≤ c ∧ c < 59 + T)
def Zv (L T : Nat) (v : Nat → Nat) : Prop := ∀ c, rel L T c → v c = 0
def ax (f : Nat) (x v : Nat → Nat) : Nat → Nat := fun c => v c ^^^ mt f (x c)
theorem by_ax {f : Nat} {x v : Nat → Nat} (hf : f < 256) (hv : By v) : By (ax f x v) := fun c => xlt (hv c) (mt_lt hf)
/-- what follows from the first n lines of V -/
def KS (L T : Nat) (V : Nat → Nat → Nat) : Nat → (Nat → Nat) → Prop
  | 0, v => Zv L T v
  | n + 1, v => ∃ f, f < 256 ∧ KS L T V n (ax f (V n) v)
theorem rel_lt {L T c : Nat} (hL : L ≤ 59) (hT : T ≤ 16) (h : rel L T c) : c < 75 := by unfold rel at h; omega
theorem KS_congr {L T : Nat} {V V' : Nat → Nat → Nat} : ∀ {n : Nat} {v v' : Nat → Nat}, (∀ i, i < n → ∀ c, rel L T c → V i c = V' i c) → (∀ c, rel L T c → v c = v' c) → KS L T V n v → KS L T V' n v'
  | 0, v, v', _, h, h0 => fun c hc => by rw [← h c hc]; exact h0 c hc
  | n + 1, v, v', hV, h, ⟨f, hf, h0⟩ => ⟨f, hf, KS_congr (fun i hi => hV i (by omega)) (fun c hc => by unfold ax; rw [h c hc, hV n (by omega) c hc]) h0⟩
/-- each line of the first n says something new -/
def Gr (L : Nat) (V : Nat → Nat → Nat) (n : Nat) : Prop := ∀ i, i < n → ¬ KS L 0 V i (V i)
theorem rel0 {L T c : Nat} (h : rel L 0 c) : rel L T c := by unfold rel at h ⊢; omega
theorem Gr_congr {L : Nat} {V V' : Nat → Nat → Nat} {n : Nat} (h : ∀ i, i < n → ∀ c, c < L → V i c = V' i c) (hg : Gr L V n) : Gr L V' n := fun i hi hk =>
  hg i hi (KS_congr (fun j hj c hc => (h j (by omega) c (by unfold rel at hc; omega)).symm) (fun c hc => (h i hi c (by unfold rel at hc; omega)).symm) hk)
/-- the model's basis -/
def Bs (L n : Nat) (M : Nat → Nat → Nat) (pv : Nat → Nat) : Prop := ∀ r, r < n → pv r < L ∧ M r (pv r) = 1 ∧ ∀ r', r' < n → r' ≠ r → M r' (pv r) = 0
theorem redS_at {M : Nat → Nat → Nat} {pv ro : Nat → Nat} {r c : Nat} (hc : c < 75) : mRedS M pv r ro c = ro c ^^^ mt (ro (pv r)) (M r c) := by
  unfold mRedS
  split
  · rename_i h; rw [h, mt_l0, Nat.xor_zero]
  · unfold prt rdV; rw [if_pos hc]
theorem red_congr {M : Nat → Nat → Nat} {pv v v' : Nat → Nat} (hp : ∀ r, pv r < 75) (h : ∀ c, c < 75 → v c = v' c) : ∀ n c, c < 75 → mRed n M pv v c = mRed n M pv v' c
  | 0, c, hc => h c hc
  | n + 1, c, hc => by rw [mRed_s, mRed_s, redS_at hc, redS_at hc, red_congr hp h n c hc, red_congr hp h n _ (hp n)]
theorem xor4 (a b c d : Nat) : (a ^^^ b) ^^^ (c ^^^ d) = (a ^^^ c) ^^^ (b ^^^ d) := xor_swap a b c d
theorem red_lin {M : Nat → Nat → Nat} {pv x v : Nat → Nat} {f : Nat} (hp : ∀ r, pv r < 75) (hM : ∀ r, By (M r)) (hf : f < 256) (hx : By x) (hv : By v) : ∀ n c, c < 75 → mRed n M pv (ax f x v) c = mRed n M pv v c ^^^ mt f (mRed n M pv x c)
  | 0, c, hc => rfl
  | n + 1, c, hc => by
    rw [mRed_s, mRed_s, mRed_s, redS_at hc, redS_at hc, redS_at hc, red_lin hp hM hf hx hv n c hc, red_lin hp hM hf hx hv n _ (hp n)]
    rw [mt_xl _ (by_mred hv n _) (mt_lt hf), mt_xr, mt_assoc hf (by_mred hx n _) (hM n c), xor_swap]
theorem red_piv {L rw : Nat} {M : Nat → Nat → Nat} {pv v : Nat → Nat} (hp : ∀ r, pv r < 75) (h : Bs L rw M pv) : ∀ n, n ≤ rw → ∀ r, r < n → mRed n M pv v (pv r) = 0
  | 0, _, r, hr => absurd hr (by omega)
  | n + 1, hn, r, hr => by
    rw [mRed_s, redS_at (hp r)]
    by_cases hrn : r = n
    · subst hrn; rw [(h r (by omega)).2.1, mt_r1, Nat.xor_self]
    · rw [red_piv hp h n (by omega) r (by omega), (h r (by omega)).2.2 n (by omega) (by omega), mt_r0, Nat.xor_self]
/-- no place: nothing is done -/
theorem red_free {L rw : Nat} {M : Nat → Nat → Nat} {pv v : Nat → Nat} (h : Bs L rw M pv) (hz : ∀ c, c < L → v c = 0) : ∀ n, n ≤ rw → mRed n M pv v = v
  | 0, _ => rfl
  | n + 1, hn => by
    rw [mRed_s, red_free h hz n (by omega)]
    unfold mRedS
    rw [if_pos (hz _ (h n (by omega)).1)]
/-- a new row: what becomes of the reduction -/
theorem red_new {L rw q : Nat} {M M' : Nat → Nat → Nat} {pv pv' K v : Nat → Nat} (hp : ∀ r, pv r < 75) (hM : ∀ r, By (M r)) (hK : By K) (hv : By v) (hq : q < 75) (hKq : K q = 1) (hKp : ∀ r, r < rw → K (pv r) = 0)
    (hM' : ∀ r, r < rw → ∀ c, c < 75 → M' r c = M r c ^^^ mt (M r q) (K c)) (hMn : ∀ c, c < 75 → M' rw c = K c) (hpv : ∀ r, r < rw → pv' r = pv r) (hpn : pv' rw = q) :
    ∀ c, c < 75 → mRed (rw + 1) M' pv' v c = mRed rw M pv v c ^^^ mt (mRed rw M pv v q) (K c) := by
  have key : ∀ n, n ≤ rw → ∀ c, c < 75 → mRed n M' pv' v c = mRed n M pv v c ^^^ mt (mRed n M pv v q ^^^ v q) (K c) := by
    intro n
    induction n with
    | zero => intro _ c hc; show v c = v c ^^^ mt (v q ^^^ v q) (K c); rw [Nat.xor_self, mt_l0, Nat.xor_zero]
    | succ n ih =>
      intro hn c hc
      have hb : ∀ z, mRed n M pv v z < 256 := by_mred hv n
      rw [mRed_s, mRed_s, redS_at hc, redS_at hc, redS_at hq, ih (by omega) c hc, hpv n (by omega), ih (by omega) _ (hp n), hKp n (by omega), mt_r0, Nat.xor_zero, hM' n (by omega) c hc]
      rw [mt_xr, ← mt_assoc (hb _) (hM n q) (hK c)]
      have e : mRed n M pv v q ^^^ mt (mRed n M pv v (pv n)) (M n q) ^^^ v q = (mRed n M pv v q ^^^ v q) ^^^ mt (mRed n M pv v (pv n)) (M n q) := by rw [Nat.xor_assoc, Nat.xor_comm (mt _ _) (v q), ← Nat.xor_assoc]
      rw [e, mt_xl _ (xlt (hb _) (hv q)) (mt_lt (hb _)), xor_swap]
  intro c hc
  have hb : ∀ z, mRed rw M pv v z < 256 := by_mred hv rw
  rw [mRed_s, redS_at hc, hpn, key rw (Nat.le_refl _) c hc, key rw (Nat.le_refl _) q hq, hKq, mt_r1, hMn c hc]
  have e : mRed rw M pv v q ^^^ (mRed rw M pv v q ^^^ v q) = v q := by rw [← Nat.xor_assoc, Nat.xor_self, Nat.zero_xor]
  rw [e, Nat.xor_assoc, ← mt_xl _ (xlt (hb _) (hv q)) (hv q), Nat.xor_assoc, Nat.xor_self, Nat.xor_zero]
theorem elS_at {q n i r c : Nat} {M : Nat → Nat → Nat} (hc : c < 75) : mElS q n i M r c = if r = i then M i c ^^^ mt (M i q) (M n c) else M r c := by
  unfold mElS
  by_cases hr : r = i
  · subst hr
    rw [if_pos rfl]
    split
    · rename_i h0; rw [h0, mt_l0, Nat.xor_zero]
    · rw [va_up_self]; unfold prt elV; rw [if_pos hc]
  · rw [if_neg hr]
    split
    · rfl
    · rw [va_up_ne _ _ hr]
theorem el_at {q n : Nat} {M : Nat → Nat → Nat} : ∀ k, k ≤ n → ∀ r c, c < 75 → q < 75 → fr (mElS q n) k M r c = if r < k then M r c ^^^ mt (M r q) (M n c) else M r c
  | 0, _, r, c, _, _ => by rw [if_neg (Nat.not_lt_zero _)]; rfl
  | k + 1, hk, r, c, hc, hq => by
    have hn := el_at (q := q) (n := n) (M := M) k (by omega) n c hc hq
    have hkq := el_at (q := q) (n := n) (M := M) k (by omega) k q hq hq
    have hkc := el_at (q := q) (n := n) (M := M) k (by omega) k c hc hq
    have hr := el_at (q := q) (n := n) (M := M) k (by omega) r c hc hq
    rw [if_neg (by omega)] at hn hkq hkc
    rw [fr_s, elS_at hc, hkc, hkq, hn, hr]
    by_cases hrk : r = k
    · rw [if_pos hrk, if_pos (by omega), hrk]
    · rw [if_neg hrk]
      by_cases h : r < k
      · rw [if_pos h, if_pos (by omega)]
      · rw [if_neg h, if_neg (by omega)]
