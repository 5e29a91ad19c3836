/-! ===== Equations: learn, derive, start ===== -/
theorem fr_0 {α : Type} (st : Nat → α → α) (a : α) : fr st 0 a = a := rfl
theorem fr_s {α : Type} (st : Nat → α → α) (n : Nat) (a : α) : fr st (n + 1) a = st n (fr st n a) := rfl
def leadN (T : Nat) (ln : Nat → Nat) : Nat → Nat
  | 0 => 0
  | p + 1 => if ln (T + p) ≠ 0 then p + 1 else leadN T ln p
theorem leadI_N (T : Nat) (ln : Nat → Nat) : ∀ n, leadI T ln n = nI (leadN T ln n) - 1
  | 0 => rfl
  | p + 1 => by
    unfold leadI leadN
    split
    · exact (nI_pred p).symm
    · exact leadI_N T ln p
theorem leadN_le (T : Nat) (ln : Nat → Nat) : ∀ n, leadN T ln n ≤ n
  | 0 => Nat.le_refl _
  | p + 1 => by
    unfold leadN
    split
    · exact Nat.le_refl _
    · exact Nat.le_succ_of_le (leadN_le T ln p)
theorem leadN_ne {T : Nat} {ln : Nat → Nat} : ∀ {n q : Nat}, leadN T ln n = q + 1 → ln (T + q) ≠ 0
  | 0, q, h => by cases h
  | p + 1, q, h => by
    unfold leadN at h
    split at h
    · rename_i h1; cases h; exact h1
    · exact leadN_ne h
abbrev EqS : Type := Nat × (Nat → Nat → Nat) × (Nat → Bool) × (Nat → Nat)
def EqAtS (ca : Nat → ClassId) (ad : Nat → Nat) (g : Nat → va_E) (b f L T : Nat) (s : EqS) : Prop := EqAt ca ad g b f L T s.1 s.2.1 s.2.2.1 s.2.2.2
def EqBy (s : EqS) : Prop := (∀ p, By (s.2.1 p)) ∧ By s.2.2.2
def lnOf (pw ex : Nat → Nat) (L T : Nat) (s : EqS) : Nat → Nat := lnRed pw ex L T s.2.1 s.2.2.1 s.2.2.2
def learnQ (pw ex : Nat → Nat) (L T : Nat) (s : EqS) : Nat := leadN T (lnOf pw ex L T s) L
/-- by choice, so that nothing unfolds it unasked -/
theorem lrn_ex : ∃ f : (Nat → Nat) → (Nat → Nat) → Nat → Nat → EqS → EqS × Int32, ∀ pw ex L T s, f pw ex L T s = match learnQ pw ex L T s with
  | 0 => ((s.1, s.2.1, s.2.2.1, lnOf pw ex L T s), if anyV T (lnOf pw ex L T s) = true then -1 else 0)
  | q + 1 => ((s.1 + 1, kpM pw ex L T q s.2.2.1 (lnOf pw ex L T s) s.2.1, va_up s.2.2.1 q true, lnOf pw ex L T s), 1) := ⟨_, fun _ _ _ _ _ => rfl⟩
noncomputable def lrn : (Nat → Nat) → (Nat → Nat) → Nat → Nat → EqS → EqS × Int32 := Classical.choose lrn_ex
theorem lrn_0 {pw ex : Nat → Nat} {L T : Nat} {s : EqS} (h : learnQ pw ex L T s = 0) : lrn pw ex L T s = ((s.1, s.2.1, s.2.2.1, lnOf pw ex L T s), if anyV T (lnOf pw ex L T s) = true then -1 else 0) := by
  have h1 := Classical.choose_spec lrn_ex pw ex L T s
  rw [h] at h1
  exact h1
theorem lrn_1 {pw ex : Nat → Nat} {L T q : Nat} {s : EqS} (h : learnQ pw ex L T s = q + 1) : lrn pw ex L T s = ((s.1 + 1, kpM pw ex L T q s.2.2.1 (lnOf pw ex L T s) s.2.1, va_up s.2.2.1 q true, lnOf pw ex L T s), 1) := by
  have h1 := Classical.choose_spec lrn_ex pw ex L T s
  rw [h] at h1
  exact h1
noncomputable def learnS (pw ex : Nat → Nat) (L T : Nat) (s : EqS) : EqS := (lrn pw ex L T s).1
noncomputable def learnR (pw ex : Nat → Nat) (L T : Nat) (s : EqS) : Int32 := (lrn pw ex L T s).2
theorem learn_0 {pw ex : Nat → Nat} {L T : Nat} {s : EqS} (h : learnQ pw ex L T s = 0) : learnS pw ex L T s = (s.1, s.2.1, s.2.2.1, lnOf pw ex L T s) ∧ learnR pw ex L T s = if anyV T (lnOf pw ex L T s) = true then -1 else 0 := by
  unfold learnS learnR
  rw [lrn_0 h]
  exact ⟨rfl, rfl⟩
theorem learn_1 {pw ex : Nat → Nat} {L T q : Nat} {s : EqS} (h : learnQ pw ex L T s = q + 1) : learnS pw ex L T s = (s.1 + 1, kpM pw ex L T q s.2.2.1 (lnOf pw ex L T s) s.2.1, va_up s.2.2.1 q true, lnOf pw ex L T s) ∧ learnR pw ex L T s = 1 := by
  unfold learnS learnR
  rw [lrn_1 h]
  exact ⟨rfl, rfl⟩
theorem by_kpM {pw ex ln : Nat → Nat} {L T q : Nat} {ld : Nat → Bool} {M : Nat → Nat → Nat} (hp : PwOk pw) (hM : ∀ p, By (M p)) : ∀ p, By (kpM pw ex L T q ld ln M p) := by
  have h0 : ∀ p, By (va_up M q (kpK pw ex L T q ln (M q)) p) := By2.up hM (By.fr (fun i F hF => By.up hF (fTimes_by hp _ _)) (hM q) _)
  have h1 : ∀ n, ∀ p, By (fr (fun n => kpStep pw ex T q ld (q + 1 + n)) n (va_up M q (kpK pw ex L T q ln (M q))) p) := by
    intro n
    induction n with
    | zero => exact h0
    | succ n ih =>
      show ∀ p, By (kpStep pw ex T q ld (q + 1 + n) _ p)
      unfold kpStep
      split
      · exact By2.up ih (By.add hp (ih _) _)
      · exact ih
  exact h1 _
theorem learnS_by {pw ex : Nat → Nat} {L T : Nat} {s : EqS} (hp : PwOk pw) (h : EqBy s) : EqBy (learnS pw ex L T s) := by
  cases hq : learnQ pw ex L T s with
  | zero => rw [(learn_0 hq).1]; exact ⟨h.1, By.red hp h.2⟩
  | succ q => rw [(learn_1 hq).1]; exact ⟨by_kpM hp h.1, By.red hp h.2⟩
theorem learnS_rk (pw ex : Nat → Nat) (L T : Nat) (s : EqS) : (learnS pw ex L T s).1 ≤ s.1 + 1 := by
  cases hq : learnQ pw ex L T s with
  | zero => rw [(learn_0 hq).1]; exact Nat.le_succ _
  | succ q => rw [(learn_1 hq).1]; exact Nat.le_refl _
theorem nI_m1 {n : Nat} (h : n < 2 ^ 31) : nI n - 1 = -1 ↔ n = 0 := by
  cases n with
  | zero => exact ⟨fun _ => rfl, fun _ => by decide⟩
  | succ k =>
    rw [nI_pred]
    refine ⟨fun z => ?_, fun z => by cases z⟩
    have h1 := nI_toInt (n := k) (by omega)
    rw [z] at h1
    have h2 : (-1 : Int32).toInt = -1 := by decide
    omega
noncomputable def stSum (pw ex : Nat → Nat) (k T i : Nat) (s : EqS) : EqS := learnS pw ex (k + 11) T (s.1, s.2.1, s.2.2.1, lnSum T k i s.2.2.2)
noncomputable def stPow (pw ex : Nat → Nat) (k T i : Nat) (s : EqS) : EqS := learnS pw ex (k + 11) T (s.1, s.2.1, s.2.2.1, lnPow pw T k i s.2.2.2)
noncomputable def startS (pw ex : Nat → Nat) (k T : Nat) (s : EqS) : EqS := fr (stPow pw ex k T) 4 (fr (stSum pw ex k T) 7 (0, s.2.1, (fun p => if p < 59 then false else s.2.2.1 p), s.2.2.2))
theorem By.sum {T k i : Nat} {ln : Nat → Nat} (h : By ln) : By (lnSum T k i ln) := by
  unfold lnSum
  refine By.up (By.fr (fun j F hF => ?_) (By.fill h (by decide)) _) (by decide)
  by_cases h1 : isSum i j
  · rw [lnSum1_t h1]; exact By.up hF (by decide)
  · rw [lnSum1_f h1]; exact hF
theorem By.pow {pw : Nat → Nat} {T k i : Nat} {ln : Nat → Nat} (hp : PwOk pw) (h : By ln) : By (lnPow pw T k i ln) := By.up (By.fr (fun j F hF => By.up hF (hp _)) (By.fill h (by decide)) _) (by decide)
theorem By.pk {T v : Nat} {pl ln : Nat → Nat} (h : By ln) : By (lnPk T v pl ln) := By.fr (fun j F hF => By.up hF (by decide)) (By.fill h (by decide)) _
theorem ld_clear (ld : Nat → Bool) (n : Nat) : va_up (fun p => if p < n then false else ld p) n false = fun p => if p < n + 1 then false else ld p := by
  funext j
  by_cases h1 : j = n
  · subst h1
    rw [va_up_self, if_pos (by omega)]
  · rw [va_up_ne _ _ h1]
    by_cases h2 : j < n
    · rw [if_pos h2, if_pos (by omega)]
    · rw [if_neg h2, if_neg (by omega)]

abbrev rm_X2_learn : Room := { frames := 2, cells := 0, slots := 0, locals := 52 }

set_option maxHeartbeats 800000 in
set_option maxRecDepth 100000 in
/-- Equations.learn -/
theorem c_X2_learn {l : Launch} {D : va_G} {ca : Nat → ClassId} {tB tS R : Nat} {ad : Nat → Nat} {g : Nat → va_E} {sz : Nat} (b f L T rk : Nat) (M : Nat → Nat → Nat) (ld : Nat → Bool) (ln : Nat → Nat) (hE : EqAt ca ad g b f L T rk M ld ln) (hb : b + 62 < R) (hL : 1 ≤ L ∧ L ≤ 59) (hT : T ≤ 16) (pw ex : Nat → Nat) (hF : FieldAt ca ad g f pw ex) (hX : ExOk ex) (hP : PwOk pw) (hfb : f + 2 < b) (hM : ∀ p, By (M p)) (hln : By ln)  : MI l yX2_learn cX2_learn 2 .int rm_X2_learn D ca tB tS R ad g sz [.ref (ad b)] (fun r g1 => (∀ z, (z < b ∨ b + 62 < z) → g1 z = g z) ∧ r = learnR pw ex L T (rk, M, ld, ln) ∧ EqAtS ca ad g1 b f L T (learnS pw ex L T (rk, M, ld, ln))) := by
  refine m_startI (by decide +kernel) (Nat.le_of_ble_eq_true rfl) (fun p e s m args below meth c ls Q hsz C hl F hw hret => ?_)
  have hl : lv_has ls 2 [(0, .ref (ad b))] := hl
  generalize s.heap = H at hw ⊢
  generalize ([] : List Loc) = locs at hw ⊢
  refine lv_aload_n C.1 C.2.1 dX2_learn_0 rfl (lv_at hl 0 rfl) ?_
  have hE1 : EqAt ca ad g b f L T rk M ld ln := ⟨hE.1, hE.2.1, hE.2.2.1, hE.2.2.2.1, hE.2.2.2.2⟩
  have hF2 : FieldAt ca ad g f pw ex := ⟨hF.1, hF.2.1, hF.2.2⟩
  refine k_Vv C F hw (i := b) (As := []) (rest := []) (c_X2_reduceLine b f L T rk M ld ln hE1 (by omega) (by omega) (by omega) pw ex hF2 hX hP (by omega) hM hln) (by omega) hE.1 rfl (cwV _ C.2.2.2.2 gm_X2_63 rfl rfl rfl cd_X2_reduceLine ⟨by decide, by decide⟩) hl.1 rfl (Nat.le_of_ble_eq_true rfl) dX2_learn_1 ⟨by decide, by decide⟩ (fun g4 H locs hp hw => ?_)
  obtain ⟨hs5, hE6⟩ := hp
  have e7 : g4 (f) = .inr (3, [.ref (ad (f + 1)), .ref (ad (f + 2))]) := (hs5 _ (by omega)).trans hF.1
  have e8 : g4 (f + 1) = na ca 510 (pw) := (hs5 _ (by omega)).trans hF.2.1
  have e9 : g4 (f + 2) = na ca 256 (ex) := (hs5 _ (by omega)).trans hF.2.2
  have hs10 : ∀ z, (z < b ∨ b + 62 < z) → g4 z = g z := fun z hz => hs5 z (by omega)
  refine lv_aload_n C.1 C.2.1 dX2_learn_4 rfl (lv_at hl 0 rfl) ?_
  have hE11 : EqAt ca ad g4 b f L T rk M ld (lnRed pw ex L T M ld ln) := ⟨hE6.1, hE6.2.1, hE6.2.2.1, hE6.2.2.2.1, hE6.2.2.2.2⟩
  obtain ⟨ln1, hln1⟩ : ∃ z, z = lnRed pw ex L T M ld ln := ⟨_, rfl⟩
  have hby1 : By ln1 := by rw [hln1]; exact By.red hP hln
  refine k_Vi C F hw (i := b) (As := []) (rest := []) (c_X2_lineLead b f L T rk M ld (lnRed pw ex L T M ld ln) hE11 (by omega) (by omega) (by omega) (by omega) (By.red hP hln)) (by omega) hE6.1 rfl (cwV _ C.2.2.2.2 gm_X2_66 rfl rfl rfl cd_X2_lineLead ⟨by decide, by decide⟩) hl.1 rfl (Nat.le_of_ble_eq_true rfl) dX2_learn_5 ⟨by decide, by decide⟩ (fun r12 g13 H locs hp hw => ?_)
  obtain ⟨hr9, hg9⟩ := hp
  rw [hg9] at hw
  subst hr9
  obtain ⟨n0, hn0⟩ : ∃ z, z = leadN T (lnRed pw ex L T M ld ln) L := ⟨_, rfl⟩
  have hn1 : n0 ≤ L := by rw [hn0]; exact leadN_le _ _ _
  refine k_ti (x' := nI n0 - 1) (by rw [hn0]; exact leadI_N _ _ _) ?_
  refine lv_istore_n (lv' := [(1, .int (nI n0 - 1)), (0, .ref (ad b))]) C.1 C.2.1 dX2_learn_8 rfl hl (by decide) rfl (fun ls hl => ?_)
  refine lv_iload_n C.1 C.2.1 dX2_learn_9 rfl (lv_at hl 0 rfl) ?_
  refine lv_iconst (v := -1) C.1 C.2.1 dX2_learn_10 (by decide) ?_
  refine lv_icmp_ne (tgt := 27) C.1 C.2.1 dX2_learn_11 (by decide) (fun hc11 => ?_) (fun hc11 => ?_)
  · obtain ⟨q, hq0⟩ : ∃ q, n0 = q + 1 := ⟨n0 - 1, by have : n0 ≠ 0 := fun z => hc11 ((nI_m1 (by omega)).mpr z); omega⟩
    have hL0 : learnQ pw ex L T (rk, M, ld, ln) = q + 1 := by rw [← hq0, hn0]; rfl
    have hl : lv_has ls 2 [(1, .int (nI q)), (0, .ref (ad b))] := by have h9 := hl; rw [hq0, nI_pred] at h9; exact h9
    refine lv_aload_n C.1 C.2.1 dX2_learn_27 rfl (lv_at hl 1 rfl) ?_
    refine lv_iload_n C.1 C.2.1 dX2_learn_28 rfl (lv_at hl 0 rfl) ?_
    have hE14 : EqAt ca ad g4 b f L T rk M ld (lnRed pw ex L T M ld ln) := ⟨hE6.1, hE6.2.1, hE6.2.2.1, hE6.2.2.2.1, hE6.2.2.2.2⟩
    have hF15 : FieldAt ca ad g4 f pw ex := ⟨e7, e8, e9⟩
    have hnz : (lnRed pw ex L T M ld ln) (T + q) ≠ 0 := leadN_ne (n := L) (by rw [← hn0, hq0])
    refine k_Vv C F hw (i := b) (As := [.int (nI q)]) (rest := []) (c_X2_keepLine b f L T rk M ld (lnRed pw ex L T M ld ln) hE14 (by omega) (by omega) (by omega) pw ex hF15 hX hP (by omega) hM (By.red hP hln) q (by omega) hnz) (by omega) hE6.1 rfl (cwV _ C.2.2.2.2 gm_X2_73 rfl rfl rfl cd_X2_keepLine ⟨by decide, by decide⟩) hl.1 rfl (Nat.le_of_ble_eq_true rfl) dX2_learn_29 ⟨by decide, by decide⟩ (fun g17 H locs hp hw => ?_)
    obtain ⟨hs18, hE19⟩ := hp
    have e20 : g17 (f) = .inr (3, [.ref (ad (f + 1)), .ref (ad (f + 2))]) := (hs18 _ (by omega)).trans e7
    have e21 : g17 (f + 1) = na ca 510 (pw) := (hs18 _ (by omega)).trans e8
    have e22 : g17 (f + 2) = na ca 256 (ex) := (hs18 _ (by omega)).trans e9
    have hs23 : ∀ z, (z < b ∨ b + 62 < z) → g17 z = g z := fun z hz => (hs18 z (by omega)).trans (hs10 z hz)
    refine k_icn C 1 dX2_learn_32 (by decide) ?_
    have hE24 : EqAt ca ad g17 b f L T (rk + 1) (kpM pw ex L T q ld (lnRed pw ex L T M ld ln) M) (va_up ld q true) (lnRed pw ex L T M ld ln) := ⟨hE19.1, hE19.2.1, hE19.2.2.1, hE19.2.2.2.1, hE19.2.2.2.2⟩
    exact hret H locs ls _ _ _ dX2_learn_33 hw (⟨hs23, by rw [(learn_1 hL0).2]; rfl, by rw [(learn_1 hL0).1]; exact hE24⟩)
  · have hq0 : n0 = 0 := (nI_m1 (by omega)).mp hc11
    have hL0 : learnQ pw ex L T (rk, M, ld, ln) = 0 := by rw [← hq0, hn0]; rfl
    refine lv_aload_n C.1 C.2.1 dX2_learn_14 rfl (lv_at hl 1 rfl) ?_
    have hE25 : EqAt ca ad g4 b f L T rk M ld (lnRed pw ex L T M ld ln) := ⟨hE6.1, hE6.2.1, hE6.2.2.1, hE6.2.2.2.1, hE6.2.2.2.2⟩
    refine k_Vi C F hw (i := b) (As := []) (rest := []) (c_X2_hasValueLeft b f L T rk M ld (lnRed pw ex L T M ld ln) hE25 (by omega) (by omega) (by omega) (By.red hP hln)) (by omega) hE6.1 rfl (cwV _ C.2.2.2.2 gm_X2_69 rfl rfl rfl cd_X2_hasValueLeft ⟨by decide, by decide⟩) hl.1 rfl (Nat.le_of_ble_eq_true rfl) dX2_learn_15 ⟨by decide, by decide⟩ (fun r26 g27 H locs hp hw => ?_)
    obtain ⟨hr9, hg9⟩ := hp
    rw [hg9] at hw
    subst hr9
    refine k_beq (tgt := 25) C dX2_learn_18 (by decide) (fun hc18 => ?_) (fun hc18 => ?_)
    · refine k_icn C 0 dX2_learn_25 (by decide) ?_
      have hE28 : EqAt ca ad g4 b f L T rk M ld (lnRed pw ex L T M ld ln) := ⟨hE6.1, hE6.2.1, hE6.2.2.1, hE6.2.2.2.1, hE6.2.2.2.2⟩
      exact hret H locs ls _ _ _ dX2_learn_26 hw (⟨hs10, by rw [(learn_0 hL0).2]; exact (if_neg (by rw [show anyV T (lnOf pw ex L T (rk, M, ld, ln)) = false from hc18]; decide)).symm, by rw [(learn_0 hL0).1]; exact hE28⟩)
    · refine lv_iconst (v := -1) C.1 C.2.1 dX2_learn_21 (by decide) ?_
      refine lv_goto (tgt := 26) C.1 C.2.1 dX2_learn_22 (by decide) ?_
      have hE29 : EqAt ca ad g4 b f L T rk M ld (lnRed pw ex L T M ld ln) := ⟨hE6.1, hE6.2.1, hE6.2.2.1, hE6.2.2.2.1, hE6.2.2.2.2⟩
      exact hret H locs ls _ _ _ dX2_learn_26 hw (⟨hs10, by rw [(learn_0 hL0).2]; exact (if_pos hc18).symm, by rw [(learn_0 hL0).1]; exact hE29⟩)

abbrev rm_X2_derive : Room := { frames := 2, cells := 0, slots := 0, locals := 49 }

set_option maxHeartbeats 800000 in
set_option maxRecDepth 100000 in
/-- Equations.derive -/
theorem c_X2_derive {l : Launch} {D : va_G} {ca : Nat → ClassId} {tB tS R : Nat} {ad : Nat → Nat} {g : Nat → va_E} {sz : Nat} (b f L T rk : Nat) (M : Nat → Nat → Nat) (ld : Nat → Bool) (ln : Nat → Nat) (hE : EqAt ca ad g b f L T rk M ld ln) (hb : b + 62 < R) (hL : 1 ≤ L ∧ L ≤ 59) (hT : T ≤ 16) (pw ex : Nat → Nat) (hF : FieldAt ca ad g f pw ex) (hX : ExOk ex) (hP : PwOk pw) (hfb : f + 2 < b) (hM : ∀ p, By (M p)) (hln : By ln) (po v : Nat) (pl : Nat → Nat) (hK : PkAt ca ad g po v pl) (hpo : po + 1 < b) (hv : v ≤ 59) (hpl : ∀ j, j < v → pl j < 59) : MI l yX2_derive cX2_derive 2 .boolean rm_X2_derive D ca tB tS R ad g sz [.ref (ad b), .ref (ad po)] (fun r g1 => (∀ z, (z < b ∨ b + 62 < z) → g1 z = g z) ∧ r = bI (decide (leadN T (lnRed pw ex L T M ld (lnPk T v pl ln)) L = 0)) ∧ EqAt ca ad g1 b f L T rk M ld (lnRed pw ex L T M ld (lnPk T v pl ln))) := by
  refine m_startZ (by decide +kernel) (Nat.le_of_ble_eq_true rfl) (fun p e s m args below meth c ls Q hsz C hl F hw hret => ?_)
  have hl : lv_has ls 2 [(0, .ref (ad b)), (1, .ref (ad po))] := hl
  generalize s.heap = H at hw ⊢
  generalize ([] : List Loc) = locs at hw ⊢
  refine lv_aload_n C.1 C.2.1 dX2_derive_0 rfl (lv_at hl 0 rfl) ?_
  refine lv_aload_n C.1 C.2.1 dX2_derive_1 rfl (lv_at hl 1 rfl) ?_
  have hE1 : EqAt ca ad g b f L T rk M ld ln := ⟨hE.1, hE.2.1, hE.2.2.1, hE.2.2.2.1, hE.2.2.2.2⟩
  have hK2 : PkAt ca ad g po v pl := ⟨hK.1, hK.2⟩
  refine k_Vv C F hw (i := b) (As := [.ref (ad po)]) (rest := []) (c_X2_setLine b f L T rk M ld ln hE1 (by omega) (by omega) (by omega) po v pl hK2 (by omega) (by omega) hpl) (by omega) hE.1 rfl (cwV _ C.2.2.2.2 gm_X2_77 rfl rfl rfl cd_X2_setLine ⟨by decide, by decide⟩) hl.1 rfl (Nat.le_of_ble_eq_true rfl) dX2_derive_2 ⟨by decide, by decide⟩ (fun g4 H locs hp hw => ?_)
  obtain ⟨hs5, hE6⟩ := hp
  have e7 : g4 (f) = .inr (3, [.ref (ad (f + 1)), .ref (ad (f + 2))]) := (hs5 _ (by omega)).trans hF.1
  have e8 : g4 (f + 1) = na ca 510 (pw) := (hs5 _ (by omega)).trans hF.2.1
  have e9 : g4 (f + 2) = na ca 256 (ex) := (hs5 _ (by omega)).trans hF.2.2
  have e10 : g4 (po) = .inr (4, [.ref (ad (po + 1)), .int (nI v)]) := (hs5 _ (by omega)).trans hK.1
  have e11 : g4 (po + 1) = na ca 59 (pl) := (hs5 _ (by omega)).trans hK.2
  have hs12 : ∀ z, (z < b ∨ b + 62 < z) → g4 z = g z := fun z hz => hs5 z (by omega)
  refine lv_aload_n C.1 C.2.1 dX2_derive_5 rfl (lv_at hl 0 rfl) ?_
  have hE13 : EqAt ca ad g4 b f L T rk M ld (lnPk T v pl ln) := ⟨hE6.1, hE6.2.1, hE6.2.2.1, hE6.2.2.2.1, hE6.2.2.2.2⟩
  have hF14 : FieldAt ca ad g4 f pw ex := ⟨e7, e8, e9⟩
  refine k_Vv C F hw (i := b) (As := []) (rest := []) (c_X2_reduceLine b f L T rk M ld (lnPk T v pl ln) hE13 (by omega) (by omega) (by omega) pw ex hF14 hX hP (by omega) hM (By.pk hln)) (by omega) hE6.1 rfl (cwV _ C.2.2.2.2 gm_X2_63 rfl rfl rfl cd_X2_reduceLine ⟨by decide, by decide⟩) hl.1 rfl (Nat.le_of_ble_eq_true rfl) dX2_derive_6 ⟨by decide, by decide⟩ (fun g16 H locs hp hw => ?_)
  obtain ⟨hs17, hE18⟩ := hp
  have e19 : g16 (f) = .inr (3, [.ref (ad (f + 1)), .ref (ad (f + 2))]) := (hs17 _ (by omega)).trans e7
  have e20 : g16 (f + 1) = na ca 510 (pw) := (hs17 _ (by omega)).trans e8
  have e21 : g16 (f + 2) = na ca 256 (ex) := (hs17 _ (by omega)).trans e9
  have e22 : g16 (po) = .inr (4, [.ref (ad (po + 1)), .int (nI v)]) := (hs17 _ (by omega)).trans e10
  have e23 : g16 (po + 1) = na ca 59 (pl) := (hs17 _ (by omega)).trans e11
  have hs24 : ∀ z, (z < b ∨ b + 62 < z) → g16 z = g z := fun z hz => (hs17 z (by omega)).trans (hs12 z hz)
  refine lv_aload_n C.1 C.2.1 dX2_derive_9 rfl (lv_at hl 0 rfl) ?_
  have hE25 : EqAt ca ad g16 b f L T rk M ld (lnRed pw ex L T M ld (lnPk T v pl ln)) := ⟨hE18.1, hE18.2.1, hE18.2.2.1, hE18.2.2.2.1, hE18.2.2.2.2⟩
  obtain ⟨ln1, hln1⟩ : ∃ z, z = lnRed pw ex L T M ld (lnPk T v pl ln) := ⟨_, rfl⟩
  have hby1 : By ln1 := by rw [hln1]; exact By.red hP (By.pk hln)
  refine k_Vi C F hw (i := b) (As := []) (rest := []) (c_X2_lineLead b f L T rk M ld (lnRed pw ex L T M ld (lnPk T v pl ln)) hE25 (by omega) (by omega) (by omega) (by omega) (By.red hP (By.pk hln))) (by omega) hE18.1 rfl (cwV _ C.2.2.2.2 gm_X2_66 rfl rfl rfl cd_X2_lineLead ⟨by decide, by decide⟩) hl.1 rfl (Nat.le_of_ble_eq_true rfl) dX2_derive_10 ⟨by decide, by decide⟩ (fun r26 g27 H locs hp hw => ?_)
  obtain ⟨hr9, hg9⟩ := hp
  rw [hg9] at hw
  subst hr9
  obtain ⟨n0, hn0⟩ : ∃ z, z = leadN T (lnRed pw ex L T M ld (lnPk T v pl ln)) L := ⟨_, rfl⟩
  have hn1 : n0 ≤ L := by rw [hn0]; exact leadN_le _ _ _
  refine k_ti (x' := nI n0 - 1) (by rw [hn0]; exact leadI_N _ _ _) ?_
  refine lv_iconst (v := -1) C.1 C.2.1 dX2_derive_13 (by decide) ?_
  refine lv_icmp_ne (tgt := 21) C.1 C.2.1 dX2_derive_14 (by decide) (fun hc14 => ?_) (fun hc14 => ?_)
  · refine k_icn C 0 dX2_derive_21 (by decide) ?_
    have hE28 : EqAt ca ad g16 b f L T rk M ld (lnRed pw ex L T M ld (lnPk T v pl ln)) := ⟨hE18.1, hE18.2.1, hE18.2.2.1, hE18.2.2.2.1, hE18.2.2.2.2⟩
    exact hret H locs ls _ false _ _ dX2_derive_22 hw (by rfl) (⟨hs24, by rw [show decide (leadN T (lnRed pw ex L T M ld (lnPk T v pl ln)) L = 0) = false from decide_eq_false (by rw [← hn0]; exact fun z => hc14 ((nI_m1 (by omega)).mpr z))], hE28⟩)
  · refine k_icn C 1 dX2_derive_17 (by decide) ?_
    refine lv_goto (tgt := 22) C.1 C.2.1 dX2_derive_18 (by decide) ?_
    have hE29 : EqAt ca ad g16 b f L T rk M ld (lnRed pw ex L T M ld (lnPk T v pl ln)) := ⟨hE18.1, hE18.2.1, hE18.2.2.1, hE18.2.2.2.1, hE18.2.2.2.2⟩
    exact hret H locs ls _ true _ _ dX2_derive_22 hw (by rfl) (⟨hs24, by rw [show decide (leadN T (lnRed pw ex L T M ld (lnPk T v pl ln)) L = 0) = true from decide_eq_true (by rw [← hn0]; exact (nI_m1 (by omega)).mp hc14)], hE29⟩)

abbrev rm_X2_start : Room := { frames := 3, cells := 0, slots := 0, locals := 73 }

set_option maxHeartbeats 800000 in
set_option maxRecDepth 100000 in
/-- Equations.start -/
theorem c_X2_start {l : Launch} {D : va_G} {ca : Nat → ClassId} {tB tS R : Nat} {ad : Nat → Nat} {g : Nat → va_E} {sz : Nat} (b f L0 T0 rk : Nat) (M : Nat → Nat → Nat) (ld : Nat → Bool) (ln : Nat → Nat) (hE : EqAt ca ad g b f L0 T0 rk M ld ln) (hb : b + 62 < R) (pw ex : Nat → Nat) (hF : FieldAt ca ad g f pw ex) (hX : ExOk ex) (hP : PwOk pw) (hfb : f + 2 < b) (hM : ∀ p, By (M p)) (hln : By ln) (k T : Nat) (hk : 1 ≤ k ∧ k ≤ 48) (hT : T ≤ 16) : MV l yX2_start cX2_start 4 rm_X2_start D ca tB tS R ad g sz [.ref (ad b), .int (nI k), .int (nI T)] (fun g1 => (∀ z, (z < b ∨ b + 62 < z) → g1 z = g z) ∧ EqAtS ca ad g1 b f (k + 11) T (startS pw ex k T (rk, M, ld, ln))) := by
  refine m_startV (by decide +kernel) (Nat.le_of_ble_eq_true rfl) (fun p e s m args below meth c ls Q hsz C hnm hl F hw hret => ?_)
  have hl : lv_has ls 4 [(0, .ref (ad b)), (1, .int (nI k)), (2, .int (nI T))] := hl
  generalize s.heap = H at hw ⊢
  generalize ([] : List Loc) = locs at hw ⊢
  refine lv_aload_n C.1 C.2.1 dX2_start_0 rfl (lv_at hl 0 rfl) ?_
  refine lv_iload_n C.1 C.2.1 dX2_start_1 rfl (lv_at hl 1 rfl) ?_
  refine k_bip C 11 dX2_start_2 (by decide) ?_
  refine k_add C dX2_start_4 ?_
  refine k_put C F hw (b) (by omega) hE.1 rfl in_X2 tyX2_ok nmX2 4 (by decide) fl_X2_28 rfl (v := .int (nI (k + 11))) rfl rfl (Nat.le_of_ble_eq_true rfl) dX2_start_5 (fun H locs hw => ?_)
  have hw : Wd D (AA R ad sz) s R ad (va_up g (b) (.inr (2, [.ref (ad f), .ref (ad (b + 1)), .ref (ad (b + 61)), .ref (ad (b + 62)), .int (nI (k + 11)), .int (nI T0), .int (nI rk)]))) H locs := hw
  obtain ⟨g1, hg1⟩ : ∃ z, z = va_up g (b) (.inr (2, [.ref (ad f), .ref (ad (b + 1)), .ref (ad (b + 61)), .ref (ad (b + 62)), .int (nI (k + 11)), .int (nI T0), .int (nI rk)])) := ⟨_, rfl⟩
  rw [← hg1] at hw
  have hk2 : ∀ z, z ≠ b → g1 z = g z := fun z hz => by rw [hg1]; exact va_up_ne _ _ hz
  have e3 : g1 (b) = .inr (2, [.ref (ad f), .ref (ad (b + 1)), .ref (ad (b + 61)), .ref (ad (b + 62)), .int (nI (k + 11)), .int (nI T0), .int (nI rk)]) := by rw [hg1]; exact va_up_self _ _ _
  have e4 : g1 (b + 1) = qa ca 59 (fun i => if i < 59 then some (ad (b + 2 + i)) else none) := (hk2 _ (by omega)).trans hE.2.1
  have e5 : g1 (b + 61) = za ca 59 (ld) := (hk2 _ (by omega)).trans hE.2.2.2.1
  have e6 : g1 (b + 62) = na ca 75 (ln) := (hk2 _ (by omega)).trans hE.2.2.2.2
  have e7 : g1 (f) = .inr (3, [.ref (ad (f + 1)), .ref (ad (f + 2))]) := (hk2 _ (by omega)).trans hF.1
  have e8 : g1 (f + 1) = na ca 510 (pw) := (hk2 _ (by omega)).trans hF.2.1
  have e9 : g1 (f + 2) = na ca 256 (ex) := (hk2 _ (by omega)).trans hF.2.2
  have hr10 : ∀ p9, p9 < 59 → g1 (b + 2 + p9) = na ca 75 (M p9) := fun p9 hp9 => (hk2 _ (by omega)).trans (hE.2.2.1 p9 hp9)
  have hs11 : ∀ z, (z < b ∨ b + 62 < z) → g1 z = g z := fun z hz => hk2 z (by omega)
  refine lv_aload_n C.1 C.2.1 dX2_start_8 rfl (lv_at hl 0 rfl) ?_
  refine lv_iload_n C.1 C.2.1 dX2_start_9 rfl (lv_at hl 2 rfl) ?_
  refine k_put C F hw (b) (by omega) e3 rfl in_X2 tyX2_ok nmX2 5 (by decide) fl_X2_32 rfl (v := .int (nI T)) rfl rfl (Nat.le_of_ble_eq_true rfl) dX2_start_10 (fun H locs hw => ?_)
  have hw : Wd D (AA R ad sz) s R ad (va_up g1 (b) (.inr (2, [.ref (ad f), .ref (ad (b + 1)), .ref (ad (b + 61)), .ref (ad (b + 62)), .int (nI (k + 11)), .int (nI T), .int (nI rk)]))) H locs := hw
  obtain ⟨g12, hg12⟩ : ∃ z, z = va_up g1 (b) (.inr (2, [.ref (ad f), .ref (ad (b + 1)), .ref (ad (b + 61)), .ref (ad (b + 62)), .int (nI (k + 11)), .int (nI T), .int (nI rk)])) := ⟨_, rfl⟩
  rw [← hg12] at hw
  have hk13 : ∀ z, z ≠ b → g12 z = g1 z := fun z hz => by rw [hg12]; exact va_up_ne _ _ hz
  have e14 : g12 (b) = .inr (2, [.ref (ad f), .ref (ad (b + 1)), .ref (ad (b + 61)), .ref (ad (b + 62)), .int (nI (k + 11)), .int (nI T), .int (nI rk)]) := by rw [hg12]; exact va_up_self _ _ _
  have e15 : g12 (b + 1) = qa ca 59 (fun i => if i < 59 then some (ad (b + 2 + i)) else none) := (hk13 _ (by omega)).trans e4
  have e16 : g12 (b + 61) = za ca 59 (ld) := (hk13 _ (by omega)).trans e5
  have e17 : g12 (b + 62) = na ca 75 (ln) := (hk13 _ (by omega)).trans e6
  have e18 : g12 (f) = .inr (3, [.ref (ad (f + 1)), .ref (ad (f + 2))]) := (hk13 _ (by omega)).trans e7
  have e19 : g12 (f + 1) = na ca 510 (pw) := (hk13 _ (by omega)).trans e8
  have e20 : g12 (f + 2) = na ca 256 (ex) := (hk13 _ (by omega)).trans e9
  have hr21 : ∀ p9, p9 < 59 → g12 (b + 2 + p9) = na ca 75 (M p9) := fun p9 hp9 => (hk13 _ (by omega)).trans (hr10 p9 hp9)
  have hs22 : ∀ z, (z < b ∨ b + 62 < z) → g12 z = g z := fun z hz => (hk13 z (by omega)).trans (hs11 z hz)
  refine lv_aload_n C.1 C.2.1 dX2_start_13 rfl (lv_at hl 0 rfl) ?_
  refine k_icn C 0 dX2_start_14 (by decide) ?_
  refine k_put C F hw (b) (by omega) e14 rfl in_X2 tyX2_ok nmX2 6 (by decide) fl_X2_35 rfl (v := .int (nI 0)) rfl rfl (Nat.le_of_ble_eq_true rfl) dX2_start_15 (fun H locs hw => ?_)
  have hw : Wd D (AA R ad sz) s R ad (va_up g12 (b) (.inr (2, [.ref (ad f), .ref (ad (b + 1)), .ref (ad (b + 61)), .ref (ad (b + 62)), .int (nI (k + 11)), .int (nI T), .int (nI 0)]))) H locs := hw
  obtain ⟨g23, hg23⟩ : ∃ z, z = va_up g12 (b) (.inr (2, [.ref (ad f), .ref (ad (b + 1)), .ref (ad (b + 61)), .ref (ad (b + 62)), .int (nI (k + 11)), .int (nI T), .int (nI 0)])) := ⟨_, rfl⟩
  rw [← hg23] at hw
  have hk24 : ∀ z, z ≠ b → g23 z = g12 z := fun z hz => by rw [hg23]; exact va_up_ne _ _ hz
  have e25 : g23 (b) = .inr (2, [.ref (ad f), .ref (ad (b + 1)), .ref (ad (b + 61)), .ref (ad (b + 62)), .int (nI (k + 11)), .int (nI T), .int (nI 0)]) := by rw [hg23]; exact va_up_self _ _ _
  have e26 : g23 (b + 1) = qa ca 59 (fun i => if i < 59 then some (ad (b + 2 + i)) else none) := (hk24 _ (by omega)).trans e15
  have e27 : g23 (b + 61) = za ca 59 (ld) := (hk24 _ (by omega)).trans e16
  have e28 : g23 (b + 62) = na ca 75 (ln) := (hk24 _ (by omega)).trans e17
  have e29 : g23 (f) = .inr (3, [.ref (ad (f + 1)), .ref (ad (f + 2))]) := (hk24 _ (by omega)).trans e18
  have e30 : g23 (f + 1) = na ca 510 (pw) := (hk24 _ (by omega)).trans e19
  have e31 : g23 (f + 2) = na ca 256 (ex) := (hk24 _ (by omega)).trans e20
  have hr32 : ∀ p9, p9 < 59 → g23 (b + 2 + p9) = na ca 75 (M p9) := fun p9 hp9 => (hk24 _ (by omega)).trans (hr21 p9 hp9)
  have hs33 : ∀ z, (z < b ∨ b + 62 < z) → g23 z = g z := fun z hz => (hk24 z (by omega)).trans (hs22 z hz)
  have e34 : g23 (b + 61) = za ca 59 (fun p => if p < 0 then false else ld p) := by simpa using e27
  refine k_icn C 0 dX2_start_18 (by decide) ?_
  refine lv_istore_n (lv' := [(3, .int (nI 0)), (0, .ref (ad b)), (1, .int (nI k)), (2, .int (nI T))]) C.1 C.2.1 dX2_start_19 rfl hl (by decide) rfl (fun ls hl => ?_)
  have loop20 : ∀ (fuel : Nat) (i : Nat) (gL : Nat → va_E) (H : Heap) (locs : List Loc) (ls : Array Slot), ((59 - i) + 1 ≤ fuel) → (i ≤ 59) → (∀ z, (z < b ∨ b + 62 < z) → gL z = g z) → (gL (b) = .inr (2, [.ref (ad f), .ref (ad (b + 1)), .ref (ad (b + 61)), .ref (ad (b + 62)), .int (nI (k + 11)), .int (nI T), .int (nI 0)])) → (gL (b + 1) = qa ca 59 (fun i => if i < 59 then some (ad (b + 2 + i)) else none)) → (gL (b + 61) = za ca 59 (fun p => if p < i then false else ld p)) → (gL (b + 62) = na ca 75 (ln)) → (∀ p9, p9 < 59 → gL (b + 2 + p9) = na ca 75 (M p9)) → Wd D (AA R ad sz) s R ad gL H locs → lv_has ls 4 [(0, .ref (ad b)), (1, .int (nI k)), (2, .int (nI T)), (3, .int (nI i))] → W p l e rm_X2_start s m args below meth c H locs 0 0 Q (F0 m 20 ls []) := by
    intro fuel
    induction fuel with
    | zero =>
      intro i gL H locs ls hfu20
      exact absurd hfu20 (by omega)
    | succ fuel20 ih20 =>
      intro i gL H locs ls hfu20 hi hsL20 eL20_0 eL20_1 eL20_2 eL20_3 hrL20_0 hw hl
      have e35 : gL (f) = .inr (3, [.ref (ad (f + 1)), .ref (ad (f + 2))]) := (hsL20 _ (by omega)).trans hF.1
      have e36 : gL (f + 1) = na ca 510 (pw) := (hsL20 _ (by omega)).trans hF.2.1
      have e37 : gL (f + 2) = na ca 256 (ex) := (hsL20 _ (by omega)).trans hF.2.2
      refine lv_iload_n C.1 C.2.1 dX2_start_20 rfl (lv_at hl 3 rfl) ?_
      refine k_bip C 59 dX2_start_21 (by decide) ?_
      refine k_ige (tgt := 39) C dX2_start_23 (by decide) (by omega) (by omega) (fun hc23 => ?_) (fun hc23 => ?_)
      · have e38 : gL (b + 61) = za ca 59 (fun p => if p < 59 then false else ld p) := by have h9 := eL20_2; rw [show i = 59 by omega] at h9; exact h9
        refine k_icn C 0 dX2_start_39 (by decide) ?_
        refine lv_istore_n (lv' := [(3, .int (nI 0)), (0, .ref (ad b)), (1, .int (nI k)), (2, .int (nI T))]) C.1 C.2.1 dX2_start_40 rfl hl (by decide) rfl (fun ls hl => ?_)
        have loop41 : ∀ (fuel : Nat) (i : Nat) (sv : EqS) (gL : Nat → va_E) (H : Heap) (locs : List Loc) (ls : Array Slot), ((7 - i) + 1 ≤ fuel) → (i ≤ 7) → (sv = fr (stSum pw ex k T) i (0, M, (fun p => if p < 59 then false else ld p), ln)) → (EqBy sv) → (sv.1 ≤ 0 + i) → (∀ z, (z < b ∨ b + 62 < z) → gL z = g z) → (gL (b) = .inr (2, [.ref (ad f), .ref (ad (b + 1)), .ref (ad (b + 61)), .ref (ad (b + 62)), .int (nI (k + 11)), .int (nI T), .int (nI (sv.1))])) → (gL (b + 1) = qa ca 59 (fun i => if i < 59 then some (ad (b + 2 + i)) else none)) → (gL (b + 61) = za ca 59 (sv.2.2.1)) → (gL (b + 62) = na ca 75 (sv.2.2.2)) → (∀ p9, p9 < 59 → gL (b + 2 + p9) = na ca 75 (sv.2.1 p9)) → Wd D (AA R ad sz) s R ad gL H locs → lv_has ls 4 [(0, .ref (ad b)), (1, .int (nI k)), (2, .int (nI T)), (3, .int (nI i))] → W p l e rm_X2_start s m args below meth c H locs 0 0 Q (F0 m 41 ls []) := by
          intro fuel
          induction fuel with
          | zero =>
            intro i sv gL H locs ls hfu41
            exact absurd hfu41 (by omega)
          | succ fuel41 ih41 =>
            intro i sv gL H locs ls hfu41 hi hsv hsb hsr hsL41 eL41_0 eL41_1 eL41_2 eL41_3 hrL41_0 hw hl
            have e39 : gL (f) = .inr (3, [.ref (ad (f + 1)), .ref (ad (f + 2))]) := (hsL41 _ (by omega)).trans hF.1
            have e40 : gL (f + 1) = na ca 510 (pw) := (hsL41 _ (by omega)).trans hF.2.1
            have e41 : gL (f + 2) = na ca 256 (ex) := (hsL41 _ (by omega)).trans hF.2.2
            refine lv_iload_n C.1 C.2.1 dX2_start_41 rfl (lv_at hl 3 rfl) ?_
            refine k_bip C 7 dX2_start_42 (by decide) ?_
            refine k_ige (tgt := 64) C dX2_start_44 (by decide) (by omega) (by omega) (fun hc44 => ?_) (fun hc44 => ?_)
            · refine k_icn C 0 dX2_start_64 (by decide) ?_
              refine lv_istore_n (lv' := [(3, .int (nI 0)), (0, .ref (ad b)), (1, .int (nI k)), (2, .int (nI T))]) C.1 C.2.1 dX2_start_65 rfl hl (by decide) rfl (fun ls hl => ?_)
              have loop66 : ∀ (fuel : Nat) (i : Nat) (sv : EqS) (gL : Nat → va_E) (H : Heap) (locs : List Loc) (ls : Array Slot), ((4 - i) + 1 ≤ fuel) → (i ≤ 4) → (sv = fr (stPow pw ex k T) i (fr (stSum pw ex k T) 7 (0, M, (fun p => if p < 59 then false else ld p), ln))) → (EqBy sv) → (sv.1 ≤ 7 + i) → (∀ z, (z < b ∨ b + 62 < z) → gL z = g z) → (gL (b) = .inr (2, [.ref (ad f), .ref (ad (b + 1)), .ref (ad (b + 61)), .ref (ad (b + 62)), .int (nI (k + 11)), .int (nI T), .int (nI (sv.1))])) → (gL (b + 1) = qa ca 59 (fun i => if i < 59 then some (ad (b + 2 + i)) else none)) → (gL (b + 61) = za ca 59 (sv.2.2.1)) → (gL (b + 62) = na ca 75 (sv.2.2.2)) → (∀ p9, p9 < 59 → gL (b + 2 + p9) = na ca 75 (sv.2.1 p9)) → Wd D (AA R ad sz) s R ad gL H locs → lv_has ls 4 [(0, .ref (ad b)), (1, .int (nI k)), (2, .int (nI T)), (3, .int (nI i))] → W p l e rm_X2_start s m args below meth c H locs 0 0 Q (F0 m 66 ls []) := by
                intro fuel
                induction fuel with
                | zero =>
                  intro i sv gL H locs ls hfu66
                  exact absurd hfu66 (by omega)
                | succ fuel66 ih66 =>
                  intro i sv gL H locs ls hfu66 hi hsv hsb hsr hsL66 eL66_0 eL66_1 eL66_2 eL66_3 hrL66_0 hw hl
                  have e42 : gL (f) = .inr (3, [.ref (ad (f + 1)), .ref (ad (f + 2))]) := (hsL66 _ (by omega)).trans hF.1
                  have e43 : gL (f + 1) = na ca 510 (pw) := (hsL66 _ (by omega)).trans hF.2.1
                  have e44 : gL (f + 2) = na ca 256 (ex) := (hsL66 _ (by omega)).trans hF.2.2
                  refine lv_iload_n C.1 C.2.1 dX2_start_66 rfl (lv_at hl 3 rfl) ?_
                  refine k_icn C 4 dX2_start_67 (by decide) ?_
                  refine k_ige (tgt := 88) C dX2_start_68 (by decide) (by omega) (by omega) (fun hc68 => ?_) (fun hc68 => ?_)
                  · have hE45 : EqAt ca ad gL b f (k + 11) T sv.1 sv.2.1 sv.2.2.1 sv.2.2.2 := ⟨eL66_0, eL66_1, hrL66_0, eL66_2, eL66_3⟩
                    have h9 : sv = startS pw ex k T (rk, M, ld, ln) := by rw [hsv, show i = 4 by omega]; unfold startS; rfl
                    exact hret H locs ls _ _ dX2_start_88 hw (⟨hsL66, by rw [← h9]; exact hE45⟩)
                  · refine lv_aload_n C.1 C.2.1 dX2_start_71 rfl (lv_at hl 0 rfl) ?_
                    refine lv_iload_n C.1 C.2.1 dX2_start_72 rfl (lv_at hl 1 rfl) ?_
                    refine lv_iload_n C.1 C.2.1 dX2_start_73 rfl (lv_at hl 3 rfl) ?_
                    have hE46 : EqAt ca ad gL b f (k + 11) T sv.1 sv.2.1 sv.2.2.1 sv.2.2.2 := ⟨eL66_0, eL66_1, hrL66_0, eL66_2, eL66_3⟩
                    have hF47 : FieldAt ca ad gL f pw ex := ⟨e42, e43, e44⟩
                    refine k_Vv C F hw (i := b) (As := [.int (nI k), .int (nI i)]) (rest := []) (c_X2_setPowerLine b f (k + 11) T sv.1 sv.2.1 sv.2.2.1 sv.2.2.2 hE46 (by omega) (by omega) (by omega) pw ex hF47 hX hP (by omega) hsb.1 hsb.2 k i (by omega) (by omega)) (by omega) eL66_0 rfl (cwV _ C.2.2.2.2 gm_X2_46 rfl rfl rfl cd_X2_setPowerLine ⟨by decide, by decide⟩) hl.1 rfl (Nat.le_of_ble_eq_true rfl) dX2_start_74 ⟨by decide, by decide⟩ (fun g49 H locs hp hw => ?_)
                    obtain ⟨hs50, hE51⟩ := hp
                    have e52 : g49 (f) = .inr (3, [.ref (ad (f + 1)), .ref (ad (f + 2))]) := (hs50 _ (by omega)).trans e42
                    have e53 : g49 (f + 1) = na ca 510 (pw) := (hs50 _ (by omega)).trans e43
                    have e54 : g49 (f + 2) = na ca 256 (ex) := (hs50 _ (by omega)).trans e44
                    have hs55 : ∀ z, (z < b ∨ b + 62 < z) → g49 z = g z := fun z hz => (hs50 z (by omega)).trans (hsL66 z hz)
                    refine lv_aload_n C.1 C.2.1 dX2_start_77 rfl (lv_at hl 0 rfl) ?_
                    have hE56 : EqAt ca ad g49 b f (k + 11) T sv.1 sv.2.1 sv.2.2.1 (lnPow pw T k i sv.2.2.2) := ⟨hE51.1, hE51.2.1, hE51.2.2.1, hE51.2.2.2.1, hE51.2.2.2.2⟩
                    have hF57 : FieldAt ca ad g49 f pw ex := ⟨e52, e53, e54⟩
                    refine k_Vi C F hw (i := b) (As := []) (rest := []) (c_X2_learn b f (k + 11) T sv.1 sv.2.1 sv.2.2.1 (lnPow pw T k i sv.2.2.2) hE56 (by omega) (by omega) (by omega) pw ex hF57 hX hP (by omega) hsb.1 (By.pow hP hsb.2)) (by omega) hE51.1 rfl (cwV _ C.2.2.2.2 gm_X2_42 rfl rfl rfl cd_X2_learn ⟨by decide, by decide⟩) hl.1 rfl (Nat.le_of_ble_eq_true rfl) dX2_start_78 ⟨by decide, by decide⟩ (fun r58 g59 H locs hp hw => ?_)
                    obtain ⟨hs60, -, hE61⟩ := hp
                    have e62 : g59 (f) = .inr (3, [.ref (ad (f + 1)), .ref (ad (f + 2))]) := (hs60 _ (by omega)).trans e52
                    have e63 : g59 (f + 1) = na ca 510 (pw) := (hs60 _ (by omega)).trans e53
                    have e64 : g59 (f + 2) = na ca 256 (ex) := (hs60 _ (by omega)).trans e54
                    have hs65 : ∀ z, (z < b ∨ b + 62 < z) → g59 z = g z := fun z hz => (hs60 z (by omega)).trans (hs55 z hz)
                    refine lv_pop C.1 C.2.1 dX2_start_81 rfl ?_
                    refine k_inc C (i + 1) (lv' := [(3, .int (nI (i + 1))), (0, .ref (ad b)), (1, .int (nI k)), (2, .int (nI T))]) dX2_start_82 hl (k := 3) rfl (inc1 _) (by decide) rfl (fun ls hl => ?_)
                    refine lv_goto (tgt := 66) C.1 C.2.1 dX2_start_85 (by decide) ?_
                    exact ih66 (i + 1) (learnS pw ex (k + 11) T (sv.1, sv.2.1, sv.2.2.1, lnPow pw T k i sv.2.2.2)) g59 H locs ls (by omega) (by omega) (by rw [fr_s, ← hsv]; rfl) (learnS_by hP ⟨hsb.1, By.pow hP hsb.2⟩) (by have := learnS_rk pw ex (k + 11) T (sv.1, sv.2.1, sv.2.2.1, lnPow pw T k i sv.2.2.2); dsimp only at this; omega) hs65 hE61.1 hE61.2.1 hE61.2.2.2.1 hE61.2.2.2.2 hE61.2.2.1 hw (lv_sub hl [1, 2, 3, 0] rfl)
              exact loop66 _ 0 sv gL H locs ls (Nat.le_refl _) (by omega) (by rw [hsv, show i = 7 by omega, fr_0]) hsb (by omega) hsL41 eL41_0 eL41_1 eL41_2 eL41_3 hrL41_0 hw (lv_sub hl [1, 2, 3, 0] rfl)
            · refine lv_aload_n C.1 C.2.1 dX2_start_47 rfl (lv_at hl 0 rfl) ?_
              refine lv_iload_n C.1 C.2.1 dX2_start_48 rfl (lv_at hl 1 rfl) ?_
              refine lv_iload_n C.1 C.2.1 dX2_start_49 rfl (lv_at hl 3 rfl) ?_
              have hE66 : EqAt ca ad gL b f (k + 11) T sv.1 sv.2.1 sv.2.2.1 sv.2.2.2 := ⟨eL41_0, eL41_1, hrL41_0, eL41_2, eL41_3⟩
              refine k_Vv C F hw (i := b) (As := [.int (nI k), .int (nI i)]) (rest := []) (c_X2_setSumLine b f (k + 11) T sv.1 sv.2.1 sv.2.2.1 sv.2.2.2 hE66 (by omega) (by omega) (by omega) k i (by omega) (by omega)) (by omega) eL41_0 rfl (cwV _ C.2.2.2.2 gm_X2_38 rfl rfl rfl cd_X2_setSumLine ⟨by decide, by decide⟩) hl.1 rfl (Nat.le_of_ble_eq_true rfl) dX2_start_50 ⟨by decide, by decide⟩ (fun g68 H locs hp hw => ?_)
              obtain ⟨hs69, hE70⟩ := hp
              have e71 : g68 (f) = .inr (3, [.ref (ad (f + 1)), .ref (ad (f + 2))]) := (hs69 _ (by omega)).trans e39
              have e72 : g68 (f + 1) = na ca 510 (pw) := (hs69 _ (by omega)).trans e40
              have e73 : g68 (f + 2) = na ca 256 (ex) := (hs69 _ (by omega)).trans e41
              have hs74 : ∀ z, (z < b ∨ b + 62 < z) → g68 z = g z := fun z hz => (hs69 z (by omega)).trans (hsL41 z hz)
              refine lv_aload_n C.1 C.2.1 dX2_start_53 rfl (lv_at hl 0 rfl) ?_
              have hE75 : EqAt ca ad g68 b f (k + 11) T sv.1 sv.2.1 sv.2.2.1 (lnSum T k i sv.2.2.2) := ⟨hE70.1, hE70.2.1, hE70.2.2.1, hE70.2.2.2.1, hE70.2.2.2.2⟩
              have hF76 : FieldAt ca ad g68 f pw ex := ⟨e71, e72, e73⟩
              refine k_Vi C F hw (i := b) (As := []) (rest := []) (c_X2_learn b f (k + 11) T sv.1 sv.2.1 sv.2.2.1 (lnSum T k i sv.2.2.2) hE75 (by omega) (by omega) (by omega) pw ex hF76 hX hP (by omega) hsb.1 (By.sum hsb.2)) (by omega) hE70.1 rfl (cwV _ C.2.2.2.2 gm_X2_42 rfl rfl rfl cd_X2_learn ⟨by decide, by decide⟩) hl.1 rfl (Nat.le_of_ble_eq_true rfl) dX2_start_54 ⟨by decide, by decide⟩ (fun r77 g78 H locs hp hw => ?_)
              obtain ⟨hs79, -, hE80⟩ := hp
              have e81 : g78 (f) = .inr (3, [.ref (ad (f + 1)), .ref (ad (f + 2))]) := (hs79 _ (by omega)).trans e71
              have e82 : g78 (f + 1) = na ca 510 (pw) := (hs79 _ (by omega)).trans e72
              have e83 : g78 (f + 2) = na ca 256 (ex) := (hs79 _ (by omega)).trans e73
              have hs84 : ∀ z, (z < b ∨ b + 62 < z) → g78 z = g z := fun z hz => (hs79 z (by omega)).trans (hs74 z hz)
              refine lv_pop C.1 C.2.1 dX2_start_57 rfl ?_
              refine k_inc C (i + 1) (lv' := [(3, .int (nI (i + 1))), (0, .ref (ad b)), (1, .int (nI k)), (2, .int (nI T))]) dX2_start_58 hl (k := 3) rfl (inc1 _) (by decide) rfl (fun ls hl => ?_)
              refine lv_goto (tgt := 41) C.1 C.2.1 dX2_start_61 (by decide) ?_
              exact ih41 (i + 1) (learnS pw ex (k + 11) T (sv.1, sv.2.1, sv.2.2.1, lnSum T k i sv.2.2.2)) g78 H locs ls (by omega) (by omega) (by rw [fr_s, ← hsv]; rfl) (learnS_by hP ⟨hsb.1, By.sum hsb.2⟩) (by have := learnS_rk pw ex (k + 11) T (sv.1, sv.2.1, sv.2.2.1, lnSum T k i sv.2.2.2); dsimp only at this; omega) hs84 hE80.1 hE80.2.1 hE80.2.2.2.1 hE80.2.2.2.2 hE80.2.2.1 hw (lv_sub hl [1, 2, 3, 0] rfl)
        exact loop41 _ 0 (0, M, (fun p => if p < 59 then false else ld p), ln) gL H locs ls (Nat.le_refl _) (by omega) ((fr_0 _ _).symm) (⟨hM, hln⟩) (by exact Nat.le_refl _) hsL20 eL20_0 eL20_1 e38 eL20_3 hrL20_0 hw (lv_sub hl [1, 2, 3, 0] rfl)
      · refine lv_aload_n C.1 C.2.1 dX2_start_26 rfl (lv_at hl 0 rfl) ?_
        refine k_get C F hw (b) (by omega) eL20_0 rfl in_X2 2 (by decide) fl_X2_20 rfl dX2_start_27 ?_
        refine lv_iload_n C.1 C.2.1 dX2_start_30 rfl (lv_at hl 3 rfl) ?_
        refine k_icn C 0 dX2_start_31 (by decide) ?_
        refine k_zast C F hw (b + 61) (by omega) eL20_2 (i) false (by rfl) (by omega) (by decide) dX2_start_32 (fun H locs hw => ?_)
        have hw : Wd D (AA R ad sz) s R ad (va_up gL (b + 61) (za ca 59 (va_up (fun p => if p < i then false else ld p) i false))) H locs := hw
        obtain ⟨g85, hg85⟩ : ∃ z, z = va_up gL (b + 61) (za ca 59 (va_up (fun p => if p < i then false else ld p) i false)) := ⟨_, rfl⟩
        rw [← hg85] at hw
        have hk86 : ∀ z, z ≠ (b + 61) → g85 z = gL z := fun z hz => by rw [hg85]; exact va_up_ne _ _ hz
        have e87 : g85 (b + 61) = za ca 59 (va_up (fun p => if p < i then false else ld p) i false) := by rw [hg85]; exact va_up_self _ _ _
        have e88 : g85 (b) = .inr (2, [.ref (ad f), .ref (ad (b + 1)), .ref (ad (b + 61)), .ref (ad (b + 62)), .int (nI (k + 11)), .int (nI T), .int (nI 0)]) := (hk86 _ (by omega)).trans eL20_0
        have e89 : g85 (b + 1) = qa ca 59 (fun i => if i < 59 then some (ad (b + 2 + i)) else none) := (hk86 _ (by omega)).trans eL20_1
        have e90 : g85 (b + 62) = na ca 75 (ln) := (hk86 _ (by omega)).trans eL20_3
        have e91 : g85 (f) = .inr (3, [.ref (ad (f + 1)), .ref (ad (f + 2))]) := (hk86 _ (by omega)).trans e35
        have e92 : g85 (f + 1) = na ca 510 (pw) := (hk86 _ (by omega)).trans e36
        have e93 : g85 (f + 2) = na ca 256 (ex) := (hk86 _ (by omega)).trans e37
        have hr94 : ∀ p9, p9 < 59 → g85 (b + 2 + p9) = na ca 75 (M p9) := fun p9 hp9 => (hk86 _ (by omega)).trans (hrL20_0 p9 hp9)
        have hs95 : ∀ z, (z < b ∨ b + 62 < z) → g85 z = g z := fun z hz => (hk86 z (by omega)).trans (hsL20 z hz)
        refine k_inc C (i + 1) (lv' := [(3, .int (nI (i + 1))), (0, .ref (ad b)), (1, .int (nI k)), (2, .int (nI T))]) dX2_start_33 hl (k := 3) rfl (inc1 _) (by decide) rfl (fun ls hl => ?_)
        refine lv_goto (tgt := 20) C.1 C.2.1 dX2_start_36 (by decide) ?_
        have e96 : g85 (b + 61) = za ca 59 (fun p => if p < i + 1 then false else ld p) := by rw [← ld_clear]; exact e87
        exact ih20 (i + 1) g85 H locs ls (by omega) (by omega) hs95 e88 e89 e96 e90 hr94 hw (lv_sub hl [1, 2, 3, 0] rfl)
  exact loop20 _ 0 g23 H locs ls (Nat.le_refl _) (by omega) hs33 e25 e26 e34 e28 hr32 hw (lv_sub hl [1, 2, 3, 0] rfl)
