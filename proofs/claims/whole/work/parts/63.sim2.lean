/-! ===== the two sides agree: takeAll, frames ===== -/
theorem cm_ne {pm : Nat → Nat} {ck ct cn pk x : Nat} {CG : Nat → Nat → Nat} {bb : Nat → Nat} {r1 : Int32} {cn1 pk1 : Nat} (h : CmR pm ck ct CG cn pk x bb r1 cn1 pk1) : (r1 = -1 ↔ ¬ 0 ≤ r1) := by
  rcases h with h | h | h <;> rw [h.1] <;> decide
theorem ta_sim {pw ex pm : Nat → Nat} (ht : TabOk pw ex) (hpm : ∀ x, pm x = pw x) {ck ct stp : Nat} {BM IN : Nat → Nat → Nat} (hk : 1 ≤ ck ∧ ck ≤ 48) (hct : ct ≤ 16) (hIN : ∀ p, By (IN p)) (hBI : ∀ p, p < ck + 11 → ∀ i, i < ct → BM p i = IN p i) :
    ∀ (n x gr rk : Nat) (M : Nat → Nat → Nat) (ld : Nat → Bool) (cn : Nat) (CG : Nat → Nat → Nat) (cm : Nat) (r : TS) (r' : MT), (∀ p, By (M p)) → (∀ q, By (CG q)) → CkOK (ck + 11) ct (VV pm ck CG) (11 + cm) rk M ld → TaR pw ex (fbG pm) BM ck ct stp n x (gr, rk, M, ld, cn) r → MaR pm IN ck ct stp n x (gr, CG, cm, cn) r' → r.1 = r'.1 ∧ r.2.2.2.2 = r'.2.2.2 ∧ CkOK (ck + 11) ct (VV pm ck r'.2.1) (11 + r'.2.2.1) r.2.1 r.2.2.1 r.2.2.2.1
  | 0, x, gr, rk, M, ld, cn, CG, cm, r, r', _, _, hc, h1, h2 => by
    have h1' : r = (gr, rk, M, ld, cn) := h1
    have h2' : r' = (gr, CG, cm, cn) := h2
    subst h1' h2'
    exact ⟨rfl, rfl, hc⟩
  | n + 1, x, gr, rk, M, ld, cn, CG, cm, r, r', hM, hCG, hc, h1, h2 => by
    obtain ⟨ln1, pl1, hln, h1⟩ := h1
    obtain ⟨r1, cn1, pk1, hcm, h2⟩ := h2
    have hst := cm_step (ex := ex) (ln := ln1) (pl := pl1) (Vb := fun i => vlN BM (pkOut ck x (tnN (fbG pm ck)) pl1).1 i (pkOut ck x (tnN (fbG pm ck)) pl1).2.1) ht hpm hk hct hM hln (by_smP hIN) hCG (fun i hi => vl_sm pl1 hk (fun p hp => hBI p hp i hi)) hc hcm
    have hby : EqBy (inB (fbG pm) BM ck ct rk M ld x ln1 pl1) := inS_by (fun i hi => by rw [vl_sm pl1 hk (fun p hp => hBI p hp i hi)]; exact smN_lt hIN _) ⟨hM, hln⟩
    change learnR pw ex (ck + 11) ct (inB (fbG pm) BM ck ct rk M ld x ln1 pl1) = r1 ∧ _ at hst
    have hx := cm_ne hcm
    rcases h1 with ⟨e1, e2⟩ | ⟨e1, e2⟩
    · rw [hst.1] at e1
      have e2' : r = (gr, rk, M, ld, cn) := e2
      rcases h2 with ⟨f1, f2⟩ | ⟨f1, f2⟩
      · have f2' : r' = (gr, CgN pm ck ct CG cm x (smP pm IN ck x), cn1, pk1) := f2
        subst e2' f2'
        obtain ⟨q1, q2⟩ := hst.2.2.2 e1
        exact ⟨rfl, q1.symm, q2⟩
      · exact absurd f1 (hx.mp e1)
    · have e1' : r1 ≠ -1 := by rw [← hst.1]; exact e1
      rcases h2 with ⟨f1, f2⟩ | ⟨f1, f2⟩
      · exact absurd (hx.mpr f1) e1'
      · obtain ⟨q1, q2⟩ := hst.2.2.1 e1'
        change TaR pw ex (fbG pm) BM ck ct stp n ((x + stp) % 65536) (gr + (if learnR pw ex (ck + 11) ct (inB (fbG pm) BM ck ct rk M ld x ln1 pl1) = 1 then 1 else 0), _, _, _, cn + 1) r at e2
        rw [hst.1] at e2
        change MaR pm IN ck ct stp n ((x + stp) % 65536) (gr + (if r1 = 1 then 1 else 0), _, cn1, pk1) r' at f2
        rw [q1] at f2
        exact ta_sim ht hpm hk hct hIN hBI n _ _ _ _ _ _ _ _ r r' (learnS_by ht.pw hby).1 (by_CgN hCG (by_smP hIN)) q2 e2 f2
/-- the model's state in a world that is the same there -/
theorem MInv.keep {ca : Nat → ClassId} {ad : Nat → Nat} {g g1 : Nat → va_E} {pm : Nat → Nat} {cd : Int32} {ln : Nat} {th : Nat → Nat} {bk bt : Nat} {IN : Nat → Nat → Nat} {ck ct : Nat} {CG : Nat → Nat → Nat} {cn pk : Nat} (hI : MInv ca ad g pm cd ln th bk bt IN ck ct CG cn pk) (hs : ∀ z, 198 ≤ z → z ≤ 207 → g1 z = g z) : MInv ca ad g1 pm cd ln th bk bt IN ck ct CG cn pk := by
  obtain ⟨tp, rw, gt, M, pv, ro, tn, bb, ⟨q198, q199, q200, q201, q202, q203, q204, q205, q206, q207⟩, hr⟩ := hI
  exact ⟨tp, rw, gt, M, pv, ro, tn, bb, ⟨(hs _ (by omega) (by omega)).trans q198, (hs _ (by omega) (by omega)).trans q199, (hs _ (by omega) (by omega)).trans q200, (hs _ (by omega) (by omega)).trans q201, (hs _ (by omega) (by omega)).trans q202, (hs _ (by omega) (by omega)).trans q203, (hs _ (by omega) (by omega)).trans q204, (hs _ (by omega) (by omega)).trans q205, (hs _ (by omega) (by omega)).trans q206, (hs _ (by omega) (by omega)).trans q207⟩, hr⟩
theorem EqAt.keepB {ca : Nat → ClassId} {ad : Nat → Nat} {g g1 : Nat → va_E} {b f L T rk : Nat} {M : Nat → Nat → Nat} {ld : Nat → Bool} {ln : Nat → Nat} (h : EqAt ca ad g b f L T rk M ld ln) (hk : ∀ z, z < 198 → g1 z = g z) (hb : b + 62 < 198) : EqAt ca ad g1 b f L T rk M ld ln :=
  ⟨(hk _ (by omega)).trans h.1, (hk _ (by omega)).trans h.2.1, fun p hp => (hk _ (by omega)).trans (h.2.2.1 p hp), (hk _ (by omega)).trans h.2.2.2.1, (hk _ (by omega)).trans h.2.2.2.2⟩
/-- the class's state in a world that is the same there -/
theorem DInv.keep {ca : Nat → ClassId} {ad : Nat → Nat} {g g1 : Nat → va_E} {pw ex : Nat → Nat} {fb : Nat → Nat → Bool} {len : Nat} {h : Nat → Nat} {bk bt : Nat} {BM : Nat → Nat → Nat} {ck ct cn rk : Nat} {M : Nat → Nat → Nat} {ld : Nat → Bool} (hI : DInv ca ad g pw ex fb len h bk bt BM ck ct cn rk M ld) (hs : ∀ z, z < 198 → g1 z = g z) : DInv ca ad g1 pw ex fb len h bk bt BM ck ct cn rk M ld := by
  obtain ⟨eO, hF, hT4, ⟨v0, pl0, hK⟩, ⟨Lw, Tw, sw, hEw, hBw⟩, eT, ⟨fd, eD, hfd⟩, hB, hC, ⟨ln0, hln0, hEc⟩, hrest⟩ := hI
  exact ⟨(hs _ (by omega)).trans eO, ⟨(hs _ (by omega)).trans hF.1, (hs _ (by omega)).trans hF.2.1, (hs _ (by omega)).trans hF.2.2⟩, ⟨(hs _ (by omega)).trans hT4.1, (hs _ (by omega)).trans hT4.2⟩, ⟨v0, pl0, (hs _ (by omega)).trans hK.1, (hs _ (by omega)).trans hK.2⟩, ⟨Lw, Tw, sw, EqAt.keepB hEw hs (by omega), hBw⟩, (hs _ (by omega)).trans eT, ⟨fd, (hs _ (by omega)).trans eD, hfd⟩, ⟨(hs _ (by omega)).trans hB.1, (hs _ (by omega)).trans hB.2.1, fun p hp => (hs _ (by omega)).trans (hB.2.2 p hp)⟩, (hs _ (by omega)).trans hC, ⟨ln0, hln0, EqAt.keepB hEc hs (by omega)⟩, hrest⟩
