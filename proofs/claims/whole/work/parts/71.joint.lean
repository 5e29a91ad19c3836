/-! ===== the two sides agree, method by method ===== -/
def Jn (len : Nat) (h th : Nat → Nat) (bk bt : Nat) (BM IN : Nat → Nat → Nat) (ck ct : Nat) (CG : Nat → Nat → Nat) (cm rk : Nat) (M : Nat → Nat → Nat) (ld : Nat → Bool) : Prop :=
  (∀ j, j < len → h j = th j) ∧ (bk ≠ 0 → ∀ p, p < bk + 11 → ∀ i, i < bt → BM p i = IN p i) ∧ (ck ≠ 0 → CkOK (ck + 11) ct (VV pwG ck CG) (11 + cm) rk M ld)
def JS (ca : Nat → ClassId) (ad : Nat → Nat) (g : Nat → va_E) (ex : Nat → Nat) (cd : Int32) : Prop :=
  ∃ (len : Nat) (h : Nat → Nat) (bk bt : Nat) (BM : Nat → Nat → Nat) (ck ct cn rk : Nat) (M : Nat → Nat → Nat) (ld : Nat → Bool) (th : Nat → Nat) (IN CG : Nat → Nat → Nat) (cm : Nat), DInv ca ad g pwG ex (fbG pwG) len h bk bt BM ck ct cn rk M ld ∧ MInv ca ad g pwG cd len th bk bt IN ck ct CG cm cn ∧ Jn len h th bk bt BM IN ck ct CG cm rk M ld
def JV (ca : Nat → ClassId) (ad : Nat → Nat) (ex : Nat → Nat) (k : Int32) (g2 : Nat → va_E) : Prop := (∃ ob, g2 208 = la ca 1 ob) ∧ JS ca ad g2 ex k
def JO (ca : Nat → ClassId) (ad : Nat → Nat) (ex : Nat → Nat) (k : Int32) (y : Int64) (g2 : Nat → va_E) : Prop := (∃ ob, g2 208 = la ca 1 ob ∧ (k = nI 0 → ob 0 = y)) ∧ JS ca ad g2 ex k
theorem wI_fr {ca : Nat → ClassId} {g g1 : Nat → va_E} {ob : Nat → Int64} {lay : Int32 → Int64} {code : List (String × Nat)} {post : Int32 → (Nat → va_E) → Prop} {px : String → (Nat → va_E) → Prop} {k : Int32} (h : wI ca ob lay code post px k g1) (eO : g 208 = la ca 1 ob) (f1 : ∀ v g2, post v g2 → ∀ z, 197 < z → g2 z = g z) (f2 : ∀ E g2, px E g2 → ∀ z, 197 < z → g2 z = g z) : (∀ z, 197 < z → z ≠ 208 → g1 z = g z) ∧ ∃ ob1, g1 208 = la ca 1 ob1 := by
  rcases h with ⟨-, v, g', hp, rfl⟩ | ⟨q, -, hp, -⟩
  · exact ⟨fun z hz hne => (va_up_ne _ _ hne).trans (f1 v g' hp z hz), _, va_up_self _ _ _⟩
  · exact ⟨fun z hz _ => f2 _ _ hp z hz, ob, (f2 _ _ hp 208 (by omega)).trans eO⟩
theorem wV_fr {ca : Nat → ClassId} {g g1 : Nat → va_E} {ob : Nat → Int64} {code : List (String × Nat)} {post : (Nat → va_E) → Prop} {px : String → (Nat → va_E) → Prop} {k : Int32} (h : wV code post px k g1) (eO : g 208 = la ca 1 ob) (f1 : ∀ g2, post g2 → ∀ z, 197 < z → g2 z = g z) (f2 : ∀ E g2, px E g2 → ∀ z, 197 < z → g2 z = g z) : (∀ z, 197 < z → z ≠ 208 → g1 z = g z) ∧ ∃ ob1, g1 208 = la ca 1 ob1 := by
  rcases h with ⟨-, hp⟩ | ⟨q, -, hp, -⟩
  · exact ⟨fun z hz _ => f1 _ hp z hz, ob, (f1 _ hp 208 (by omega)).trans eO⟩
  · exact ⟨fun z hz _ => f2 _ _ hp z hz, ob, (f2 _ _ hp 208 (by omega)).trans eO⟩

theorem j_n {ca : Nat → ClassId} {ad : Nat → Nat} {g1 g2 : Nat → va_E} {ex : Nat → Nat} {len : Nat} {h th : Nat → Nat} {bk bt : Nat} {BM IN : Nat → Nat → Nat} {ck ct cn rk : Nat} {M CG : Nat → Nat → Nat} {ld : Nat → Bool} {cm : Nat} {k : Int32} {g' : Nat → va_E} {ob : Nat → Int64} {x y : Int64} (hg : g1 = va_up g' 208 (la ca 1 (vp_updL ob 0 x))) (hfr : ∀ z, z < 198 ∨ 207 < z → g2 z = g1 z) (hk : k = nI 0) (hD : DInv ca ad g' pwG ex (fbG pwG) len h bk bt BM ck ct cn rk M ld) (hM : MInv ca ad g2 pwG (nI 0) len th bk bt IN ck ct CG cm cn) (hJ : Jn len h th bk bt BM IN ck ct CG cm rk M ld) (hxy : x = y) : JO ca ad ex k y g2 := by
  subst hk
  refine ⟨⟨_, (hfr 208 (by omega)).trans (by rw [hg]; exact va_up_self _ _ _), fun _ => ?_⟩, _, _, _, _, _, _, _, _, _, _, _, _, _, _, _, hD.keep (fun z hz => (hfr z (Or.inl hz)).trans (by rw [hg]; exact va_up_ne _ _ (by omega))), hM, hJ⟩
  rw [← hxy]
  exact if_pos rfl
theorem j_x {ca : Nat → ClassId} {ad : Nat → Nat} {g1 g2 : Nat → va_E} {ex : Nat → Nat} {len : Nat} {h th : Nat → Nat} {bk bt : Nat} {BM IN : Nat → Nat → Nat} {ck ct cn rk : Nat} {M CG : Nat → Nat → Nat} {ld : Nat → Bool} {cm : Nat} {k : Int32} {n : Nat} {ob : Nat → Int64} {y : Int64} (hfr : ∀ z, z < 198 ∨ 207 < z → g2 z = g1 z) (h8 : g1 208 = la ca 1 ob) (hk : k = nI n) (hn : n ≠ 0 ∧ n < 100) (hD : DInv ca ad g1 pwG ex (fbG pwG) len h bk bt BM ck ct cn rk M ld) (hM : MInv ca ad g2 pwG (nI n) len th bk bt IN ck ct CG cm cn) (hJ : Jn len h th bk bt BM IN ck ct CG cm rk M ld) : JO ca ad ex k y g2 := by
  subst hk
  refine ⟨⟨ob, (hfr 208 (by omega)).trans h8, fun h0 => absurd ((nI_eq (by omega) (by omega)).mp h0) hn.1⟩, _, _, _, _, _, _, _, _, _, _, _, _, _, _, _, hD.keep (fun z hz => hfr z (Or.inl hz)), hM, hJ⟩
theorem j_v {ca : Nat → ClassId} {ad : Nat → Nat} {g1 g2 : Nat → va_E} {ex : Nat → Nat} {len : Nat} {h th : Nat → Nat} {bk bt : Nat} {BM IN : Nat → Nat → Nat} {ck ct cn rk : Nat} {M CG : Nat → Nat → Nat} {ld : Nat → Bool} {cm : Nat} {k : Int32} {n : Nat} {ob : Nat → Int64} (hfr : ∀ z, z < 198 ∨ 207 < z → g2 z = g1 z) (h8 : g1 208 = la ca 1 ob) (hk : k = nI n) (hD : DInv ca ad g1 pwG ex (fbG pwG) len h bk bt BM ck ct cn rk M ld) (hM : MInv ca ad g2 pwG (nI n) len th bk bt IN ck ct CG cm cn) (hJ : Jn len h th bk bt BM IN ck ct CG cm rk M ld) : JV ca ad ex k g2 := by
  subst hk
  exact ⟨⟨ob, (hfr 208 (by omega)).trans h8⟩, _, _, _, _, _, _, _, _, _, _, _, _, _, _, _, hD.keep (fun z hz => hfr z (Or.inl hz)), hM, hJ⟩

theorem DInv.bd {ca : Nat → ClassId} {ad : Nat → Nat} {g : Nat → va_E} {pw ex : Nat → Nat} {fb : Nat → Nat → Bool} {len : Nat} {h : Nat → Nat} {bk bt : Nat} {BM : Nat → Nat → Nat} {ck ct cn rk : Nat} {M : Nat → Nat → Nat} {ld : Nat → Bool} (hI : DInv ca ad g pw ex fb len h bk bt BM ck ct cn rk M ld) : (len ≤ 800 ∧ By h) ∧ ((bk = 0 ∧ bt = 0 ∨ 1 ≤ bk ∧ bk ≤ 48 ∧ 1 ≤ bt ∧ bt ≤ 16) ∧ ∀ p, By (BM p)) ∧ ((ck = 0 ∧ ct = 0 ∨ 1 ≤ ck ∧ ck ≤ 48 ∧ 1 ≤ ct ∧ ct ≤ 16) ∧ ∀ p, By (M p)) := hI.2.2.2.2.2.2.2.2.2.2
theorem MInv.by3 {ca : Nat → ClassId} {ad : Nat → Nat} {g : Nat → va_E} {pm : Nat → Nat} {cd : Int32} {ln : Nat} {th : Nat → Nat} {bk bt : Nat} {IN : Nat → Nat → Nat} {ck ct : Nat} {CG : Nat → Nat → Nat} {cn pk : Nat} (hI : MInv ca ad g pm cd ln th bk bt IN ck ct CG cn pk) : By th ∧ (∀ r, By (IN r)) ∧ (∀ r, By (CG r)) := by
  obtain ⟨tp, rw, gt, M, pv, ro, tn, bb, hS⟩ := hI
  exact ⟨hS.2.2.2.2.2.2.2.2.2.1, hS.2.2.2.2.1, hS.2.2.2.1⟩
theorem rng0 {xx : Int32} {x : Nat} (h : xx = nI x) (hx : x < 65536) : 0 ≤ xx ∧ xx < 65536 := ⟨by rw [h]; exact nI_pos' (by omega), by rw [h]; exact nI_lt (b := 65536) hx (by decide)⟩
theorem rng48 {xx : Int32} {x : Nat} (h : xx = nI x) (hx : 1 ≤ x ∧ x ≤ 48) : 1 ≤ xx ∧ xx ≤ 48 := ⟨by rw [h]; exact nI_le (a := 1) hx.1 (by omega), by rw [h]; exact nI_le (b := 48) hx.2 (by decide)⟩
theorem rng16 {xx : Int32} {x : Nat} (h : xx = nI x) (hx : 1 ≤ x ∧ x ≤ 16) : 1 ≤ xx ∧ xx ≤ 16 := ⟨by rw [h]; exact nI_le (a := 1) hx.1 (by omega), by rw [h]; exact nI_le (b := 16) hx.2 (by decide)⟩
theorem nI_in2 {xx : Int32} {x y : Nat} (h1 : xx = nI x) (h2 : xx = nI y) (hx : x < 2 ^ 31) (hy : y < 2 ^ 31) : x = y := (nI_eq hx hy).mp (h1.symm.trans h2)
theorem hT9 : ∀ k, 1 ≤ k → k ≤ 48 → tnN (fbG pwG k) < 1000 := fun _ h1 h2 => turn_ex h1 h2

set_option maxHeartbeats 800000 in
theorem j_feed {ca : Nat → ClassId} {ad : Nat → Nat} {g g1 g2 : Nat → va_E} {ex : Nat → Nat} {ob : Nat → Int64} (ht : TabOk pwG ex) {cd : Int32} {len : Nat} {h th : Nat → Nat} {bk bt : Nat} {BM IN : Nat → Nat → Nat} {ck ct cn rk : Nat} {M CG : Nat → Nat → Nat} {ld : Nat → Bool} {cm : Nat} (hD : DInv ca ad g pwG ex (fbG pwG) len h bk bt BM ck ct cn rk M ld) (hM : MInv ca ad g pwG cd len th bk bt IN ck ct CG cm cn) (hJ : Jn len h th bk bt BM IN ck ct CG cm rk M ld) (eO : g 208 = la ca 1 ob) {k r : Int32} (a b c0 d e0 : Nat) (hp1 : wI ca ob (fun v => v.toInt64) [(xU, 1)] (fun r g1 => (∀ z, 197 < z → g1 z = g z) ∧ len + 20 ≤ 800 ∧ r = nI (len + 20) ∧ DInv ca ad g1 pwG ex (fbG pwG) (len + 20) (tpApp (tpApp (tpApp (tpApp (tpApp h len a) (len + 4) b) (len + 4 + 4) c0) (len + 4 + 4 + 4) d) (len + 4 + 4 + 4 + 4) e0) bk bt BM ck ct cn rk M ld) (fun E g1 => E = xU ∧ ¬ len + 20 ≤ 800 ∧ (∀ z, 197 < z → g1 z = g z) ∧ DInv ca ad g1 pwG ex (fbG pwG) len h bk bt BM ck ct cn rk M ld) k g1) (hp2 : (fun r gz => (∀ z, z < 198 ∨ 207 < z → gz z = g1 z) ∧ ((len + 20 ≤ 800 ∧ r = nI (len + 20) ∧ MInv ca ad gz pwG (nI 0) (len + 20) (thF len th a b c0 d e0) bk bt IN ck ct CG cm cn) ∨ (¬ len + 20 ≤ 800 ∧ MInv ca ad gz pwG (nI 1) len th bk bt IN ck ct CG cm cn))) r g2) : JO ca ad ex k (r.toInt64) g2 := by
  obtain ⟨hfr, hm⟩ := hp2
  have hbd := hD.bd
  have hby := hM.by3
  rcases hp1 with ⟨hk, v, g', ⟨fr, c1, c2, hD'⟩, hg⟩ | ⟨q, hq, ⟨e1, c1, fr, hD'⟩, hk⟩
  · rcases hm with ⟨m1, m2, hM'⟩ | ⟨m1, hM'⟩
    · refine j_n hg hfr hk hD' hM' ⟨tp_eq hJ.1, hJ.2⟩ ?_
      rw [c2, m2]
    · exact absurd c1 m1
  · rcases hm with ⟨m1, m2, hM'⟩ | ⟨m1, hM'⟩
    · exact absurd m1 c1
    · rw [List.mem_singleton.mp hq] at hk
      exact j_x hfr ((fr 208 (by omega)).trans eO) hk (by decide) hD' hM' hJ

set_option maxHeartbeats 800000 in
theorem j_end {ca : Nat → ClassId} {ad : Nat → Nat} {g g1 g2 : Nat → va_E} {ex : Nat → Nat} {ob : Nat → Int64} (ht : TabOk pwG ex) {cd : Int32} {len : Nat} {h th : Nat → Nat} {bk bt : Nat} {BM IN : Nat → Nat → Nat} {ck ct cn rk : Nat} {M CG : Nat → Nat → Nat} {ld : Nat → Bool} {cm : Nat} (hD : DInv ca ad g pwG ex (fbG pwG) len h bk bt BM ck ct cn rk M ld) (hM : MInv ca ad g pwG cd len th bk bt IN ck ct CG cm cn) (hJ : Jn len h th bk bt BM IN ck ct CG cm rk M ld) (eO : g 208 = la ca 1 ob) {k r : Int32} (n : Int32) (hp1 : wV [(xA, 1)] (fun g1 => (∀ z, 197 < z → g1 z = g z) ∧ ∃ j, n = nI j ∧ j ≤ len ∧ DInv ca ad g1 pwG ex (fbG pwG) j h bk bt BM ck ct cn rk M ld) (fun E g1 => E = xA ∧ (¬ ∃ j, n = nI j ∧ j ≤ len) ∧ (∀ z, 197 < z → g1 z = g z) ∧ DInv ca ad g1 pwG ex (fbG pwG) len h bk bt BM ck ct cn rk M ld) k g1) (hp2 : (fun gz => (∀ z, z < 198 ∨ 207 < z → gz z = g1 z) ∧ ((∃ j, n = nI j ∧ j ≤ len ∧ MInv ca ad gz pwG (nI 0) j th bk bt IN ck ct CG cm cn) ∨ ((¬ ∃ j, n = nI j ∧ j ≤ len) ∧ MInv ca ad gz pwG (nI 1) len th bk bt IN ck ct CG cm cn))) g2) : JV ca ad ex k g2 := by
  obtain ⟨hfr, hm⟩ := hp2
  have hbd := hD.bd
  have hby := hM.by3
  rcases hp1 with ⟨hk, ⟨fr, j, c1, c2, hD'⟩⟩ | ⟨q, hq, ⟨e1, c1, fr, hD'⟩, hk⟩
  · rcases hm with ⟨j', m1, m2, hM'⟩ | ⟨m1, hM'⟩
    · have := nI_in2 c1 m1 (by omega) (by omega)
      subst this
      exact j_v hfr ((fr 208 (by omega)).trans eO) hk hD' hM' ⟨fun i hi => hJ.1 i (by omega), hJ.2⟩
    · exact absurd ⟨j, c1, c2⟩ m1
  · rcases hm with ⟨j', m1, m2, hM'⟩ | ⟨m1, hM'⟩
    · exact absurd ⟨j', m1, m2⟩ c1
    · rw [List.mem_singleton.mp hq] at hk
      exact j_v hfr ((fr 208 (by omega)).trans eO) hk hD' hM' hJ

set_option maxHeartbeats 800000 in
theorem j_turn {ca : Nat → ClassId} {ad : Nat → Nat} {g g1 g2 : Nat → va_E} {ex : Nat → Nat} {ob : Nat → Int64} (ht : TabOk pwG ex) {cd : Int32} {len : Nat} {h th : Nat → Nat} {bk bt : Nat} {BM IN : Nat → Nat → Nat} {ck ct cn rk : Nat} {M CG : Nat → Nat → Nat} {ld : Nat → Bool} {cm : Nat} (hD : DInv ca ad g pwG ex (fbG pwG) len h bk bt BM ck ct cn rk M ld) (hM : MInv ca ad g pwG cd len th bk bt IN ck ct CG cm cn) (hJ : Jn len h th bk bt BM IN ck ct CG cm rk M ld) (eO : g 208 = la ca 1 ob) {k r : Int32} (kk : Int32) (hp1 : wI ca ob (fun v => v.toInt64) [(xA, 1)] (fun r g1 => (∀ z, 197 < z → g1 z = g z) ∧ ∃ j : Nat, kk = nI j ∧ (1 ≤ j ∧ j ≤ 48) ∧ r = nI (tnN ((fbG pwG) j)) ∧ DInv ca ad g1 pwG ex (fbG pwG) len h bk bt BM ck ct cn rk M ld) (fun E g1 => E = xA ∧ ¬ (1 ≤ kk ∧ kk ≤ 48) ∧ (∀ z, 197 < z → g1 z = g z) ∧ DInv ca ad g1 pwG ex (fbG pwG) len h bk bt BM ck ct cn rk M ld) k g1) (hp2 : (fun r gz => (∀ z, z < 198 ∨ 207 < z → gz z = g1 z) ∧ ((∃ j : Nat, kk = nI j ∧ (1 ≤ j ∧ j ≤ 48) ∧ r = nI (tnN (fbG pwG j)) ∧ MInv ca ad gz pwG (nI 0) len th bk bt IN ck ct CG cm cn) ∨ (¬ (1 ≤ kk ∧ kk ≤ 48) ∧ MInv ca ad gz pwG (nI 1) len th bk bt IN ck ct CG cm cn))) r g2) : JO ca ad ex k (r.toInt64) g2 := by
  obtain ⟨hfr, hm⟩ := hp2
  have hbd := hD.bd
  have hby := hM.by3
  rcases hp1 with ⟨hk, v, g', ⟨fr, j, c1, c2, c3, hD'⟩, hg⟩ | ⟨q, hq, ⟨e1, c1, fr, hD'⟩, hk⟩
  · rcases hm with ⟨j', m1, m2, m3, hM'⟩ | ⟨m1, hM'⟩
    · have := nI_in2 c1 m1 (by omega) (by omega)
      subst this
      exact j_n hg hfr hk hD' hM' hJ (by rw [c3, m3])
    · exact absurd (rng48 c1 c2) m1
  · rcases hm with ⟨j', m1, m2, m3, hM'⟩ | ⟨m1, hM'⟩
    · exact absurd (rng48 m1 m2) c1
    · rw [List.mem_singleton.mp hq] at hk
      exact j_x hfr ((fr 208 (by omega)).trans eO) hk (by decide) hD' hM' hJ

set_option maxHeartbeats 800000 in
theorem j_block {ca : Nat → ClassId} {ad : Nat → Nat} {g g1 g2 : Nat → va_E} {ex : Nat → Nat} {ob : Nat → Int64} (ht : TabOk pwG ex) {cd : Int32} {len : Nat} {h th : Nat → Nat} {bk bt : Nat} {BM IN : Nat → Nat → Nat} {ck ct cn rk : Nat} {M CG : Nat → Nat → Nat} {ld : Nat → Bool} {cm : Nat} (hD : DInv ca ad g pwG ex (fbG pwG) len h bk bt BM ck ct cn rk M ld) (hM : MInv ca ad g pwG cd len th bk bt IN ck ct CG cm cn) (hJ : Jn len h th bk bt BM IN ck ct CG cm rk M ld) (eO : g 208 = la ca 1 ob) {k r : Int32} (kx tx : Int32) (hp1 : wV [(xA, 1)] (fun g1 => (∀ z, 197 < z → g1 z = g z) ∧ ∃ k t : Nat, kx = nI k ∧ tx = nI t ∧ (1 ≤ k ∧ k ≤ 48) ∧ (1 ≤ t ∧ t ≤ 16) ∧ len = k * t ∧ ∃ s1 pl1, EqBy s1 ∧ EqBy (svAt pwG ex k t (tnN ((fbG pwG) k)) h s1 pl1 k).1 ∧ DInv ca ad g1 pwG ex (fbG pwG) 0 h k t (fr (ldStep t (svAt pwG ex k t (tnN ((fbG pwG) k)) h s1 pl1 k).1.2.1) (k + 11) BM) ck ct cn rk M ld) (fun E g1 => E = xA ∧ (¬ ∃ k t : Nat, kx = nI k ∧ tx = nI t ∧ (1 ≤ k ∧ k ≤ 48) ∧ (1 ≤ t ∧ t ≤ 16) ∧ len = k * t) ∧ (∀ z, 197 < z → g1 z = g z) ∧ DInv ca ad g1 pwG ex (fbG pwG) len h bk bt BM ck ct cn rk M ld) k g1) (hp2 : (fun gz => (∀ z, z < 198 ∨ 207 < z → gz z = g1 z) ∧ ((∃ k t : Nat, kx = nI k ∧ tx = nI t ∧ (1 ≤ k ∧ k ≤ 48) ∧ (1 ≤ t ∧ t ≤ 16) ∧ len = k * t ∧ ∃ IN1 u, KmOK (k + 11) (VV pwG k (bkV pwG k t th)) (11 + k) u ∧ MBy u ∧ (∀ r, r < k + 11 → ∀ i, i < t → IN1 (u.2.2.1 r) i = u.2.1 r (59 + i)) ∧ MInv ca ad gz pwG (nI 0) 0 th k t IN1 ck ct CG cm cn) ∨ ((¬ ∃ k t : Nat, kx = nI k ∧ tx = nI t ∧ (1 ≤ k ∧ k ≤ 48) ∧ (1 ≤ t ∧ t ≤ 16) ∧ len = k * t) ∧ MInv ca ad gz pwG (nI 1) len th bk bt IN ck ct CG cm cn))) g2) : JV ca ad ex k g2 := by
  obtain ⟨hfr, hm⟩ := hp2
  have hbd := hD.bd
  have hby := hM.by3
  rcases hp1 with ⟨hk, ⟨fr, k1, t1, c1, c2, c3, c4, c5, s1, pl1, hs1, hs2, hD'⟩⟩ | ⟨q, hq, ⟨e1, c1, fr, hD'⟩, hk⟩
  · rcases hm with ⟨k2, t2, m1, m2, m3, m4, m5, IN1, u, hu1, hu2, hu3, hM'⟩ | ⟨m1, hM'⟩
    · have := nI_in2 c1 m1 (by omega) (by omega)
      subst this
      have := nI_in2 c2 m2 (by omega) (by omega)
      subst this
      exact j_v hfr ((fr 208 (by omega)).trans eO) hk hD' hM' ⟨fun i hi => absurd hi (Nat.not_lt_zero _), fun _ => blk_same ht (fun _ => rfl) pl1 c3 c4.2 hs1 hbd.1.2 hby.1 c5 hJ.1 (hT9 k1 c3.1 c3.2) hu1 hu2 hu3, hJ.2.2⟩
    · exact absurd ⟨k1, t1, c1, c2, c3, c4, c5⟩ m1
  · rcases hm with ⟨k2, t2, m1, m2, m3, m4, m5, m6⟩ | ⟨m1, hM'⟩
    · exact absurd ⟨k2, t2, m1, m2, m3, m4, m5⟩ c1
    · rw [List.mem_singleton.mp hq] at hk
      exact j_v hfr ((fr 208 (by omega)).trans eO) hk hD' hM' hJ

set_option maxHeartbeats 800000 in
theorem j_open {ca : Nat → ClassId} {ad : Nat → Nat} {g g1 g2 : Nat → va_E} {ex : Nat → Nat} {ob : Nat → Int64} (ht : TabOk pwG ex) {cd : Int32} {len : Nat} {h th : Nat → Nat} {bk bt : Nat} {BM IN : Nat → Nat → Nat} {ck ct cn rk : Nat} {M CG : Nat → Nat → Nat} {ld : Nat → Bool} {cm : Nat} (hD : DInv ca ad g pwG ex (fbG pwG) len h bk bt BM ck ct cn rk M ld) (hM : MInv ca ad g pwG cd len th bk bt IN ck ct CG cm cn) (hJ : Jn len h th bk bt BM IN ck ct CG cm rk M ld) (eO : g 208 = la ca 1 ob) {k r : Int32} (kx tx : Int32) (hp1 : wV [(xA, 1)] (fun g1 => (∀ z, 197 < z → g1 z = g z) ∧ ∃ k t : Nat, kx = nI k ∧ tx = nI t ∧ (1 ≤ k ∧ k ≤ 48) ∧ (1 ≤ t ∧ t ≤ 16) ∧ ∃ s1, EqBy s1 ∧ DInv ca ad g1 pwG ex (fbG pwG) len h bk bt BM k t 0 (startS pwG ex k t s1).1 (startS pwG ex k t s1).2.1 (startS pwG ex k t s1).2.2.1) (fun E g1 => E = xA ∧ (¬ ((1 ≤ kx ∧ kx ≤ 48) ∧ (1 ≤ tx ∧ tx ≤ 16))) ∧ (∀ z, 197 < z → g1 z = g z) ∧ DInv ca ad g1 pwG ex (fbG pwG) len h bk bt BM ck ct cn rk M ld) k g1) (hp2 : (fun gz => (∀ z, z < 198 ∨ 207 < z → gz z = g1 z) ∧ ((∃ k t : Nat, kx = nI k ∧ tx = nI t ∧ (1 ≤ k ∧ k ≤ 48) ∧ (1 ≤ t ∧ t ≤ 16) ∧ MInv ca ad gz pwG (nI 0) len th bk bt IN k t CG 0 0) ∨ ((¬ ((1 ≤ kx ∧ kx ≤ 48) ∧ (1 ≤ tx ∧ tx ≤ 16))) ∧ MInv ca ad gz pwG (nI 1) len th bk bt IN ck ct CG cm cn))) g2) : JV ca ad ex k g2 := by
  obtain ⟨hfr, hm⟩ := hp2
  have hbd := hD.bd
  have hby := hM.by3
  rcases hp1 with ⟨hk, ⟨fr, k1, t1, c1, c2, c3, c4, s1, hs1, hD'⟩⟩ | ⟨q, hq, ⟨e1, c1, fr, hD'⟩, hk⟩
  · rcases hm with ⟨k2, t2, m1, m2, m3, m4, hM'⟩ | ⟨m1, hM'⟩
    · have := nI_in2 c1 m1 (by omega) (by omega)
      subst this
      have := nI_in2 c2 m2 (by omega) (by omega)
      subst this
      exact j_v hfr ((fr 208 (by omega)).trans eO) hk hD' hM' ⟨hJ.1, hJ.2.1, fun _ => (ck_start ht (fun _ => rfl) c3.2 c4.2 hs1).1⟩
    · exact absurd ⟨rng48 c1 c3, rng16 c2 c4⟩ m1
  · rcases hm with ⟨k2, t2, m1, m2, m3, m4, m5⟩ | ⟨m1, hM'⟩
    · exact absurd ⟨rng48 m1 m3, rng16 m2 m4⟩ c1
    · rw [List.mem_singleton.mp hq] at hk
      exact j_v hfr ((fr 208 (by omega)).trans eO) hk hD' hM' hJ

set_option maxHeartbeats 800000 in
theorem j_rank {ca : Nat → ClassId} {ad : Nat → Nat} {g g1 g2 : Nat → va_E} {ex : Nat → Nat} {ob : Nat → Int64} (ht : TabOk pwG ex) {cd : Int32} {len : Nat} {h th : Nat → Nat} {bk bt : Nat} {BM IN : Nat → Nat → Nat} {ck ct cn rk : Nat} {M CG : Nat → Nat → Nat} {ld : Nat → Bool} {cm : Nat} (hD : DInv ca ad g pwG ex (fbG pwG) len h bk bt BM ck ct cn rk M ld) (hM : MInv ca ad g pwG cd len th bk bt IN ck ct CG cm cn) (hJ : Jn len h th bk bt BM IN ck ct CG cm rk M ld) (eO : g 208 = la ca 1 ob) {k r : Int32} (hp1 : wI ca ob (fun v => v.toInt64) [(xI, 1)] (fun r g1 => (∀ z, 197 < z → g1 z = g z) ∧ ck ≠ 0 ∧ r = nI rk ∧ DInv ca ad g1 pwG ex (fbG pwG) len h bk bt BM ck ct cn rk M ld) (fun E g1 => E = xI ∧ (ck = 0) ∧ (∀ z, 197 < z → g1 z = g z) ∧ DInv ca ad g1 pwG ex (fbG pwG) len h bk bt BM ck ct cn rk M ld) k g1) (hp2 : (fun r gz => (∀ z, z < 198 ∨ 207 < z → gz z = g1 z) ∧ ((ck ≠ 0 ∧ r = nI (11 + cm) ∧ MInv ca ad gz pwG (nI 0) len th bk bt IN ck ct CG cm cn) ∨ (ck = 0 ∧ MInv ca ad gz pwG (nI 1) len th bk bt IN ck ct CG cm cn))) r g2) : JO ca ad ex k (r.toInt64) g2 := by
  obtain ⟨hfr, hm⟩ := hp2
  have hbd := hD.bd
  have hby := hM.by3
  rcases hp1 with ⟨hk, v, g', ⟨fr, c1, c2, hD'⟩, hg⟩ | ⟨q, hq, ⟨e1, c1, fr, hD'⟩, hk⟩
  · rcases hm with ⟨m1, m2, hM'⟩ | ⟨m1, hM'⟩
    · exact j_n hg hfr hk hD' hM' hJ (by rw [c2, m2, (hJ.2.2 c1).1])
    · exact absurd m1 c1
  · rcases hm with ⟨m1, m2, hM'⟩ | ⟨m1, hM'⟩
    · exact absurd c1 m1
    · rw [List.mem_singleton.mp hq] at hk
      exact j_x hfr ((fr 208 (by omega)).trans eO) hk (by decide) hD' hM' hJ

set_option maxHeartbeats 800000 in
theorem j_count {ca : Nat → ClassId} {ad : Nat → Nat} {g g1 g2 : Nat → va_E} {ex : Nat → Nat} {ob : Nat → Int64} (ht : TabOk pwG ex) {cd : Int32} {len : Nat} {h th : Nat → Nat} {bk bt : Nat} {BM IN : Nat → Nat → Nat} {ck ct cn rk : Nat} {M CG : Nat → Nat → Nat} {ld : Nat → Bool} {cm : Nat} (hD : DInv ca ad g pwG ex (fbG pwG) len h bk bt BM ck ct cn rk M ld) (hM : MInv ca ad g pwG cd len th bk bt IN ck ct CG cm cn) (hJ : Jn len h th bk bt BM IN ck ct CG cm rk M ld) (eO : g 208 = la ca 1 ob) {k r : Int32} (dv : Nat → Bool) (what : Int32) (hp1 : wI ca ob (fun v => v.toInt64) [(xA, 1)] (fun r g1 => (∀ z, 197 < z → g1 z = g z) ∧ ∃ j : Nat, what = nI j ∧ j ≤ 6 ∧ r = nI (if j = 0 then len else if j = 1 then bk else if j = 2 then bt else if j = 3 then ck else if j = 4 then ct else if j = 5 then cn else cntN dv ck) ∧ DInv ca ad g1 pwG ex (fbG pwG) len h bk bt BM ck ct cn rk M ld) (fun E g1 => E = xA ∧ (¬ ∃ j : Nat, what = nI j ∧ j ≤ 6) ∧ (∀ z, 197 < z → g1 z = g z) ∧ DInv ca ad g1 pwG ex (fbG pwG) len h bk bt BM ck ct cn rk M ld) k g1) (hp2 : (fun r gz => (∀ z, z < 198 ∨ 207 < z → gz z = g1 z) ∧ ((∃ j : Nat, what = nI j ∧ j ≤ 6 ∧ r = nI (if j = 0 then len else if j = 1 then bk else if j = 2 then bt else if j = 3 then ck else if j = 4 then ct else if j = 5 then cn else cntN dv ck) ∧ MInv ca ad gz pwG (nI 0) len th bk bt IN ck ct CG cm cn) ∨ ((¬ ∃ j : Nat, what = nI j ∧ j ≤ 6) ∧ MInv ca ad gz pwG (nI 1) len th bk bt IN ck ct CG cm cn))) r g2) : JO ca ad ex k (r.toInt64) g2 := by
  obtain ⟨hfr, hm⟩ := hp2
  have hbd := hD.bd
  have hby := hM.by3
  rcases hp1 with ⟨hk, v, g', ⟨fr, j, c1, c2, c3, hD'⟩, hg⟩ | ⟨q, hq, ⟨e1, c1, fr, hD'⟩, hk⟩
  · rcases hm with ⟨j', m1, m2, m3, hM'⟩ | ⟨m1, hM'⟩
    · have := nI_in2 c1 m1 (by omega) (by omega)
      subst this
      exact j_n hg hfr hk hD' hM' hJ (by rw [c3, m3])
    · exact absurd ⟨j, c1, c2⟩ m1
  · rcases hm with ⟨j', m1, m2, m3, hM'⟩ | ⟨m1, hM'⟩
    · exact absurd ⟨j', m1, m2⟩ c1
    · rw [List.mem_singleton.mp hq] at hk
      exact j_x hfr ((fr 208 (by omega)).trans eO) hk (by decide) hD' hM' hJ

set_option maxHeartbeats 800000 in
theorem j_byteAt {ca : Nat → ClassId} {ad : Nat → Nat} {g g1 g2 : Nat → va_E} {ex : Nat → Nat} {ob : Nat → Int64} (ht : TabOk pwG ex) {cd : Int32} {len : Nat} {h th : Nat → Nat} {bk bt : Nat} {BM IN : Nat → Nat → Nat} {ck ct cn rk : Nat} {M CG : Nat → Nat → Nat} {ld : Nat → Bool} {cm : Nat} (hD : DInv ca ad g pwG ex (fbG pwG) len h bk bt BM ck ct cn rk M ld) (hM : MInv ca ad g pwG cd len th bk bt IN ck ct CG cm cn) (hJ : Jn len h th bk bt BM IN ck ct CG cm rk M ld) (eO : g 208 = la ca 1 ob) {k r : Int32} (xx ix : Int32) (hp1 : wI ca ob (fun v => v.toInt64) [(xI, 1), (xO, 2)] (fun r g1 => (∀ z, 197 < z → g1 z = g z) ∧ bk ≠ 0 ∧ ∃ x i : Nat, xx = nI x ∧ ix = nI i ∧ x < 65536 ∧ i < bt ∧ ∃ pl1, r = nI (vlN BM (pkOut bk x (tnN ((fbG pwG) bk)) pl1).1 i (pkOut bk x (tnN ((fbG pwG) bk)) pl1).2.1) ∧ DInv ca ad g1 pwG ex (fbG pwG) len h bk bt BM ck ct cn rk M ld) (fun E g1 => (E = xI ∧ bk = 0 ∨ E = xO ∧ bk ≠ 0 ∧ ¬ (∃ x i : Nat, xx = nI x ∧ ix = nI i ∧ x < 65536 ∧ i < bt)) ∧ (∀ z, 197 < z → g1 z = g z) ∧ DInv ca ad g1 pwG ex (fbG pwG) len h bk bt BM ck ct cn rk M ld) k g1) (hp2 : (fun r gz => (∀ z, z < 198 ∨ 207 < z → gz z = g1 z) ∧ ((bk ≠ 0 ∧ ∃ x i : Nat, xx = nI x ∧ ix = nI i ∧ x < 65536 ∧ i < bt ∧ r = nI (smP pwG IN bk x i) ∧ MInv ca ad gz pwG (nI 0) len th bk bt IN ck ct CG cm cn) ∨ (bk = 0 ∧ MInv ca ad gz pwG (nI 1) len th bk bt IN ck ct CG cm cn) ∨ (bk ≠ 0 ∧ ¬ (∃ x i : Nat, xx = nI x ∧ ix = nI i ∧ x < 65536 ∧ i < bt) ∧ MInv ca ad gz pwG (nI 2) len th bk bt IN ck ct CG cm cn))) r g2) : JO ca ad ex k (r.toInt64) g2 := by
  obtain ⟨hfr, hm⟩ := hp2
  have hbd := hD.bd
  have hby := hM.by3
  rcases hp1 with ⟨hk, v, g', ⟨fr, c1, x, i, c2, c3, c4, c5, pl1, c6, hD'⟩, hg⟩ | ⟨q, hq, ⟨hc, fr, hD'⟩, hk⟩
  · rcases hm with ⟨m1, x', i', m2, m3, m4, m5, m6, hM'⟩ | ⟨m1, hM'⟩ | ⟨m1, m2, hM'⟩
    · have := nI_in2 c2 m2 (by omega) (by omega)
      subst this
      have := nI_in2 c3 m3 (by omega) (by omega)
      subst this
      refine j_n hg hfr hk hD' hM' hJ ?_
      rw [c6, m6, vl_sm pl1 (by omega) (fun p hp => hJ.2.1 c1 p hp i c5)]
      rfl
    · exact absurd m1 c1
    · exact absurd ⟨x, i, c2, c3, c4, c5⟩ m2
  · simp only [List.mem_cons, List.not_mem_nil, or_false] at hq
    rcases hq with rfl | rfl
    · rcases hc with ⟨_, c1⟩ | ⟨e1, -⟩
      · rcases hm with ⟨m1, -⟩ | ⟨m1, hM'⟩ | ⟨m1, -⟩
        · exact absurd c1 m1
        · exact j_x hfr ((fr 208 (by omega)).trans eO) hk (by decide) hD' hM' hJ
        · exact absurd c1 m1
      · exact absurd e1 (by decide)
    · rcases hc with ⟨e1, -⟩ | ⟨_, c1, c2⟩
      · exact absurd e1 (by decide)
      · rcases hm with ⟨m1, x', i', m2, m3, m4, m5, -⟩ | ⟨m1, hM'⟩ | ⟨m1, m2, hM'⟩
        · exact absurd ⟨x', i', m2, m3, m4, m5⟩ c2
        · exact absurd m1 c1
        · exact j_x hfr ((fr 208 (by omega)).trans eO) hk (by decide) hD' hM' hJ

set_option maxHeartbeats 800000 in
theorem j_row {ca : Nat → ClassId} {ad : Nat → Nat} {g g1 g2 : Nat → va_E} {ex : Nat → Nat} {ob : Nat → Int64} (ht : TabOk pwG ex) {cd : Int32} {len : Nat} {h th : Nat → Nat} {bk bt : Nat} {BM IN : Nat → Nat → Nat} {ck ct cn rk : Nat} {M CG : Nat → Nat → Nat} {ld : Nat → Bool} {cm : Nat} (hD : DInv ca ad g pwG ex (fbG pwG) len h bk bt BM ck ct cn rk M ld) (hM : MInv ca ad g pwG cd len th bk bt IN ck ct CG cm cn) (hJ : Jn len h th bk bt BM IN ck ct CG cm rk M ld) (eO : g 208 = la ca 1 ob) {k r : Int32} (kx xx : Int32) (pz : Bool) (hp1 : wI ca ob (fun v => v.toInt64) [(xA, 1), (xO, 2)] (fun r g1 => (∀ z, 197 < z → g1 z = g z) ∧ (∃ k x : Nat, kx = nI k ∧ xx = nI x ∧ (1 ≤ k ∧ k ≤ 48) ∧ x < 65536 ∧ ∃ pl1, r = (if pz = true then gtN (pkOut k x (tnN ((fbG pwG) k)) pl1).1 (pkOut k x (tnN ((fbG pwG) k)) pl1).2.1 else nI (pkOut k x (tnN ((fbG pwG) k)) pl1).2.1)) ∧ DInv ca ad g1 pwG ex (fbG pwG) len h bk bt BM ck ct cn rk M ld) (fun E g1 => (E = xA ∧ ¬ (1 ≤ kx ∧ kx ≤ 48) ∨ E = xO ∧ (1 ≤ kx ∧ kx ≤ 48) ∧ ¬ (0 ≤ xx ∧ xx < 65536)) ∧ (∀ z, 197 < z → g1 z = g z) ∧ DInv ca ad g1 pwG ex (fbG pwG) len h bk bt BM ck ct cn rk M ld) k g1) (hp2 : (fun r gz => (∀ z, z < 198 ∨ 207 < z → gz z = g1 z) ∧ ((∃ k x : Nat, kx = nI k ∧ xx = nI x ∧ (1 ≤ k ∧ k ≤ 48) ∧ x < 65536 ∧ (∃ la, la < k + 11 ∧ pkR k x (tnN (fbG pwG k)) la = 1 ∧ (∀ c, la < c → c < k + 11 → pkR k x (tnN (fbG pwG k)) c = 0) ∧ r = (if pz = true then nI la else nI (pkD k x (tnN (fbG pwG k))))) ∧ MInv ca ad gz pwG (nI 0) len th bk bt IN ck ct CG cm cn) ∨ (¬ (1 ≤ kx ∧ kx ≤ 48) ∧ MInv ca ad gz pwG (nI 1) len th bk bt IN ck ct CG cm cn) ∨ ((1 ≤ kx ∧ kx ≤ 48) ∧ ¬ (0 ≤ xx ∧ xx < 65536) ∧ MInv ca ad gz pwG (nI 2) len th bk bt IN ck ct CG cm cn))) r g2) : JO ca ad ex k (r.toInt64) g2 := by
  obtain ⟨hfr, hm⟩ := hp2
  have hbd := hD.bd
  have hby := hM.by3
  rcases hp1 with ⟨hk, v, g', ⟨fr, ⟨k1, x, c1, c2, c3, c4, pl1, c5⟩, hD'⟩, hg⟩ | ⟨q, hq, ⟨hc, fr, hD'⟩, hk⟩
  · rcases hm with ⟨k2, x', m1, m2, m3, m4, ⟨la9, m5, m6, m7, m8⟩, hM'⟩ | ⟨m1, hM'⟩ | ⟨m1, m2, hM'⟩
    · have := nI_in2 c1 m1 (by omega) (by omega)
      subst this
      have := nI_in2 c2 m2 (by omega) (by omega)
      subst this
      refine j_n hg hfr hk hD' hM' hJ ?_
      rw [c5, m8, gt_last pl1 c3 m5 m6 m7, (pkOut_P x (tnN (fbG pwG k1)) pl1 c3).1]
    · exact absurd (rng48 c1 c3) m1
    · exact absurd (rng0 c2 c4) m2
  · simp only [List.mem_cons, List.not_mem_nil, or_false] at hq
    rcases hq with rfl | rfl
    · rcases hc with ⟨_, c1⟩ | ⟨e1, -⟩
      · rcases hm with ⟨k2, x', m1, m2, m3, -⟩ | ⟨m1, hM'⟩ | ⟨m1, -⟩
        · exact absurd (rng48 m1 m3) c1
        · exact j_x hfr ((fr 208 (by omega)).trans eO) hk (by decide) hD' hM' hJ
        · exact absurd m1 c1
      · exact absurd e1 (by decide)
    · rcases hc with ⟨e1, -⟩ | ⟨_, c1, c2⟩
      · exact absurd e1 (by decide)
      · rcases hm with ⟨k2, x', m1, m2, m3, m4, -⟩ | ⟨m1, hM'⟩ | ⟨m1, m2, hM'⟩
        · exact absurd (rng0 m2 m4) c2
        · exact absurd c1 m1
        · exact j_x hfr ((fr 208 (by omega)).trans eO) hk (by decide) hD' hM' hJ

set_option maxHeartbeats 800000 in
theorem j_follows {ca : Nat → ClassId} {ad : Nat → Nat} {g g1 g2 : Nat → va_E} {ex : Nat → Nat} {ob : Nat → Int64} (ht : TabOk pwG ex) {cd : Int32} {len : Nat} {h th : Nat → Nat} {bk bt : Nat} {BM IN : Nat → Nat → Nat} {ck ct cn rk : Nat} {M CG : Nat → Nat → Nat} {ld : Nat → Bool} {cm : Nat} (hD : DInv ca ad g pwG ex (fbG pwG) len h bk bt BM ck ct cn rk M ld) (hM : MInv ca ad g pwG cd len th bk bt IN ck ct CG cm cn) (hJ : Jn len h th bk bt BM IN ck ct CG cm rk M ld) (eO : g 208 = la ca 1 ob) {k r : Int32} (xx : Int32) (hp1 : wI ca ob (fun v => if v = 0 then 0 else 1) [(xI, 1), (xO, 2)] (fun r g1 => (∀ z, 197 < z → g1 z = g z) ∧ ck ≠ 0 ∧ ∃ x : Nat, xx = nI x ∧ x < 65536 ∧ ∃ ln1 pl1, By ln1 ∧ r = bI (drv pwG ex ck ct x (tnN ((fbG pwG) ck)) (rk, M, ld, ln1) pl1) ∧ DInv ca ad g1 pwG ex (fbG pwG) len h bk bt BM ck ct cn rk M ld) (fun E g1 => (E = xI ∧ ck = 0 ∨ E = xO ∧ ck ≠ 0 ∧ ¬ (0 ≤ xx ∧ xx < 65536)) ∧ (∀ z, 197 < z → g1 z = g z) ∧ DInv ca ad g1 pwG ex (fbG pwG) len h bk bt BM ck ct cn rk M ld) k g1) (hp2 : (fun r gz => (∀ z, z < 198 ∨ 207 < z → gz z = g1 z) ∧ ((ck ≠ 0 ∧ ∃ x : Nat, xx = nI x ∧ x < 65536 ∧ ∃ b : Bool, r = bI b ∧ (b = true ↔ KS (ck + 11) 0 (VV pwG ck CG) (11 + cm) (pkR ck x (tnN (fbG pwG ck)))) ∧ MInv ca ad gz pwG (nI 0) len th bk bt IN ck ct CG cm cn) ∨ (ck = 0 ∧ MInv ca ad gz pwG (nI 1) len th bk bt IN ck ct CG cm cn) ∨ (ck ≠ 0 ∧ ¬ (0 ≤ xx ∧ xx < 65536) ∧ MInv ca ad gz pwG (nI 2) len th bk bt IN ck ct CG cm cn))) r g2) : JO ca ad ex k (if r = 0 then 0 else 1) g2 := by
  obtain ⟨hfr, hm⟩ := hp2
  have hbd := hD.bd
  have hby := hM.by3
  rcases hp1 with ⟨hk, v, g', ⟨fr, c1, x, c2, c3, ln1, pl1, c4, c5, hD'⟩, hg⟩ | ⟨q, hq, ⟨hc, fr, hD'⟩, hk⟩
  · rcases hm with ⟨m1, x', m2, m3, b, m4, m5, hM'⟩ | ⟨m1, hM'⟩ | ⟨m1, m2, hM'⟩
    · have := nI_in2 c2 m2 (by omega) (by omega)
      subst this
      refine j_n hg hfr hk hD' hM' hJ ?_
      have hdr := (drv_ok (x := x) (t := tnN (fbG pwG ck)) ht pl1 (show 1 ≤ ck ∧ ck ≤ 48 by omega) (show ct ≤ 16 by omega) hbd.2.2.2 c4 (hJ.2.2 c1)).1
      have e9 : drv pwG ex ck ct x (tnN (fbG pwG ck)) (rk, M, ld, ln1) pl1 = b := by
        cases hb : b with
        | true => rw [hb] at m5; exact hdr.mpr (m5.mp rfl)
        | false =>
          rw [hb] at m5
          cases hd : drv pwG ex ck ct x (tnN (fbG pwG ck)) (rk, M, ld, ln1) pl1 with
          | false => rfl
          | true => exact absurd (m5.mpr (hdr.mp hd)) (by decide)
      show (if v = 0 then (0 : Int64) else 1) = if r = 0 then 0 else 1
      rw [c5, m4, e9]
    · exact absurd m1 c1
    · exact absurd (rng0 c2 c3) m2
  · simp only [List.mem_cons, List.not_mem_nil, or_false] at hq
    rcases hq with rfl | rfl
    · rcases hc with ⟨_, c1⟩ | ⟨e1, -⟩
      · rcases hm with ⟨m1, -⟩ | ⟨m1, hM'⟩ | ⟨m1, -⟩
        · exact absurd c1 m1
        · exact j_x hfr ((fr 208 (by omega)).trans eO) hk (by decide) hD' hM' hJ
        · exact absurd c1 m1
      · exact absurd e1 (by decide)
    · rcases hc with ⟨e1, -⟩ | ⟨_, c1, c2⟩
      · exact absurd e1 (by decide)
      · rcases hm with ⟨m1, x', m2, m3, -⟩ | ⟨m1, hM'⟩ | ⟨m1, m2, hM'⟩
        · exact absurd (rng0 m2 m3) c2
        · exact absurd m1 c1
        · exact j_x hfr ((fr 208 (by omega)).trans eO) hk (by decide) hD' hM' hJ

set_option maxHeartbeats 800000 in
theorem j_known {ca : Nat → ClassId} {ad : Nat → Nat} {g g1 g2 : Nat → va_E} {ex : Nat → Nat} {ob : Nat → Int64} (ht : TabOk pwG ex) {cd : Int32} {len : Nat} {h th : Nat → Nat} {bk bt : Nat} {BM IN : Nat → Nat → Nat} {ck ct cn rk : Nat} {M CG : Nat → Nat → Nat} {ld : Nat → Bool} {cm : Nat} (hD : DInv ca ad g pwG ex (fbG pwG) len h bk bt BM ck ct cn rk M ld) (hM : MInv ca ad g pwG cd len th bk bt IN ck ct CG cm cn) (hJ : Jn len h th bk bt BM IN ck ct CG cm rk M ld) (eO : g 208 = la ca 1 ob) {k r : Int32} (xx ix : Int32) (hp1 : wI ca ob (fun v => v.toInt64) [(xI, 1), (xO, 2)] (fun r g1 => (∀ z, 197 < z → g1 z = g z) ∧ ck ≠ 0 ∧ ∃ x i : Nat, xx = nI x ∧ ix = nI i ∧ x < 65536 ∧ i < ct ∧ ∃ ln1 pl1, By ln1 ∧ drv pwG ex ck ct x (tnN ((fbG pwG) ck)) (rk, M, ld, ln1) pl1 = true ∧ r = nI ((lnRed pwG ex (ck + 11) ct M ld (lnPk ct (pkOut ck x (tnN ((fbG pwG) ck)) pl1).2.1 (pkOut ck x (tnN ((fbG pwG) ck)) pl1).1 ln1)) i) ∧ DInv ca ad g1 pwG ex (fbG pwG) len h bk bt BM ck ct cn rk M ld) (fun E g1 => (E = xI ∧ ck = 0 ∨ E = xO ∧ ck ≠ 0 ∧ ¬ (0 ≤ xx ∧ xx < 65536) ∨ E = xI ∧ ck ≠ 0 ∧ (∃ x : Nat, xx = nI x ∧ x < 65536 ∧ ∃ ln1 pl1, By ln1 ∧ drv pwG ex ck ct x (tnN ((fbG pwG) ck)) (rk, M, ld, ln1) pl1 = false) ∨ E = xO ∧ ck ≠ 0 ∧ (∃ x : Nat, xx = nI x ∧ x < 65536 ∧ ∃ ln1 pl1, By ln1 ∧ drv pwG ex ck ct x (tnN ((fbG pwG) ck)) (rk, M, ld, ln1) pl1 = true) ∧ ¬ ∃ i : Nat, ix = nI i ∧ i < ct) ∧ (∀ z, 197 < z → g1 z = g z) ∧ DInv ca ad g1 pwG ex (fbG pwG) len h bk bt BM ck ct cn rk M ld) k g1) (hp2 : (fun r gz => (∀ z, z < 198 ∨ 207 < z → gz z = g1 z) ∧ ((ck ≠ 0 ∧ ∃ x i : Nat, xx = nI x ∧ ix = nI i ∧ x < 65536 ∧ i < ct ∧ KS (ck + 11) 0 (VV pwG ck CG) (11 + cm) (pkR ck x (tnN (fbG pwG ck))) ∧ (∃ u, KmOK (ck + 11) (VV pwG ck CG) (11 + cm) u ∧ MBy u ∧ r = nI (mRed u.1 u.2.1 u.2.2.1 (pkR ck x (tnN (fbG pwG ck))) (59 + i))) ∧ MInv ca ad gz pwG (nI 0) len th bk bt IN ck ct CG cm cn) ∨ (ck = 0 ∧ MInv ca ad gz pwG (nI 1) len th bk bt IN ck ct CG cm cn) ∨ (ck ≠ 0 ∧ ¬ (0 ≤ xx ∧ xx < 65536) ∧ MInv ca ad gz pwG (nI 2) len th bk bt IN ck ct CG cm cn) ∨ (ck ≠ 0 ∧ (∃ x : Nat, xx = nI x ∧ x < 65536 ∧ ¬ KS (ck + 11) 0 (VV pwG ck CG) (11 + cm) (pkR ck x (tnN (fbG pwG ck)))) ∧ MInv ca ad gz pwG (nI 1) len th bk bt IN ck ct CG cm cn) ∨ (ck ≠ 0 ∧ (∃ x : Nat, xx = nI x ∧ x < 65536 ∧ KS (ck + 11) 0 (VV pwG ck CG) (11 + cm) (pkR ck x (tnN (fbG pwG ck)))) ∧ (¬ ∃ i : Nat, ix = nI i ∧ i < ct) ∧ MInv ca ad gz pwG (nI 2) len th bk bt IN ck ct CG cm cn))) r g2) : JO ca ad ex k (r.toInt64) g2 := by
  obtain ⟨hfr, hm⟩ := hp2
  have hbd := hD.bd
  have hby := hM.by3
  rcases hp1 with ⟨hk, v, g', ⟨fr, c1, x, i, c2, c3, c4, c5, ln1, pl1, c6, c7, c8, hD'⟩, hg⟩ | ⟨q, hq, ⟨hc, fr, hD'⟩, hk⟩
  · have hdr := drv_ok (x := x) (t := tnN (fbG pwG ck)) ht pl1 (show 1 ≤ ck ∧ ck ≤ 48 by omega) (show ct ≤ 16 by omega) hbd.2.2.2 c6 (hJ.2.2 c1)
    rcases hm with ⟨m1, x', i', m2, m3, m4, m5, m6, ⟨u, u1, u2, m7⟩, hM'⟩ | ⟨m1, hM'⟩ | ⟨m1, m2, hM'⟩ | ⟨m1, ⟨x', m2, m3, m4⟩, hM'⟩ | ⟨m1, ⟨x', m2, m3, m4⟩, m5, hM'⟩
    · have := nI_in2 c2 m2 (by omega) (by omega)
      subst this
      have := nI_in2 c3 m3 (by omega) (by omega)
      subst this
      refine j_n hg hfr hk hD' hM' hJ ?_
      rw [c8, m7, hdr.2 i c5, kn_eq (show ck + 11 ≤ 59 by omega) (show ct ≤ 16 by omega) u2 u1 hbd.2.2.2 (hJ.2.2 c1) (by_pkR _ _ _) m6 c5]
    · exact absurd m1 c1
    · exact absurd (rng0 c2 c4) m2
    · have := nI_in2 c2 m2 (by omega) (by omega)
      subst this
      exact absurd (hdr.1.mp c7) m4
    · exact absurd ⟨i, c3, c5⟩ m5
  · simp only [List.mem_cons, List.not_mem_nil, or_false] at hq
    rcases hq with rfl | rfl
    · rcases hc with ⟨_, c1⟩ | ⟨e1, -⟩ | ⟨_, c1, x, c2, c3, ln1, pl1, c4, c5⟩ | ⟨e1, -⟩
      · rcases hm with ⟨m1, -⟩ | ⟨m1, hM'⟩ | ⟨m1, -⟩ | ⟨m1, -⟩ | ⟨m1, -⟩
        · exact absurd c1 m1
        · exact j_x hfr ((fr 208 (by omega)).trans eO) hk (by decide) hD' hM' hJ
        · exact absurd c1 m1
        · exact absurd c1 m1
        · exact absurd c1 m1
      · exact absurd e1 (by decide)
      · have hdr := drv_ok (x := x) (t := tnN (fbG pwG ck)) ht pl1 (show 1 ≤ ck ∧ ck ≤ 48 by omega) (show ct ≤ 16 by omega) hbd.2.2.2 c4 (hJ.2.2 c1)
        rcases hm with ⟨m1, x', i', m2, m3, m4, m5, m6, -⟩ | ⟨m1, hM'⟩ | ⟨m1, m2, hM'⟩ | ⟨m1, m2, hM'⟩ | ⟨m1, ⟨x', m2, m3, m4⟩, m5, hM'⟩
        · have := nI_in2 c2 m2 (by omega) (by omega)
          subst this
          rw [hdr.1.mpr m6] at c5
          cases c5
        · exact absurd m1 c1
        · exact absurd (rng0 c2 c3) m2
        · exact j_x hfr ((fr 208 (by omega)).trans eO) hk (by decide) hD' hM' hJ
        · have := nI_in2 c2 m2 (by omega) (by omega)
          subst this
          rw [hdr.1.mpr m4] at c5
          cases c5
      · exact absurd e1 (by decide)
    · rcases hc with ⟨e1, -⟩ | ⟨_, c1, c2⟩ | ⟨e1, -⟩ | ⟨_, c1, ⟨x, c2, c3, ln1, pl1, c4, c5⟩, c6⟩
      · exact absurd e1 (by decide)
      · rcases hm with ⟨m1, x', i', m2, m3, m4, -⟩ | ⟨m1, hM'⟩ | ⟨m1, m2, hM'⟩ | ⟨m1, ⟨x', m2, m3, m4⟩, hM'⟩ | ⟨m1, ⟨x', m2, m3, m4⟩, m5, hM'⟩
        · exact absurd (rng0 m2 m4) c2
        · exact absurd m1 c1
        · exact j_x hfr ((fr 208 (by omega)).trans eO) hk (by decide) hD' hM' hJ
        · exact absurd (rng0 m2 m3) c2
        · exact absurd (rng0 m2 m3) c2
      · exact absurd e1 (by decide)
      · have hdr := drv_ok (x := x) (t := tnN (fbG pwG ck)) ht pl1 (show 1 ≤ ck ∧ ck ≤ 48 by omega) (show ct ≤ 16 by omega) hbd.2.2.2 c4 (hJ.2.2 c1)
        rcases hm with ⟨m1, x', i', m2, m3, m4, m5, m6, -⟩ | ⟨m1, hM'⟩ | ⟨m1, m2, hM'⟩ | ⟨m1, ⟨x', m2, m3, m4⟩, hM'⟩ | ⟨m1, m2, m5, hM'⟩
        · exact absurd ⟨i', m3, m5⟩ c6
        · exact absurd m1 c1
        · exact absurd (rng0 c2 c3) m2
        · have := nI_in2 c2 m2 (by omega) (by omega)
          subst this
          exact absurd (hdr.1.mp c5) m4
        · exact j_x hfr ((fr 208 (by omega)).trans eO) hk (by decide) hD' hM' hJ

set_option maxHeartbeats 800000 in
theorem j_take {ca : Nat → ClassId} {ad : Nat → Nat} {g g1 g2 : Nat → va_E} {ex : Nat → Nat} {ob : Nat → Int64} (ht : TabOk pwG ex) {cd : Int32} {len : Nat} {h th : Nat → Nat} {bk bt : Nat} {BM IN : Nat → Nat → Nat} {ck ct cn rk : Nat} {M CG : Nat → Nat → Nat} {ld : Nat → Bool} {cm : Nat} (hD : DInv ca ad g pwG ex (fbG pwG) len h bk bt BM ck ct cn rk M ld) (hM : MInv ca ad g pwG cd len th bk bt IN ck ct CG cm cn) (hJ : Jn len h th bk bt BM IN ck ct CG cm rk M ld) (eO : g 208 = la ca 1 ob) {k r : Int32} (xx : Int32) (hp1 : wI ca ob (fun v => if v = 0 then 0 else 1) [(xI, 1), (xO, 2), (xU, 3)] (fun r g1 => (∀ z, 197 < z → g1 z = g z) ∧ (bk ≠ 0 ∧ bk = ck ∧ bt = ct) ∧ ∃ x : Nat, xx = nI x ∧ x < 65536 ∧ ∃ ln1 pl1, By ln1 ∧ learnR pwG ex (ck + 11) ct (inB (fbG pwG) BM ck ct rk M ld x ln1 pl1) ≠ -1 ∧ r = bI (decide (learnR pwG ex (ck + 11) ct (inB (fbG pwG) BM ck ct rk M ld x ln1 pl1) = 1)) ∧ DInv ca ad g1 pwG ex (fbG pwG) len h bk bt BM ck ct (cn + 1) (learnS pwG ex (ck + 11) ct (inB (fbG pwG) BM ck ct rk M ld x ln1 pl1)).1 (learnS pwG ex (ck + 11) ct (inB (fbG pwG) BM ck ct rk M ld x ln1 pl1)).2.1 (learnS pwG ex (ck + 11) ct (inB (fbG pwG) BM ck ct rk M ld x ln1 pl1)).2.2.1) (fun E g1 => (E = xI ∧ ¬ (bk ≠ 0 ∧ bk = ck ∧ bt = ct) ∨ E = xO ∧ (bk ≠ 0 ∧ bk = ck ∧ bt = ct) ∧ ¬ (0 ≤ xx ∧ xx < 65536) ∨ E = xU ∧ (bk ≠ 0 ∧ bk = ck ∧ bt = ct) ∧ ∃ x : Nat, xx = nI x ∧ x < 65536 ∧ ∃ ln1 pl1, By ln1 ∧ learnR pwG ex (ck + 11) ct (inB (fbG pwG) BM ck ct rk M ld x ln1 pl1) = -1) ∧ (∀ z, 197 < z → g1 z = g z) ∧ DInv ca ad g1 pwG ex (fbG pwG) len h bk bt BM ck ct cn rk M ld) k g1) (hp2 : (fun r gz => (∀ z, z < 198 ∨ 207 < z → gz z = g1 z) ∧ (((bk ≠ 0 ∧ bk = ck ∧ bt = ct) ∧ ∃ x : Nat, xx = nI x ∧ x < 65536 ∧ ∃ r1 cm1 cn1, CmR pwG ck ct CG cm cn x (smP pwG IN ck x) r1 cm1 cn1 ∧ ((0 ≤ r1 ∧ r = bI (decide (r1 = 1)) ∧ MInv ca ad gz pwG (nI 0) len th bk bt IN ck ct (CgN pwG ck ct CG cm x (smP pwG IN ck x)) cm1 cn1) ∨ (¬ 0 ≤ r1 ∧ MInv ca ad gz pwG (nI 3) len th bk bt IN ck ct (CgN pwG ck ct CG cm x (smP pwG IN ck x)) cm1 cn1))) ∨ (¬ (bk ≠ 0 ∧ bk = ck ∧ bt = ct) ∧ MInv ca ad gz pwG (nI 1) len th bk bt IN ck ct CG cm cn) ∨ ((bk ≠ 0 ∧ bk = ck ∧ bt = ct) ∧ ¬ (0 ≤ xx ∧ xx < 65536) ∧ MInv ca ad gz pwG (nI 2) len th bk bt IN ck ct CG cm cn))) r g2) : JO ca ad ex k (if r = 0 then 0 else 1) g2 := by
  obtain ⟨hfr, hm⟩ := hp2
  have hbd := hD.bd
  have hby := hM.by3
  rcases hp1 with ⟨hk, v, g', ⟨fr, c1, x, c3, c4, ln1, pl1, c5, c6, c7, hD'⟩, hg⟩ | ⟨q, hq, ⟨hc, fr, hD'⟩, hk⟩
  · rcases hm with ⟨m1, x', m3, m4, r1, cm1, cn1, m5, hm⟩ | ⟨m1, hM'⟩ | ⟨m1, m2, hM'⟩
    · have := nI_in2 c3 m3 (by omega) (by omega)
      subst this
      have hst := cm_step (ex := ex) (ln := ln1) (pl := pl1) (Vb := fun i => vlN BM (pkOut ck x (tnN (fbG pwG ck)) pl1).1 i (pkOut ck x (tnN (fbG pwG ck)) pl1).2.1) ht (fun _ => rfl) (show 1 ≤ ck ∧ ck ≤ 48 by omega) (show ct ≤ 16 by omega) hbd.2.2.2 c5 (by_smP hby.2.1) hby.2.2 (fun i hi => vl_sm pl1 (by omega) (fun p hp => hJ.2.1 c1.1 p (by omega) i (by omega))) (hJ.2.2 (by omega)) m5
      change learnR pwG ex (ck + 11) ct (inB (fbG pwG) BM ck ct rk M ld x ln1 pl1) = r1 ∧ _ at hst
      have hx9 := cm_ne m5
      rw [hst.1] at c6 c7
      rcases hm with ⟨n1, n2, hM'⟩ | ⟨n1, hM'⟩
      · obtain ⟨q1, q2⟩ := hst.2.2.1 c6
        subst q1
        refine j_n hg hfr hk hD' hM' ⟨hJ.1, hJ.2.1, fun _ => q2⟩ ?_
        show (if v = 0 then (0 : Int64) else 1) = if r = 0 then 0 else 1
        rw [c7, n2]
      · exact absurd (hx9.mpr n1) c6
    · exact absurd c1 m1
    · exact absurd (rng0 c3 c4) m2
  · simp only [List.mem_cons, List.not_mem_nil, or_false] at hq
    rcases hq with rfl | rfl | rfl
    · rcases hc with ⟨_, c1⟩ | ⟨e1, -⟩ | ⟨e1, -⟩
      · rcases hm with ⟨m1, -⟩ | ⟨m1, hM'⟩ | ⟨m1, -⟩
        · exact absurd m1 c1
        · exact j_x hfr ((fr 208 (by omega)).trans eO) hk (by decide) hD' hM' hJ
        · exact absurd m1 c1
      · exact absurd e1 (by decide)
      · exact absurd e1 (by decide)
    · rcases hc with ⟨e1, -⟩ | ⟨_, c1, c2⟩ | ⟨e1, -⟩
      · exact absurd e1 (by decide)
      · rcases hm with ⟨m1, x', m3, m4, -⟩ | ⟨m1, hM'⟩ | ⟨m1, m2, hM'⟩
        · exact absurd (rng0 m3 m4) c2
        · exact absurd c1 m1
        · exact j_x hfr ((fr 208 (by omega)).trans eO) hk (by decide) hD' hM' hJ
      · exact absurd e1 (by decide)
    · rcases hc with ⟨e1, -⟩ | ⟨e1, -⟩ | ⟨_, c1, x, c3, c4, ln1, pl1, c5, c6⟩
      · exact absurd e1 (by decide)
      · exact absurd e1 (by decide)
      · rcases hm with ⟨m1, x', m3, m4, r1, cm1, cn1, m5, hm⟩ | ⟨m1, hM'⟩ | ⟨m1, m2, hM'⟩
        · have := nI_in2 c3 m3 (by omega) (by omega)
          subst this
          have hst := cm_step (ex := ex) (ln := ln1) (pl := pl1) (Vb := fun i => vlN BM (pkOut ck x (tnN (fbG pwG ck)) pl1).1 i (pkOut ck x (tnN (fbG pwG ck)) pl1).2.1) ht (fun _ => rfl) (show 1 ≤ ck ∧ ck ≤ 48 by omega) (show ct ≤ 16 by omega) hbd.2.2.2 c5 (by_smP hby.2.1) hby.2.2 (fun i hi => vl_sm pl1 (by omega) (fun p hp => hJ.2.1 c1.1 p (by omega) i (by omega))) (hJ.2.2 (by omega)) m5
          change learnR pwG ex (ck + 11) ct (inB (fbG pwG) BM ck ct rk M ld x ln1 pl1) = r1 ∧ _ at hst
          have hx9 := cm_ne m5
          rw [hst.1] at c6
          rcases hm with ⟨n1, n2, hM'⟩ | ⟨n1, hM'⟩
          · exact absurd n1 (hx9.mp c6)
          · obtain ⟨q1, q2⟩ := hst.2.2.2 c6
            subst q1
            exact j_x hfr ((fr 208 (by omega)).trans eO) hk (by decide) hD' hM' ⟨hJ.1, hJ.2.1, fun _ => q2⟩
        · exact absurd c1 m1
        · exact absurd (rng0 c3 c4) m2

set_option maxHeartbeats 800000 in
theorem j_give {ca : Nat → ClassId} {ad : Nat → Nat} {g g1 g2 : Nat → va_E} {ex : Nat → Nat} {ob : Nat → Int64} (ht : TabOk pwG ex) {cd : Int32} {len : Nat} {h th : Nat → Nat} {bk bt : Nat} {BM IN : Nat → Nat → Nat} {ck ct cn rk : Nat} {M CG : Nat → Nat → Nat} {ld : Nat → Bool} {cm : Nat} (hD : DInv ca ad g pwG ex (fbG pwG) len h bk bt BM ck ct cn rk M ld) (hM : MInv ca ad g pwG cd len th bk bt IN ck ct CG cm cn) (hJ : Jn len h th bk bt BM IN ck ct CG cm rk M ld) (eO : g 208 = la ca 1 ob) {k r : Int32} (xx : Int32) (hp1 : wI ca ob (fun v => if v = 0 then 0 else 1) [(xI, 1), (xO, 2), (xA, 3), (xU, 4)] (fun r g1 => (∀ z, 197 < z → g1 z = g z) ∧ ck ≠ 0 ∧ len = ct ∧ ∃ x : Nat, xx = nI x ∧ x < 65536 ∧ ∃ ln1 pl1, By ln1 ∧ learnR pwG ex (ck + 11) ct (inT (fbG pwG) h ck ct rk M ld x ln1 pl1) ≠ -1 ∧ r = bI (decide (learnR pwG ex (ck + 11) ct (inT (fbG pwG) h ck ct rk M ld x ln1 pl1) = 1)) ∧ DInv ca ad g1 pwG ex (fbG pwG) 0 h bk bt BM ck ct (cn + 1) (learnS pwG ex (ck + 11) ct (inT (fbG pwG) h ck ct rk M ld x ln1 pl1)).1 (learnS pwG ex (ck + 11) ct (inT (fbG pwG) h ck ct rk M ld x ln1 pl1)).2.1 (learnS pwG ex (ck + 11) ct (inT (fbG pwG) h ck ct rk M ld x ln1 pl1)).2.2.1) (fun E g1 => (E = xI ∧ ck = 0 ∨ E = xO ∧ ck ≠ 0 ∧ ¬ (0 ≤ xx ∧ xx < 65536) ∨ E = xA ∧ ck ≠ 0 ∧ (0 ≤ xx ∧ xx < 65536) ∧ len ≠ ct ∨ E = xU ∧ ck ≠ 0 ∧ len = ct ∧ ∃ x : Nat, xx = nI x ∧ x < 65536 ∧ ∃ ln1 pl1, By ln1 ∧ learnR pwG ex (ck + 11) ct (inT (fbG pwG) h ck ct rk M ld x ln1 pl1) = -1) ∧ (∀ z, 197 < z → g1 z = g z) ∧ DInv ca ad g1 pwG ex (fbG pwG) len h bk bt BM ck ct cn rk M ld) k g1) (hp2 : (fun r gz => (∀ z, z < 198 ∨ 207 < z → gz z = g1 z) ∧ ((ck ≠ 0 ∧ len = ct ∧ ∃ x : Nat, xx = nI x ∧ x < 65536 ∧ ∃ r1 cm1 cn1, CmR pwG ck ct CG cm cn x th r1 cm1 cn1 ∧ ((0 ≤ r1 ∧ r = bI (decide (r1 = 1)) ∧ MInv ca ad gz pwG (nI 0) 0 th bk bt IN ck ct (CgN pwG ck ct CG cm x th) cm1 cn1) ∨ (¬ 0 ≤ r1 ∧ MInv ca ad gz pwG (nI 4) len th bk bt IN ck ct (CgN pwG ck ct CG cm x th) cm1 cn1))) ∨ (ck = 0 ∧ MInv ca ad gz pwG (nI 1) len th bk bt IN ck ct CG cm cn) ∨ (ck ≠ 0 ∧ ¬ (0 ≤ xx ∧ xx < 65536) ∧ MInv ca ad gz pwG (nI 2) len th bk bt IN ck ct CG cm cn) ∨ (ck ≠ 0 ∧ (0 ≤ xx ∧ xx < 65536) ∧ len ≠ ct ∧ MInv ca ad gz pwG (nI 3) len th bk bt IN ck ct CG cm cn))) r g2) : JO ca ad ex k (if r = 0 then 0 else 1) g2 := by
  obtain ⟨hfr, hm⟩ := hp2
  have hbd := hD.bd
  have hby := hM.by3
  rcases hp1 with ⟨hk, v, g', ⟨fr, c1, c2, x, c3, c4, ln1, pl1, c5, c6, c7, hD'⟩, hg⟩ | ⟨q, hq, ⟨hc, fr, hD'⟩, hk⟩
  · rcases hm with ⟨m1, m2, x', m3, m4, r1, cm1, cn1, m5, hm⟩ | ⟨m1, hM'⟩ | ⟨m1, m2, hM'⟩ | ⟨m1, m2, m3, hM'⟩
    · have := nI_in2 c3 m3 (by omega) (by omega)
      subst this
      have hst := cm_step (ex := ex) (ln := ln1) (pl := pl1) (Vb := h) ht (fun _ => rfl) (show 1 ≤ ck ∧ ck ≤ 48 by omega) (show ct ≤ 16 by omega) hbd.2.2.2 c5 hby.1 hby.2.2 (fun i hi => hJ.1 i (by omega)) (hJ.2.2 (by omega)) m5
      change learnR pwG ex (ck + 11) ct (inT (fbG pwG) h ck ct rk M ld x ln1 pl1) = r1 ∧ _ at hst
      have hx9 := cm_ne m5
      rw [hst.1] at c6 c7
      rcases hm with ⟨n1, n2, hM'⟩ | ⟨n1, hM'⟩
      · obtain ⟨q1, q2⟩ := hst.2.2.1 c6
        subst q1
        refine j_n hg hfr hk hD' hM' ⟨fun j hj => absurd hj (Nat.not_lt_zero _), hJ.2.1, fun _ => q2⟩ ?_
        show (if v = 0 then (0 : Int64) else 1) = if r = 0 then 0 else 1
        rw [c7, n2]
      · exact absurd (hx9.mpr n1) c6
    · exact absurd m1 c1
    · exact absurd (rng0 c3 c4) m2
    · exact absurd c2 m3
  · simp only [List.mem_cons, List.not_mem_nil, or_false] at hq
    rcases hq with rfl | rfl | rfl | rfl
    · rcases hc with ⟨_, c1⟩ | ⟨e1, -⟩ | ⟨e1, -⟩ | ⟨e1, -⟩
      · rcases hm with ⟨m1, -⟩ | ⟨m1, hM'⟩ | ⟨m1, -⟩ | ⟨m1, -⟩
        · exact absurd c1 m1
        · exact j_x hfr ((fr 208 (by omega)).trans eO) hk (by decide) hD' hM' hJ
        · exact absurd c1 m1
        · exact absurd c1 m1
      · exact absurd e1 (by decide)
      · exact absurd e1 (by decide)
      · exact absurd e1 (by decide)
    · rcases hc with ⟨e1, -⟩ | ⟨_, c1, c2⟩ | ⟨e1, -⟩ | ⟨e1, -⟩
      · exact absurd e1 (by decide)
      · rcases hm with ⟨m1, m2, x', m3, m4, -⟩ | ⟨m1, hM'⟩ | ⟨m1, m2, hM'⟩ | ⟨m1, m2, m3, hM'⟩
        · exact absurd (rng0 m3 m4) c2
        · exact absurd m1 c1
        · exact j_x hfr ((fr 208 (by omega)).trans eO) hk (by decide) hD' hM' hJ
        · exact absurd m2 c2
      · exact absurd e1 (by decide)
      · exact absurd e1 (by decide)
    · rcases hc with ⟨e1, -⟩ | ⟨e1, -⟩ | ⟨_, c1, c2, c3⟩ | ⟨e1, -⟩
      · exact absurd e1 (by decide)
      · exact absurd e1 (by decide)
      · rcases hm with ⟨m1, m2, -⟩ | ⟨m1, hM'⟩ | ⟨m1, m2, hM'⟩ | ⟨m1, m2, m3, hM'⟩
        · exact absurd m2 c3
        · exact absurd m1 c1
        · exact absurd c2 m2
        · exact j_x hfr ((fr 208 (by omega)).trans eO) hk (by decide) hD' hM' hJ
      · exact absurd e1 (by decide)
    · rcases hc with ⟨e1, -⟩ | ⟨e1, -⟩ | ⟨e1, -⟩ | ⟨_, c1, c2, x, c3, c4, ln1, pl1, c5, c6⟩
      · exact absurd e1 (by decide)
      · exact absurd e1 (by decide)
      · exact absurd e1 (by decide)
      · rcases hm with ⟨m1, m2, x', m3, m4, r1, cm1, cn1, m5, hm⟩ | ⟨m1, hM'⟩ | ⟨m1, m2, hM'⟩ | ⟨m1, m2, m3, hM'⟩
        · have := nI_in2 c3 m3 (by omega) (by omega)
          subst this
          have hst := cm_step (ex := ex) (ln := ln1) (pl := pl1) (Vb := h) ht (fun _ => rfl) (show 1 ≤ ck ∧ ck ≤ 48 by omega) (show ct ≤ 16 by omega) hbd.2.2.2 c5 hby.1 hby.2.2 (fun i hi => hJ.1 i (by omega)) (hJ.2.2 (by omega)) m5
          change learnR pwG ex (ck + 11) ct (inT (fbG pwG) h ck ct rk M ld x ln1 pl1) = r1 ∧ _ at hst
          have hx9 := cm_ne m5
          rw [hst.1] at c6
          rcases hm with ⟨n1, n2, hM'⟩ | ⟨n1, hM'⟩
          · exact absurd n1 (hx9.mp c6)
          · obtain ⟨q1, q2⟩ := hst.2.2.2 c6
            subst q1
            exact j_x hfr ((fr 208 (by omega)).trans eO) hk (by decide) hD' hM' ⟨hJ.1, hJ.2.1, fun _ => q2⟩
        · exact absurd m1 c1
        · exact absurd (rng0 c3 c4) m2
        · exact absurd c2 m3

set_option maxHeartbeats 800000 in
theorem j_takeAll {ca : Nat → ClassId} {ad : Nat → Nat} {g g1 g2 : Nat → va_E} {ex : Nat → Nat} {ob : Nat → Int64} (ht : TabOk pwG ex) {cd : Int32} {len : Nat} {h th : Nat → Nat} {bk bt : Nat} {BM IN : Nat → Nat → Nat} {ck ct cn rk : Nat} {M CG : Nat → Nat → Nat} {ld : Nat → Bool} {cm : Nat} (hD : DInv ca ad g pwG ex (fbG pwG) len h bk bt BM ck ct cn rk M ld) (hM : MInv ca ad g pwG cd len th bk bt IN ck ct CG cm cn) (hJ : Jn len h th bk bt BM IN ck ct CG cm rk M ld) (eO : g 208 = la ca 1 ob) {k r : Int32} (xx nx : Int32) (stp : Nat) (hp1 : wI ca ob (fun v => v.toInt64) [(xI, 1), (xO, 2), (xA, 3)] (fun r g1 => (∀ z, 197 < z → g1 z = g z) ∧ (bk ≠ 0 ∧ bk = ck ∧ bt = ct) ∧ ∃ x n gr rk1 M1 ld1 cn1, xx = nI x ∧ x < 65536 ∧ nx = nI n ∧ n ≤ 100 ∧ r = nI gr ∧ TaR pwG ex (fbG pwG) BM ck ct stp n x (0, rk, M, ld, cn) (gr, rk1, M1, ld1, cn1) ∧ DInv ca ad g1 pwG ex (fbG pwG) len h bk bt BM ck ct cn1 rk1 M1 ld1) (fun E g1 => (E = xI ∧ ¬ (bk ≠ 0 ∧ bk = ck ∧ bt = ct) ∨ E = xO ∧ (bk ≠ 0 ∧ bk = ck ∧ bt = ct) ∧ ¬ (0 ≤ xx ∧ xx < 65536) ∨ E = xA ∧ (bk ≠ 0 ∧ bk = ck ∧ bt = ct) ∧ (0 ≤ xx ∧ xx < 65536) ∧ ¬ ∃ n : Nat, nx = nI n ∧ n ≤ 100) ∧ (∀ z, 197 < z → g1 z = g z) ∧ DInv ca ad g1 pwG ex (fbG pwG) len h bk bt BM ck ct cn rk M ld) k g1) (hp2 : (fun r gz => (∀ z, z < 198 ∨ 207 < z → gz z = g1 z) ∧ (((bk ≠ 0 ∧ bk = ck ∧ bt = ct) ∧ ∃ x n gr CG1 cm1 cn1, xx = nI x ∧ x < 65536 ∧ nx = nI n ∧ n ≤ 100 ∧ r = nI gr ∧ MaR pwG IN ck ct stp n x (0, CG, cm, cn) (gr, CG1, cm1, cn1) ∧ MInv ca ad gz pwG (nI 0) len th bk bt IN ck ct CG1 cm1 cn1) ∨ (¬ (bk ≠ 0 ∧ bk = ck ∧ bt = ct) ∧ MInv ca ad gz pwG (nI 1) len th bk bt IN ck ct CG cm cn) ∨ ((bk ≠ 0 ∧ bk = ck ∧ bt = ct) ∧ ¬ (0 ≤ xx ∧ xx < 65536) ∧ MInv ca ad gz pwG (nI 2) len th bk bt IN ck ct CG cm cn) ∨ ((bk ≠ 0 ∧ bk = ck ∧ bt = ct) ∧ (0 ≤ xx ∧ xx < 65536) ∧ (¬ ∃ n : Nat, nx = nI n ∧ n ≤ 100) ∧ MInv ca ad gz pwG (nI 3) len th bk bt IN ck ct CG cm cn))) r g2) : JO ca ad ex k (r.toInt64) g2 := by
  obtain ⟨hfr, hm⟩ := hp2
  have hbd := hD.bd
  have hby := hM.by3
  rcases hp1 with ⟨hk, v, g', ⟨fr, c1, x, n, gr, rk1, M1, ld1, cn1, c2, c3, c4, c5, c6, c7, hD'⟩, hg⟩ | ⟨q, hq, ⟨hc, fr, hD'⟩, hk⟩
  · rcases hm with ⟨m1, x', n', gr', CG1, cm1, cn2, m2, m3, m4, m5, m6, m7, hM'⟩ | ⟨m1, hM'⟩ | ⟨m1, m2, hM'⟩ | ⟨m1, m2, m3, hM'⟩
    · have := nI_in2 c2 m2 (by omega) (by omega)
      subst this
      have := nI_in2 c4 m4 (by omega) (by omega)
      subst this
      obtain ⟨s1, s2, s3⟩ := ta_sim ht (fun _ => rfl) (show 1 ≤ ck ∧ ck ≤ 48 by omega) (show ct ≤ 16 by omega) hby.2.1 (fun p hp i hi => hJ.2.1 c1.1 p (by omega) i (by omega)) n x 0 rk M ld cn CG cm _ _ hbd.2.2.2 hby.2.2 (hJ.2.2 (by omega)) c7 m7
      have s1' : gr = gr' := s1
      have s2' : cn1 = cn2 := s2
      subst s1' s2'
      exact j_n hg hfr hk hD' hM' ⟨hJ.1, hJ.2.1, fun _ => s3⟩ (by rw [c6, m6])
    · exact absurd c1 m1
    · exact absurd (rng0 c2 c3) m2
    · exact absurd ⟨n, c4, c5⟩ m3
  · simp only [List.mem_cons, List.not_mem_nil, or_false] at hq
    rcases hq with rfl | rfl | rfl
    · rcases hc with ⟨_, c1⟩ | ⟨e1, -⟩ | ⟨e1, -⟩
      · rcases hm with ⟨m1, -⟩ | ⟨m1, hM'⟩ | ⟨m1, -⟩ | ⟨m1, -⟩
        · exact absurd m1 c1
        · exact j_x hfr ((fr 208 (by omega)).trans eO) hk (by decide) hD' hM' hJ
        · exact absurd m1 c1
        · exact absurd m1 c1
      · exact absurd e1 (by decide)
      · exact absurd e1 (by decide)
    · rcases hc with ⟨e1, -⟩ | ⟨_, c1, c2⟩ | ⟨e1, -⟩
      · exact absurd e1 (by decide)
      · rcases hm with ⟨m1, x', n', gr', CG1, cm1, cn2, m2, m3, -⟩ | ⟨m1, hM'⟩ | ⟨m1, m2, hM'⟩ | ⟨m1, m2, m3, hM'⟩
        · exact absurd (rng0 m2 m3) c2
        · exact absurd c1 m1
        · exact j_x hfr ((fr 208 (by omega)).trans eO) hk (by decide) hD' hM' hJ
        · exact absurd m2 c2
      · exact absurd e1 (by decide)
    · rcases hc with ⟨e1, -⟩ | ⟨e1, -⟩ | ⟨_, c1, c2, c3⟩
      · exact absurd e1 (by decide)
      · exact absurd e1 (by decide)
      · rcases hm with ⟨m1, x', n', gr', CG1, cm1, cn2, m2, m3, m4, m5, -⟩ | ⟨m1, hM'⟩ | ⟨m1, m2, hM'⟩ | ⟨m1, m2, m3, hM'⟩
        · exact absurd ⟨n', m4, m5⟩ c3
        · exact absurd c1 m1
        · exact absurd c2 m2
        · exact j_x hfr ((fr 208 (by omega)).trans eO) hk (by decide) hD' hM' hJ
