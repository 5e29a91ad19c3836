/-! ===== the law's entry: what is given ===== -/
theorem ao_spec {args : Array Value} {s : State} (h : (Cond.arrayOver (.array .int)).before args s = true) : ∃ (ci co : ClassId) (k : Class), s.vm.findClass (FieldType.array .int).toString = some ci ∧ s.vm.classes[co]? = some k ∧ k.kind = .array ci (.array .int) ∧ s.vm.findClass ("[" ++ (FieldType.array .int).toString) = some co := by
  simp only [Cond.before, Cond.holds, Cond.value, beq_iff_eq] at h
  rcases hc : s.vm.findClass (FieldType.array .int).toString with _ | ci
  · simp [hc] at h
  · simp only [hc, Option.bind_some, Option.bind_eq_some_iff, Option.map_eq_some_iff] at h
    obtain ⟨co, hi, k, hk, hb⟩ := h
    obtain ⟨hlt, hp, -⟩ := Array.findIdx?_eq_some_iff_getElem.mp hi
    rw [(Array.getElem?_eq_some_iff.mp hk).2] at hp
    rcases hkd : k.kind with _ | _ | _ | _ | _ <;> rw [hkd] at hb hp <;> simp at hb hp
    exact ⟨ci, co, k, rfl, hk, by rw [hkd, hp, hb.1], hb.2⟩
theorem tb_BELOW {args : Array Value} {s : State} {A : Nat → Prop} (hs : ∀ w ∈ flatC (Cond.and given_1 narrow_1), w.before args s = true) (hl : (Cond.laysStatic RX4 "BELOW" "[I").before args s = true) (hini : (Cond.initialized RX4).before args s = true) (hA : ∀ a : Nat, a < s.heap.size → ¬ A a) : ∃ t, va_Z RX4 "BELOW" "[I" (.ref t) A s s.heap ∧ va_T .int t 11 (fun j => .int (nI (fBelow.getD j 0))) A s s.heap := by
  obtain ⟨t, h1, h2⟩ := va_Tof (tm := (Term.static RX4 "BELOW" "[I")) (ty := .int) (N := 11) (f := fun j => .int (nI (fBelow.getD j 0))) (args := args) (A := A) (by decide) (hs _ (by decide +kernel)) (va_eqt (z := 11) (hs _ (by decide +kernel))) (fun j hj => by
    match j, hj with
    | 0, _ => exact va_eqt (t := .elem (Term.static RX4 "BELOW" "[I") (.int 0)) (z := 5) (hs _ (by decide +kernel))
    | 1, _ => exact va_eqt (t := .elem (Term.static RX4 "BELOW" "[I") (.int 1)) (z := 505) (hs _ (by decide +kernel))
    | 2, _ => exact va_eqt (t := .elem (Term.static RX4 "BELOW" "[I") (.int 2)) (z := 671) (hs _ (by decide +kernel))
    | 3, _ => exact va_eqt (t := .elem (Term.static RX4 "BELOW" "[I") (.int 3)) (z := 754) (hs _ (by decide +kernel))
    | 4, _ => exact va_eqt (t := .elem (Term.static RX4 "BELOW" "[I") (.int 4)) (z := 804) (hs _ (by decide +kernel))
    | 5, _ => exact va_eqt (t := .elem (Term.static RX4 "BELOW" "[I") (.int 5)) (z := 837) (hs _ (by decide +kernel))
    | 6, _ => exact va_eqt (t := .elem (Term.static RX4 "BELOW" "[I") (.int 6)) (z := 861) (hs _ (by decide +kernel))
    | 7, _ => exact va_eqt (t := .elem (Term.static RX4 "BELOW" "[I") (.int 7)) (z := 879) (hs _ (by decide +kernel))
    | 8, _ => exact va_eqt (t := .elem (Term.static RX4 "BELOW" "[I") (.int 8)) (z := 900) (hs _ (by decide +kernel))
    | 9, _ => exact va_eqt (t := .elem (Term.static RX4 "BELOW" "[I") (.int 9)) (z := 960) (hs _ (by decide +kernel))
    | 10, _ => exact va_eqt (t := .elem (Term.static RX4 "BELOW" "[I") (.int 10)) (z := 1000) (hs _ (by decide +kernel))
    | j + 11, h => exact absurd h (by omega)) hA
  exact ⟨t, va_Zref hl hini h1 hA, h2⟩
theorem tb_SIZES {args : Array Value} {s : State} {A : Nat → Prop} (hs : ∀ w ∈ flatC (Cond.and given_1 narrow_1), w.before args s = true) (hl : (Cond.laysStatic RX4 "SIZES" "[I").before args s = true) (hini : (Cond.initialized RX4).before args s = true) (hA : ∀ a : Nat, a < s.heap.size → ¬ A a) : ∃ t, va_Z RX4 "SIZES" "[I" (.ref t) A s s.heap ∧ va_T .int t 11 (fun j => .int (nI (fSizes.getD j 0))) A s s.heap := by
  obtain ⟨t, h1, h2⟩ := va_Tof (tm := (Term.static RX4 "SIZES" "[I")) (ty := .int) (N := 11) (f := fun j => .int (nI (fSizes.getD j 0))) (args := args) (A := A) (by decide) (hs _ (by decide +kernel)) (va_eqt (z := 11) (hs _ (by decide +kernel))) (fun j hj => by
    match j, hj with
    | 0, _ => exact va_eqt (t := .elem (Term.static RX4 "SIZES" "[I") (.int 0)) (z := 1) (hs _ (by decide +kernel))
    | 1, _ => exact va_eqt (t := .elem (Term.static RX4 "SIZES" "[I") (.int 1)) (z := 2) (hs _ (by decide +kernel))
    | 2, _ => exact va_eqt (t := .elem (Term.static RX4 "SIZES" "[I") (.int 2)) (z := 3) (hs _ (by decide +kernel))
    | 3, _ => exact va_eqt (t := .elem (Term.static RX4 "SIZES" "[I") (.int 3)) (z := 4) (hs _ (by decide +kernel))
    | 4, _ => exact va_eqt (t := .elem (Term.static RX4 "SIZES" "[I") (.int 4)) (z := 5) (hs _ (by decide +kernel))
    | 5, _ => exact va_eqt (t := .elem (Term.static RX4 "SIZES" "[I") (.int 5)) (z := 6) (hs _ (by decide +kernel))
    | 6, _ => exact va_eqt (t := .elem (Term.static RX4 "SIZES" "[I") (.int 6)) (z := 7) (hs _ (by decide +kernel))
    | 7, _ => exact va_eqt (t := .elem (Term.static RX4 "SIZES" "[I") (.int 7)) (z := 8) (hs _ (by decide +kernel))
    | 8, _ => exact va_eqt (t := .elem (Term.static RX4 "SIZES" "[I") (.int 8)) (z := 10) (hs _ (by decide +kernel))
    | 9, _ => exact va_eqt (t := .elem (Term.static RX4 "SIZES" "[I") (.int 9)) (z := 20) (hs _ (by decide +kernel))
    | 10, _ => exact va_eqt (t := .elem (Term.static RX4 "SIZES" "[I") (.int 10)) (z := 40) (hs _ (by decide +kernel))
    | j + 11, h => exact absurd h (by omega)) hA
  exact ⟨t, va_Zref hl hini h1 hA, h2⟩
set_option maxRecDepth 20000 in
theorem law_fx {args : Array Value} {s : State} {A : Nat → Prop} (hts : ∀ w ∈ lw_tbl, w.before args s = true) (hgv : (Cond.and given_1 narrow_1).before args s = true) (hA : ∀ a : Nat, a < s.heap.size → ¬ A a) (hA2 : ∀ q, s.heap.size ≤ q → A q) : ∃ (D : va_G) (ca : Nat → ClassId) (tB tS : Nat), Fx D ca tB tS A s ∧ AO ca s := by
  have hs := flat_of_before _ hgv
  have hg : ∀ w ∈ GW, w.before args s = true := fun w hw => hts w (List.mem_filter.mp hw).1
  obtain ⟨cX0, iX0, kX0⟩ := u_known (T := TX0) (N := 4) hg in_X0 (hg _ ki_X0)
  obtain ⟨cX1, iX1, kX1⟩ := u_known (T := TX1) (N := 5) hg in_X1 (hg _ ki_X1)
  obtain ⟨cX2, iX2, kX2⟩ := u_known (T := TX2) (N := 7) hg in_X2 (hg _ ki_X2)
  obtain ⟨cX3, iX3, kX3⟩ := u_known (T := TX3) (N := 2) hg in_X3 (hg _ ki_X3)
  obtain ⟨cX4, iX4, kX4⟩ := u_known (T := TX4) (N := 2) hg in_X4 (hg _ ki_X4)
  obtain ⟨cX5, iX5, kX5⟩ := u_known (T := TX5) (N := 2) hg in_X5 (hg _ ki_X5)
  obtain ⟨cX6, iX6, kX6⟩ := u_known (T := TX6) (N := 3) hg in_X6 (hg _ ki_X6)
  obtain ⟨cX7, iX7, kX7⟩ := u_known (T := TX7) (N := 7) hg in_X7 (hg _ ki_X7)
  obtain ⟨cX8, iX8, kX8⟩ := u_known (T := TX8) (N := 19) hg in_X8 (hg _ ki_X8)
  obtain ⟨ci, co, ko, a1, a2, a3, a4⟩ := ao_spec (hts (Cond.arrayOver (.array .int)) (List.mem_of_getElem? (i := 111) (by rfl)))
  obtain ⟨cI, kI, mI, b1, b2, b3⟩ := Cond.arrayClass_spec (hg _ kl_aI)
  obtain ⟨cB, kB, mB, b4, b5, b6⟩ := Cond.arrayClass_spec (hg _ kl_aB)
  obtain ⟨cZ, kZ, mZ, b7, b8, b9⟩ := Cond.arrayClass_spec (hg _ kl_aZ)
  obtain ⟨cL, kL, mL, b10, b11, b12⟩ := Cond.arrayClass_spec (hg _ kl_aL)
  have hci : ci = cI := Option.some.inj (a1.symm.trans b1)
  subst hci
  obtain ⟨tB, hB1, hB2⟩ := tb_BELOW (A := A) hs (hts _ (List.mem_of_getElem? (i := 425) (by rfl))) (hg _ wi_X4) hA
  obtain ⟨tS, hS1, hS2⟩ := tb_SIZES (A := A) hs (hts _ (List.mem_of_getElem? (i := 427) (by rfl))) (hg _ wi_X4) hA
  have hZ1 : vx_Zq Bundle.tN "UNASSIGNED_STACK" Bundle.steD A s s.heap := vx_Zqof (args := args) (hts _ (List.mem_of_getElem? (i := 279) (by rfl))) (hts _ (by decide +kernel)) (hs _ (by decide +kernel)) hA
  have hZ2 : vx_Zq Bundle.tN "SUPPRESSED_SENTINEL" Bundle.listD A s s.heap := vx_Zqof (args := args) (hts _ (List.mem_of_getElem? (i := 281) (by rfl))) (hts _ (by decide +kernel)) (hs _ (by decide +kernel)) hA
  have hN : ∀ q ∈ NCL, va_Nc q.1 q.2 s := List.forall_mem_cons.mpr ⟨va_Nc.of (hs _ (by decide +kernel)), List.forall_mem_cons.mpr ⟨va_Nc.of (hs _ (by decide +kernel)), List.forall_mem_cons.mpr ⟨va_Nc.of (hs _ (by decide +kernel)), List.forall_mem_cons.mpr ⟨va_Nc.of (hs _ (by decide +kernel)), List.forall_mem_cons.mpr ⟨va_Nc.of (hs _ (by decide +kernel)), List.forall_mem_cons.mpr ⟨va_Nc.of (hs _ (by decide +kernel)), List.forall_mem_cons.mpr ⟨va_Nc.of (hs _ (by decide +kernel)), List.forall_mem_cons.mpr ⟨va_Nc.of (hs _ (by decide +kernel)), List.forall_mem_cons.mpr ⟨va_Nc.of (hs _ (by decide +kernel)), List.forall_mem_cons.mpr ⟨va_Nc.of (hs _ (by decide +kernel)), List.forall_mem_cons.mpr ⟨va_Nc.of (hs _ (by decide +kernel)), List.forall_mem_cons.mpr ⟨va_Nc.of (hs _ (by decide +kernel)), fun _ h => absurd h List.not_mem_nil⟩⟩⟩⟩⟩⟩⟩⟩⟩⟩⟩⟩
  refine ⟨(fun k => match k with | 0 => cX0 | 1 => cX1 | 2 => cX2 | 3 => cX3 | 4 => cX4 | 5 => cX5 | 6 => cX6 | 7 => cX7 | _ => cX8, fun k => match k with | 0 => iX0 | 1 => iX1 | 2 => iX2 | 3 => iX3 | 4 => iX4 | 5 => iX5 | 6 => iX6 | 7 => iX7 | _ => iX8), fun k => match k with | 0 => ci | 1 => cB | 2 => cZ | 3 => cL | _ => co, tB, tS, ⟨⟨fun c q hq => ?_, fun k q hq => ?_⟩, ⟨fun w hw => va_Nw.of (nw_tab hw) (hts w (List.mem_filter.mp hw).1), ⟨hB1, hB2⟩, ⟨hS1, hS2⟩, hZ1, hZ2, hN⟩, hA2⟩, ko, kI, mI, a2, a3, b2, b3⟩
  · match c, hq with
    | 0, hq => cases hq; exact kX0
    | 1, hq => cases hq; exact kX1
    | 2, hq => cases hq; exact kX2
    | 3, hq => cases hq; exact kX3
    | 4, hq => cases hq; exact kX4
    | 5, hq => cases hq; exact kX5
    | 6, hq => cases hq; exact kX6
    | 7, hq => cases hq; exact kX7
    | 8, hq => cases hq; exact kX8
    | c + 9, hq => cases hq
  · match k, hq with
    | 0, hq => cases hq; exact ⟨fun n z => ⟨fun k h => (by cases h), kI, b2, mI, b3⟩, b1⟩
    | 1, hq => cases hq; exact ⟨fun n z => ⟨fun k h => (by cases h), kB, b5, mB, b6⟩, b4⟩
    | 2, hq => cases hq; exact ⟨fun n z => ⟨fun k h => (by cases h), kZ, b8, mZ, b9⟩, b7⟩
    | 3, hq => cases hq; exact ⟨fun n z => ⟨fun k h => (by cases h), kL, b11, mL, b12⟩, b10⟩
    | 4, hq => cases hq; exact ⟨fun n z => ⟨fun k h => (by cases h), ko, a2, ci, a3⟩, a4⟩
    | k + 5, hq => cases hq
