/-! ===== new objects, new arrays, constructors: a world that grows ===== -/
set_option maxRecDepth 20000 in
theorem kl_obj : Cond.instanceMethod Lib.objectInit ∈ GW := gw_in 55 (by rfl) rfl
set_option maxRecDepth 20000 in
theorem kl_objc : Cond.code Lib.objectInit ⟨#[0xb1]⟩ 1 none ∈ GW := gw_in 56 (by rfl) rfl
set_option maxRecDepth 20000 in
theorem kl_aI : Cond.arrayClass .int ∈ GW := gw_in 70 (by rfl) rfl
set_option maxRecDepth 20000 in
theorem kl_aZ : Cond.arrayClass .boolean ∈ GW := gw_in 138 (by rfl) rfl
set_option maxRecDepth 20000 in
theorem kl_aB : Cond.arrayClass .byte ∈ GW := gw_in 697 (by rfl) rfl
set_option maxRecDepth 20000 in
theorem kl_aL : Cond.arrayClass .long ∈ GW := gw_in 849 (by rfl) rfl
theorem ww_app (R N : Nat) (ad : Nat → Nat) (g : Nat → va_E) : ww (R + N) ad g = ww R ad g ++ (List.range N).map (fun i => (ad (R + i), g (R + i))) := by
  unfold ww
  rw [List.range_add, List.map_append, List.map_map]
  rfl
theorem grow1 {D : va_G} {A : Nat → Prop} {s : State} {R : Nat} {ad : Nat → Nat} {g : Nat → va_E} {H1 : Heap} {locs : List Loc} {q : Nat} {e : va_E} (h1 : va_P D vwCl (ww R ad g ++ [(q, e)]) H1) (h2 : va_D A (ww R ad g ++ [(q, e)])) (h3 : va_S A s.heap H1 locs) : ∃ (ad1 : Nat → Nat) (g1 : Nat → va_E), (∀ i, i < R → ad1 i = ad i) ∧ (∀ i, i < R → g1 i = g i) ∧ ad1 R = q ∧ g1 R = e ∧ Wd D A s (R + 1) ad1 g1 H1 locs := by
  rw [ww_push] at h1 h2
  exact ⟨va_up ad R q, va_up g R e, fun i hi => va_up_ne _ _ (by omega), fun i hi => va_up_ne _ _ (by omega), va_up_self _ _ _, va_up_self _ _ _, h1, h2, h3⟩
section New
variable {p : Program} {l : Launch} {e : Env} {Rm : Room} {s : State} {m : MethodId} {args : Array Value} {below : List Frame} {meth : Method} {c : Code} {H : Heap} {locs : List Loc} {cells slots : Nat} {Q : State → Prop}
variable {cc : ByteArray} {nL pc : Nat} {own : String} {ls : Array Slot} {rest : List Value} {D : va_G} {ca : Nat → ClassId} {tB tS : Nat} {A : Nat → Prop} {R : Nat} {ad : Nat → Nat} {g : Nat → va_E}
theorem k_newA (C : CallFix p m c cc nL s args GW own) (F : Fx D ca tB tS A s) (hw : Wd D A s R ad g H locs) {atype : ArrayType} {ty : FieldType} (harr : Cond.arrayClass (newarray.typeOf atype) ∈ GW) (hty : newarray.typeOf atype = ty) {cA0 : ClassId} (hu : ∀ cA, va_RA s cA ty → cA = cA0)
    {n : Int32} {N' : Nat} {a0 : vp_A} (ha : ∀ cA : ClassId, vp_cell cA a0 = arrV cA N' (fun _ => defaultValue ty)) (hn : ¬ n < 0) (hN : n.toNatClampNeg = N') (hbytes : N' * componentBytes ty ≤ 536870912) (hcells : cells + 1 ≤ Rm.cells) (hslots : slots + N' ≤ Rm.slots) (hdg : decode cc pc = .ok (.newarray atype, 2))
    (kk : ∀ (ad1 : Nat → Nat) (g1 : Nat → va_E) (H1 : Heap), (∀ i, i < R → ad1 i = ad i) → (∀ i, i < R → g1 i = g i) → g1 R = .inl (cA0, a0) → Wd D A s (R + 1) ad1 g1 H1 locs → W p l e Rm s m args below meth c H1 locs (cells + 1) (slots + N') Q (F0 m (pc + 2) ls (.ref (ad1 R) :: rest))) : W p l e Rm s m args below meth c H locs cells slots Q (F0 m pc ls (.int n :: rest)) := by
  refine va_newa C.1 C.2.1 (C.2.2.2.2 _ harr) hty F.1 hw.1 hw.2.1 hw.2.2 F.2.2 ha hn hN hbytes hcells hslots hdg (fun q cA H1 hK hP hD hS => ?_)
  have hcA : cA = cA0 := hu cA (hK.2 5 (cA, ty) rfl).2
  subst hcA
  obtain ⟨ad1, g1, h1, h2, h3, h4, h5⟩ := grow1 hP hD hS
  rw [← h3]
  exact kk ad1 g1 H1 h1 h2 h4 h5
theorem ra_u {ty : FieldType} {k : Nat} {cA0 : ClassId} (F : Fx D ca tB tS A s) (hk : (tysOf ca)[k]? = some (cA0, ty)) (hp : ∀ cA, va_RA s cA ty = (s.vm.findClass ("[" ++ ty.toString) = some cA)) : ∀ cA, va_RA s cA ty → cA = cA0 := fun cA h => by
  have h2 := (F.1.2 k _ hk).2
  rw [hp] at h h2
  exact Option.some.inj (h.symm.trans h2)
theorem k_newI (C : CallFix p m c cc nL s args GW own) (F : Fx D ca tB tS A s) (hw : Wd D A s R ad g H locs) (N : Nat) (hN : N < 100000) (hcells : cells + 1 ≤ Rm.cells) (hslots : slots + N ≤ Rm.slots) (hdg : decode cc pc = .ok (.newarray .int, 2))
    (kk : ∀ (ad1 : Nat → Nat) (g1 : Nat → va_E) (H1 : Heap), (∀ i, i < R → ad1 i = ad i) → (∀ i, i < R → g1 i = g i) → g1 R = na ca N (fun _ => 0) → Wd D A s (R + 1) ad1 g1 H1 locs → W p l e Rm s m args below meth c H1 locs (cells + 1) (slots + N) Q (F0 m (pc + 2) ls (.ref (ad1 R) :: rest))) : W p l e Rm s m args below meth c H locs cells slots Q (F0 m pc ls (.int (nI N) :: rest)) :=
  k_newA (atype := .int) C F hw kl_aI rfl (ra_u F (k := 0) rfl (fun _ => rfl)) (a0 := (N, .inl (fun _ => nI 0))) (fun _ => rfl) (nI_pos (by omega)) (nI_clamp (by omega)) (by show N * 4 ≤ _; omega) hcells hslots hdg kk
theorem k_newB (C : CallFix p m c cc nL s args GW own) (F : Fx D ca tB tS A s) (hw : Wd D A s R ad g H locs) (N : Nat) (hN : N < 100000) (hcells : cells + 1 ≤ Rm.cells) (hslots : slots + N ≤ Rm.slots) (hdg : decode cc pc = .ok (.newarray .byte, 2))
    (kk : ∀ (ad1 : Nat → Nat) (g1 : Nat → va_E) (H1 : Heap), (∀ i, i < R → ad1 i = ad i) → (∀ i, i < R → g1 i = g i) → g1 R = ba ca N (fun _ => 0) → Wd D A s (R + 1) ad1 g1 H1 locs → W p l e Rm s m args below meth c H1 locs (cells + 1) (slots + N) Q (F0 m (pc + 2) ls (.ref (ad1 R) :: rest))) : W p l e Rm s m args below meth c H locs cells slots Q (F0 m pc ls (.int (nI N) :: rest)) :=
  k_newA (atype := .byte) C F hw kl_aB rfl (ra_u F (k := 1) rfl (fun _ => rfl)) (a0 := (N, .inl (fun _ => 0))) (fun _ => rfl) (nI_pos (by omega)) (nI_clamp (by omega)) (by show N * 1 ≤ _; omega) hcells hslots hdg kk
theorem k_newZ (C : CallFix p m c cc nL s args GW own) (F : Fx D ca tB tS A s) (hw : Wd D A s R ad g H locs) (N : Nat) (hN : N < 100000) (hcells : cells + 1 ≤ Rm.cells) (hslots : slots + N ≤ Rm.slots) (hdg : decode cc pc = .ok (.newarray .boolean, 2))
    (kk : ∀ (ad1 : Nat → Nat) (g1 : Nat → va_E) (H1 : Heap), (∀ i, i < R → ad1 i = ad i) → (∀ i, i < R → g1 i = g i) → g1 R = za ca N (fun _ => false) → Wd D A s (R + 1) ad1 g1 H1 locs → W p l e Rm s m args below meth c H1 locs (cells + 1) (slots + N) Q (F0 m (pc + 2) ls (.ref (ad1 R) :: rest))) : W p l e Rm s m args below meth c H locs cells slots Q (F0 m pc ls (.int (nI N) :: rest)) :=
  k_newA (atype := .boolean) C F hw kl_aZ rfl (ra_u F (k := 2) rfl (fun _ => rfl)) (a0 := (N, .inl (fun _ => if false = true then 1 else 0))) (fun _ => rfl) (nI_pos (by omega)) (nI_clamp (by omega)) (by show N * 1 ≤ _; omega) hcells hslots hdg kk
theorem k_newL (C : CallFix p m c cc nL s args GW own) (F : Fx D ca tB tS A s) (hw : Wd D A s R ad g H locs) (N : Nat) (hN : N < 100000) (hcells : cells + 1 ≤ Rm.cells) (hslots : slots + N ≤ Rm.slots) (hdg : decode cc pc = .ok (.newarray .long, 2))
    (kk : ∀ (ad1 : Nat → Nat) (g1 : Nat → va_E) (H1 : Heap), (∀ i, i < R → ad1 i = ad i) → (∀ i, i < R → g1 i = g i) → g1 R = la ca N (fun _ => 0) → Wd D A s (R + 1) ad1 g1 H1 locs → W p l e Rm s m args below meth c H1 locs (cells + 1) (slots + N) Q (F0 m (pc + 2) ls (.ref (ad1 R) :: rest))) : W p l e Rm s m args below meth c H locs cells slots Q (F0 m pc ls (.int (nI N) :: rest)) :=
  k_newA (atype := .long) C F hw kl_aL rfl (ra_u F (k := 3) rfl (fun _ => rfl)) (a0 := (N, .inr (.inl (fun _ => 0)))) (fun _ => rfl) (nI_pos (by omega)) (nI_clamp (by omega)) (by show N * 8 ≤ _; omega) hcells hslots hdg kk
theorem k_new (C : CallFix p m c cc nL s args GW own) (F : Fx D ca tB tS A s) (hw : Wd D A s R ad g H locs) {C0 : String} {T : u_T} {N ci index : Nat} {ty0 : Nat → FieldType} (hin : ∀ w ∈ u_ws C0 T N, w ∈ GW) (hty : ∀ k, k < N → parseFieldDescriptor (T k).2.2.1 = some (ty0 k)) (hcl : Cond.classLink own index C0 ∈ GW) (hinst : Cond.instantiable C0 N ∈ GW) (hini : Cond.initialized C0 ∈ GW) (hc : vwCl[ci]? = some (C0, T, N)) (fs : List Value) (hfs : ∀ j, j < N → defaultValue (ty0 j) = vp_V fs j) (hcells : cells + 1 ≤ Rm.cells) (hslots : slots + N ≤ Rm.slots) (hdg : decode cc pc = .ok (.new index, 3))
    (kk : ∀ (ad1 : Nat → Nat) (g1 : Nat → va_E) (H1 : Heap), (∀ i, i < R → ad1 i = ad i) → (∀ i, i < R → g1 i = g i) → g1 R = .inr (ci, fs) → Wd D A s (R + 1) ad1 g1 H1 locs → W p l e Rm s m args below meth c H1 locs (cells + 1) (slots + N) Q (F0 m (pc + 3) ls (.ref (ad1 R) :: rest))) : W p l e Rm s m args below meth c H locs cells slots Q (F0 m pc ls rest) := by
  refine va_new C.1 C.2.1 C.2.2.2.2 hin ty0 hty C.2.2.2.1 (C.2.2.2.2 _ hcl) (C.2.2.2.2 _ hinst) (C.2.2.2.2 _ hini) F.1 hw.1 hw.2.1 hw.2.2 F.2.2 hc hfs hcells hslots hdg (fun q H1 hP hD hS => ?_)
  obtain ⟨ad1, g1, h1, h2, h3, h4, h5⟩ := grow1 hP hD hS
  rw [← h3]
  exact kk ad1 g1 H1 h1 h2 h4 h5
theorem k_obj (C : CallFix p m c cc nL s args GW own) {index : Nat} {a : Nat} (h1 : Cond.methodLink own index Lib.objectInit ∈ GW) (hsize : ls.size = nL) (hW : (rest.map fun v => v.category).sum ≤ 8) (hdg : decode cc pc = .ok (.invokespecial index, 3)) (hf : 1 ≤ Rm.frames) (hlc : 20 ≤ Rm.locals)
    (kk : W p l e Rm s m args below meth c H locs cells slots Q (F0 m (pc + 3) ls rest)) : W p l e Rm s m args below meth c H locs cells slots Q (F0 m pc ls (.ref a :: rest)) :=
  W.objInit C.1 C.2.1 C.2.2.2.1 (C.2.2.2.2 _ h1) (C.2.2.2.2 _ kl_obj) (C.2.2.2.2 _ kl_objc) rfl (hsize.trans C.2.2.1.symm) rfl hdg hf (by show 2 * 0 + _ + 12 ≤ _; omega) kk
/-- int[N][K]: the outer array, and the N inner ones behind it -/
theorem k_mna (C : CallFix p m c cc nL s args GW own) (F : Fx D ca tB tS A s) (hAO : AO ca s) (hw : Wd D A s R ad g H locs) {index : Nat} (hcl : Cond.classLink own index "[[I" ∈ GW) (N K : Nat) (hN : N < 1000) (hK : K < 1000) (hcells : cells + (1 + N) ≤ Rm.cells) (hslots : slots + (N + N * K) ≤ Rm.slots) (hdg : decode cc pc = .ok (.multianewarray index 2, 4))
    (kk : ∀ (ad1 : Nat → Nat) (g1 : Nat → va_E) (H1 : Heap), (∀ i, i < R → ad1 i = ad i) → (∀ i, i < R → g1 i = g i) → g1 R = qa ca N (fun i => if i < N then some (ad1 (R + 1 + i)) else none) → (∀ i, i < N → g1 (R + 1 + i) = na ca K (fun _ => 0)) → Wd D A s (R + 1 + N) ad1 g1 H1 locs → W p l e Rm s m args below meth c H1 locs (cells + 1 + N) (slots + N + N * K) Q (F0 m (pc + 4) ls (.ref (ad1 R) :: rest))) : W p l e Rm s m args below meth c H locs cells slots Q (F0 m pc ls (.int (nI K) :: .int (nI N) :: rest)) := by
  refine mz_w C F hAO hcl N K hN hK hcells hslots hdg (fun H1 z1 z2 z3 z4 => ?_)
  let ad1 : Nat → Nat := fun i => if i < R then ad i else H.size + (i - R)
  let g1 : Nat → va_E := fun i => if i < R then g i else if i = R then qa ca N (fun i => if i < N then some (H.size + 1 + i) else none) else na ca K (fun _ => 0)
  have a0 : ∀ i, i < R → ad1 i = ad i := fun i hi => if_pos hi
  have b0 : ∀ i, i < R → g1 i = g i := fun i hi => if_pos hi
  have aS : ∀ i, R ≤ i → ad1 i = H.size + (i - R) := fun i hi => if_neg (by omega)
  have b1 : g1 R = qa ca N (fun i => if i < N then some (H.size + 1 + i) else none) := by show (if R < R then g R else if R = R then _ else _) = _; rw [if_neg (Nat.lt_irrefl _), if_pos rfl]
  have b2 : ∀ i, R < i → g1 i = na ca K (fun _ => 0) := fun i hi => by show (if i < R then g i else if i = R then _ else _) = _; rw [if_neg (by omega), if_neg (by omega)]
  have hlt : ∀ i, i < R → ad i < H.size := fun i hi => (hw.1 i _ (ww_at i hi rfl)).lt
  have hPn : va_P D vwCl (ww (R + 1 + N) ad1 g1) H1 := fun k q hq => by
    obtain ⟨hk, rfl⟩ := ww_of hq
    by_cases h1 : k < R
    · rw [a0 k h1, b0 k h1]
      exact hw.1.kept (fun k9 x hx => by obtain ⟨hk9, rfl⟩ := ww_of hx; exact z2 _ (hlt k9 hk9)) k _ (ww_at k h1 rfl)
    · by_cases h2 : k = R
      · subst h2
        rw [aS k (Nat.le_refl _), b1, Nat.sub_self, Nat.add_zero]
        exact z3
      · rw [aS k (by omega), b2 k (by omega)]
        have := z4 (k - R - 1) (by omega)
        rw [show H.size + 1 + (k - R - 1) = H.size + (k - R) by omega] at this
        exact this
  have hDn : va_D A (ww (R + 1 + N) ad1 g1) := by
    refine ⟨fun i j x y hx hy e => ?_, fun k q hq => ?_⟩
    · obtain ⟨hi, rfl⟩ := ww_of hx
      obtain ⟨hj, rfl⟩ := ww_of hy
      have e' : ad1 i = ad1 j := e
      by_cases h1 : i < R <;> by_cases h2 : j < R
      · rw [a0 i h1, a0 j h2] at e'
        exact hw.2.1.1 i j _ _ (ww_at i h1 rfl) (ww_at j h2 rfl) e'
      · rw [a0 i h1, aS j (by omega)] at e'; have := hlt i h1; omega
      · rw [aS i (by omega), a0 j h2] at e'; have := hlt j h2; omega
      · rw [aS i (by omega), aS j (by omega)] at e'; omega
    · obtain ⟨hk, rfl⟩ := ww_of hq
      show A (ad1 k)
      by_cases h1 : k < R
      · rw [a0 k h1]; exact hw.2.1.2 k _ (ww_at k h1 rfl)
      · rw [aS k (by omega)]; exact F.2.2 _ (by have := hw.2.2.1; omega)
  have hSn : va_S A s.heap H1 locs := ⟨by have := hw.2.2.1; omega, fun q h1 h2 => (z2 q (Nat.lt_of_lt_of_le h1 hw.2.2.1)).trans (hw.2.2.2.1 q h1 h2), hw.2.2.2.2⟩
  have hfin := kk ad1 g1 H1 a0 b0 (by rw [b1]; congr 5; funext i; rw [aS (R + 1 + i) (by omega), show H.size + (R + 1 + i - R) = H.size + 1 + i by omega]) (fun i _ => b2 _ (by omega)) ⟨hPn, hDn, hSn⟩
  rw [aS R (Nat.le_refl _), Nat.sub_self, Nat.add_zero] at hfin
  exact hfin
/-- a constructor's start: a method's, and the class of int[][] -/
def WX (D : va_G) (ca : Nat → ClassId) (tB tS R : Nat) (ad : Nat → Nat) (g : Nat → va_E) (sz : Nat) (U : State) : Prop := WB D ca tB tS R ad g sz U ∧ AO ca U
theorem WX.blind {D : va_G} {ca : Nat → ClassId} {tB tS R : Nat} {ad : Nat → Nat} {g : Nat → va_E} {sz : Nat} {av : List Value} : FrameBlind (va_Pc av (WX D ca tB tS R ad g sz)) := by
  intro a U gf mk h
  obtain ⟨h0, ⟨h1, h2, h3, h4, h5⟩, h6⟩ := h
  exact ⟨h0, ⟨h1, h2, va_K.moved (u := U) (U := U.calling gf mk a) (Vm.Alike.refl U.vm) h3, h4, EV.same (u := U) (U := U.calling gf mk a) rfl h5⟩, AO.moved (u := U) (U := U.calling gf mk a) (Vm.Alike.refl U.vm) h6⟩
/-- a constructor's contract -/
abbrev MN (l : Launch) (y : MethodName) (cc : ByteArray) (n : Nat) (rm : Room) (D : va_G) (ca : Nat → ClassId) (tB tS R R1 : Nat) (ad : Nat → Nat) (g : Nat → va_E) (sz : Nat) (av : List Value) (mc ms : Nat) (post : (Nat → Nat) → (Nat → va_E) → Prop) : Prop :=
  Met l y (gws y cc n none) rm (va_Pc av (WX D ca tB tS R ad g sz)) (va_Qv (fun u : (Nat → Nat) × (Nat → va_E) => post u.1 u.2) (WN D R1 (AA R ad sz)) (AA R ad sz)) mc ms (AA R ad sz)
theorem m_nret {R1 : Nat} {ad1 : Nat → Nat} {g1 : Nat → va_E} {post : (Nat → Nat) → (Nat → va_E) → Prop} (C : CallFix p m c cc nL s args GW own) (hr : meth.sig.returnType = none) (hlocks : meth.locks = false) (hw : Wd D A s R1 ad1 g1 H locs) (hdg : decode cc pc = .ok (.return_, 1)) (hp : post ad1 g1) : W p l e Rm s m args below meth c H locs cells slots (MQ below (va_Qv (fun u : (Nat → Nat) × (Nat → va_E) => post u.1 u.2) (WN D R1 A) A) args s cells slots A) (F0 m pc ls []) :=
  W.vret C.1 C.2.1 hr (fun t ht hW => ⟨⟨(ad1, g1), rfl, hp, ⟨by rw [ht]; exact hw.1, hw.2.1⟩⟩, hw.2.2.F ht⟩) hw.2.2.2.2 hdg
theorem k_I (C : CallFix p m c cc nL s args GW own) (F : Fx D ca tB tS A s) (hAO : AO ca s) (hw : Wd D A s R ad g H locs) {y : MethodName} {cc' : ByteArray} {n' R1 : Nat} {rm : Room} {mc ms index : Nat} {As : List Value} {post : (Nat → Nat) → (Nat → va_E) → Prop} {i : Nat} {st0 : List Value}
    (hM : MN l y cc' n' rm D ca tB tS R R1 ad g H.size (.ref (ad i) :: As) mc ms post)
    (cw : CallB Rm s args own index y cc' n' none (gws y cc' n' none) rm mc ms As.length ∧ y.name = "<init>" ∧ (Cond.instanceMethod y).before args s = true) (hsize : ls.size = nL) (hst : st0 = As.reverse ++ .ref (ad i) :: rest) (hW : (rest.map fun v => v.category).sum ≤ 8) (hdg : decode cc pc = .ok (.invokespecial index, 3)) (hf : cells + mc ≤ Rm.cells ∧ slots + ms ≤ Rm.slots)
    (kk : ∀ (ad1 : Nat → Nat) (g1 : Nat → va_E) (H1 : Heap) (locs1 : List Loc), post ad1 g1 → Wd D A s R1 ad1 g1 H1 locs1 → W p l e Rm s m args below meth c H1 locs1 (cells + mc) (slots + ms) Q (F0 m (pc + 3) ls rest)) : W p l e Rm s m args below meth c H locs cells slots Q (F0 m pc ls st0) := by
  subst hst
  refine va_callv (va_runI (b := ad i) (As := As) (rest := rest) C hM cw ⟨WX.blind, fun U hU hW => ⟨rfl, WB.make F hw hU hW, AO.moved hW.alike hAO⟩⟩ rfl rfl hsize rfl (lv_room hW) hdg hf) hw.2.2 (fun q _ h => AA.sub F.2.2 hw q h) (AA.sub F.2.2 hw) (fun u t H1 locs1 ht _ hp hB _ _ hS => ?_)
  subst ht
  exact kk u.1 u.2 t.heap locs1 hp ⟨hB.1, hB.2.weaken (fun _ _ _ h => AA.sub F.2.2 hw _ h), hS⟩
end New
theorem m_startN {l : Launch} {y : MethodName} {cc : ByteArray} {n : Nat} {rm : Room} {D : va_G} {ca : Nat → ClassId} {tB tS R R1 : Nat} {ad : Nat → Nat} {g : Nat → va_E} {sz : Nat} {av : List Value} {mc ms : Nat} {post : (Nat → Nat) → (Nat → va_E) → Prop} (hy : plainFor y = true) (hlen : (lg_sl av).length ≤ n)
    (body : ∀ (p : Program) (e : Env) (s : State) (m : MethodId) (args : Array Value) (below : List Frame) (meth : Method) (c : Code) (ls : Array Slot) (Q : State → Prop), s.heap.size = sz → CallFix p m c cc n s args GW y.cls → meth.name = y.name → lv_has ls n (lv_args 0 av) → Fx D ca tB tS (AA R ad sz) s → AO ca s → Wd D (AA R ad sz) s R ad g s.heap [] →
      (∀ (H : Heap) (locs : List Loc) (ls : Array Slot) (pc : Nat) (ad1 : Nat → Nat) (g1 : Nat → va_E), decode cc pc = .ok (.return_, 1) → Wd D (AA R ad sz) s R1 ad1 g1 H locs → post ad1 g1 → W p l e rm s m args below meth c H locs mc ms Q (F0 m pc ls [])) →
      W p l e rm s m args below meth c s.heap [] 0 0 Q (F0 m 0 ls [])) : MN l y cc n rm D ca tB tS R R1 ad g sz av mc ms post := by
  refine va_MetF (cc := cc) (maxL := n) (ret := none) hy rfl ?_
  intro p e s m args below meth c s₁ B hml hv
  obtain ⟨rfl, ⟨hsz, hP, hK, hD, hE⟩, hAO⟩ := hv
  have hts := atoms_spec (ws := gws y cc n none) B.pre
  have hown : s.vm.findClass y.cls = some m.cls := findClass_of_methodNamed B.named
  rw [lg_entry_eq]
  have C : CallFix p m c cc n s av.toArray GW y.cls := ⟨B.exec, B.bytes, hml, hown, fun w hw => hts w (List.mem_cons_of_mem _ hw)⟩
  exact body p e s m _ below meth c _ _ hsz C (name_of_methodNamed B.named B.method).1 (lv_entry av hlen) ⟨hK, hE, fun q h => Or.inr (by rw [← hsz]; exact h)⟩ hAO ⟨hP, hD, va_S.rf⟩ (fun H locs ls pc ad1 g1 hd h1 hp => m_nret C B.returns B.notSynchronized h1 hd hp)
