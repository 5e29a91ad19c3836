/-! ===== starts, ends, calls of the layer ===== -/
theorem inc1 (a : Nat) : nI a + Int32.ofInt 1 = nI (a + 1) := nI_1 a
theorem inc2 (a : Nat) : nI a + Int32.ofInt 2 = nI (a + 2) := nI_add a 2
theorem inc6 (a : Nat) : nI a + Int32.ofInt 6 = nI (a + 6) := nI_add a 6
theorem dec1 (a : Nat) : nI (a + 1) + Int32.ofInt (-1) = nI a := pk_m1 a
theorem dec8 (a : Nat) : nI (a + 8) + Int32.ofInt (-8) = nI a := by
  rw [← nI_add a 8, show Int32.ofInt (-8) = -(nI 8) from by decide, ← Int32.sub_eq_add_neg, Int32.add_sub_cancel]
section Layer2
variable {p : Program} {l : Launch} {e : Env} {Rm : Room} {s : State} {m : MethodId} {args : Array Value} {below : List Frame} {meth : Method} {c : Code} {H : Heap} {locs : List Loc} {cells slots : Nat} {Q : State → Prop}
variable {cc : ByteArray} {nL pc : Nat} {own : String} {ls : Array Slot} {rest : List Value} {D : va_G} {ca : Nat → ClassId} {tB tS : Nat} {A : Nat → Prop} {R : Nat} {ad : Nat → Nat} {g : Nat → va_E}
theorem k_zeq (C : CallFix p m c cc nL s args GW own) {a : Nat} {off : Int} {tgt : Nat} (hdg : decode cc pc = .ok (.ifCond .eq off, 3)) (ht : (pc : Int) + off = (tgt : Int)) (ha : a < 2 ^ 31) (kt : a = 0 → W p l e Rm s m args below meth c H locs cells slots Q (F0 m tgt ls rest)) (kf : a ≠ 0 → W p l e Rm s m args below meth c H locs cells slots Q (F0 m (pc + 3) ls rest)) : W p l e Rm s m args below meth c H locs cells slots Q (F0 m pc ls (.int (nI a) :: rest)) := lv_if_eq C.1 C.2.1 hdg ht (fun h => kt ((nI_eq (b := 0) ha (by decide)).mp h)) (fun h => kf (mt (nI_eq (b := 0) ha (by decide)).mpr h))
theorem k_zne (C : CallFix p m c cc nL s args GW own) {a : Nat} {off : Int} {tgt : Nat} (hdg : decode cc pc = .ok (.ifCond .ne off, 3)) (ht : (pc : Int) + off = (tgt : Int)) (ha : a < 2 ^ 31) (kt : a ≠ 0 → W p l e Rm s m args below meth c H locs cells slots Q (F0 m tgt ls rest)) (kf : a = 0 → W p l e Rm s m args below meth c H locs cells slots Q (F0 m (pc + 3) ls rest)) : W p l e Rm s m args below meth c H locs cells slots Q (F0 m pc ls (.int (nI a) :: rest)) := lv_if_ne C.1 C.2.1 hdg ht (fun h => kt (mt (nI_eq (b := 0) ha (by decide)).mpr h)) (fun h => kf ((nI_eq (b := 0) ha (by decide)).mp h))
theorem k_zge (C : CallFix p m c cc nL s args GW own) {a : Nat} {off : Int} {tgt : Nat} (hdg : decode cc pc = .ok (.ifCond .ge off, 3)) (ht : (pc : Int) + off = (tgt : Int)) (ha : a < 2 ^ 31) (kt : W p l e Rm s m args below meth c H locs cells slots Q (F0 m tgt ls rest)) : W p l e Rm s m args below meth c H locs cells slots Q (F0 m pc ls (.int (nI a) :: rest)) := lv_if_ge C.1 C.2.1 hdg ht (fun _ => kt) (fun h => absurd (nI_pos' ha) h)
theorem k_zlt (C : CallFix p m c cc nL s args GW own) {a : Nat} {off : Int} {tgt : Nat} (hdg : decode cc pc = .ok (.ifCond .lt off, 3)) (ht : (pc : Int) + off = (tgt : Int)) (ha : a < 2 ^ 31) (kf : W p l e Rm s m args below meth c H locs cells slots Q (F0 m (pc + 3) ls rest)) : W p l e Rm s m args below meth c H locs cells slots Q (F0 m pc ls (.int (nI a) :: rest)) := lv_if_lt C.1 C.2.1 hdg ht (fun h => absurd h (nI_pos ha)) (fun _ => kf)
theorem k_zgt (C : CallFix p m c cc nL s args GW own) {a : Nat} {off : Int} {tgt : Nat} (hdg : decode cc pc = .ok (.ifCond .gt off, 3)) (ht : (pc : Int) + off = (tgt : Int)) (ha : a < 2 ^ 31) (kt : 0 < a → W p l e Rm s m args below meth c H locs cells slots Q (F0 m tgt ls rest)) (kf : a = 0 → W p l e Rm s m args below meth c H locs cells slots Q (F0 m (pc + 3) ls rest)) : W p l e Rm s m args below meth c H locs cells slots Q (F0 m pc ls (.int (nI a) :: rest)) := lv_if_gt C.1 C.2.1 hdg ht (fun h => kt ((nI_ltI (a := 0) (by decide) ha).mp h)) (fun h => kf (by have := mt (nI_ltI (a := 0) (by decide) ha).mpr h; omega))
theorem k_zle (C : CallFix p m c cc nL s args GW own) {a : Nat} {off : Int} {tgt : Nat} (hdg : decode cc pc = .ok (.ifCond .le off, 3)) (ht : (pc : Int) + off = (tgt : Int)) (ha : a < 2 ^ 31) (kt : a = 0 → W p l e Rm s m args below meth c H locs cells slots Q (F0 m tgt ls rest)) (kf : 0 < a → W p l e Rm s m args below meth c H locs cells slots Q (F0 m (pc + 3) ls rest)) : W p l e Rm s m args below meth c H locs cells slots Q (F0 m pc ls (.int (nI a) :: rest)) := lv_if_le C.1 C.2.1 hdg ht (fun h => kt (by have := (nI_leI (b := 0) ha (by decide)).mp h; omega)) (fun h => kf (by have := mt (nI_leI (b := 0) ha (by decide)).mpr h; omega))
/-- an answer that is a truth -/
abbrev bI (b : Bool) : Int32 := if b = true then 1 else 0
theorem k_beq (C : CallFix p m c cc nL s args GW own) {b : Bool} {off : Int} {tgt : Nat} (hdg : decode cc pc = .ok (.ifCond .eq off, 3)) (ht : (pc : Int) + off = (tgt : Int)) (kt : b = false → W p l e Rm s m args below meth c H locs cells slots Q (F0 m tgt ls rest)) (kf : b = true → W p l e Rm s m args below meth c H locs cells slots Q (F0 m (pc + 3) ls rest)) : W p l e Rm s m args below meth c H locs cells slots Q (F0 m pc ls (.int (bI b) :: rest)) := lv_if_eq C.1 C.2.1 hdg ht (fun h => kt (by cases b; rfl; exact absurd h (by decide))) (fun h => kf (by cases b; exact absurd rfl h; rfl))
theorem k_bne (C : CallFix p m c cc nL s args GW own) {b : Bool} {off : Int} {tgt : Nat} (hdg : decode cc pc = .ok (.ifCond .ne off, 3)) (ht : (pc : Int) + off = (tgt : Int)) (kt : b = true → W p l e Rm s m args below meth c H locs cells slots Q (F0 m tgt ls rest)) (kf : b = false → W p l e Rm s m args below meth c H locs cells slots Q (F0 m (pc + 3) ls rest)) : W p l e Rm s m args below meth c H locs cells slots Q (F0 m pc ls (.int (bI b) :: rest)) := lv_if_ne C.1 C.2.1 hdg ht (fun h => kt (by cases b; exact absurd rfl h; rfl)) (fun h => kf (by cases b; rfl; exact absurd h (by decide)))
theorem k_inc (C : CallFix p m c cc nL s args GW own) {i k : Nat} {n : Int} {a : Nat} (a' : Nat) {lv lv' : List (Nat × Value)} (hdg : decode cc pc = .ok (.iinc i n, 3)) (h : lv_has ls nL lv) (hk : lv[k]? = some (i, .int (nI a))) (hv : nI a + Int32.ofInt n = nI a') (hn : i < nL) (hl : (i, Value.int (nI a')) :: lv.filter (fun q => !(q.1 == i) && !(q.1 + 1 == i && q.2.category == 2)) = lv')
    (kk : ∀ ls' : Array Slot, lv_has ls' nL lv' → W p l e Rm s m args below meth c H locs cells slots Q (F0 m (pc + 3) ls' rest)) : W p l e Rm s m args below meth c H locs cells slots Q (F0 m pc ls rest) := lv_iinc C.1 C.2.1 hdg h hk hv hn hl kk
/-! starts -/
theorem m_start {y : MethodName} {ret : Option FieldType} {rm : Room} {av : List Value} {sz : Nat} {Qc : Array Value → State → Outcome → State → Prop} {mc ms : Nat} {free : Addr → Prop} {n : Nat}
    (hy : plainFor y = true) (hlen : (lg_sl av).length ≤ n)
    (body : ∀ (p : Program) (e : Env) (s : State) (m : MethodId) (below : List Frame) (meth : Method) (c : Code) (ls : Array Slot), s.heap.size = sz → CallFix p m c cc n s av.toArray GW y.cls → meth.sig.returnType = ret → meth.locks = false → meth.name = y.name → lv_has ls n (lv_args 0 av) → Fx D ca tB tS (AA R ad sz) s → Wd D (AA R ad sz) s R ad g s.heap [] →
      W p l e rm s m av.toArray below meth c s.heap [] 0 0 (MQ below Qc av.toArray s mc ms free) (F0 m 0 ls [])) :
    Met l y (gws y cc n ret) rm (va_Pc av (WB D ca tB tS R ad g sz)) Qc mc ms free := by
  refine va_MetF (cc := cc) (maxL := n) (ret := ret) hy rfl ?_
  intro p e s m args below meth c s₁ B hml hv
  obtain ⟨rfl, hsz, hP, hK, hD, hE⟩ := hv
  have hts := atoms_spec (ws := gws y cc n ret) B.pre
  have hown : s.vm.findClass y.cls = some m.cls := findClass_of_methodNamed B.named
  rw [lg_entry_eq]
  exact body p e s m below meth c _ hsz ⟨B.exec, B.bytes, hml, hown, fun w hw => hts w (List.mem_cons_of_mem _ hw)⟩ B.returns B.notSynchronized (name_of_methodNamed B.named B.method).1 (lv_entry av hlen) ⟨hK, hE, fun q h => Or.inr (by rw [← hsz]; exact h)⟩ ⟨hP, hD, va_S.rf⟩
/-! ends -/
theorem m_iret {g1 : Nat → va_E} {v : Int32} {post : Int32 → (Nat → va_E) → Prop} (C : CallFix p m c cc nL s args GW own) (hr : meth.sig.returnType = some .int) (hlocks : meth.locks = false) (hw : Wd D A s R ad g1 H locs) (hdg : decode cc pc = .ok (.ireturn, 1)) (hp : post v g1) : W p l e Rm s m args below meth c H locs cells slots (MQ below (va_Qi post (WE D R ad A) A) args s cells slots A) (F0 m pc ls [.int v]) :=
  W.iret C.1 C.2.1 hr (fun t ht hW => ⟨⟨v, g1, rfl, hp, ⟨by rw [ht]; exact hw.1, hw.2.1⟩⟩, hw.2.2.F ht⟩) hw.2.2.2.2 hdg
theorem m_vret {g1 : Nat → va_E} {post : (Nat → va_E) → Prop} (C : CallFix p m c cc nL s args GW own) (hr : meth.sig.returnType = none) (hlocks : meth.locks = false) (hw : Wd D A s R ad g1 H locs) (hdg : decode cc pc = .ok (.return_, 1)) (hp : post g1) : W p l e Rm s m args below meth c H locs cells slots (MQ below (va_Qv post (WE D R ad A) A) args s cells slots A) (F0 m pc ls []) :=
  W.vret C.1 C.2.1 hr (fun t ht hW => ⟨⟨g1, rfl, hp, ⟨by rw [ht]; exact hw.1, hw.2.1⟩⟩, hw.2.2.F ht⟩) hw.2.2.2.2 hdg
theorem m_lret {g1 : Nat → va_E} {v : Int64} {post : Int64 → (Nat → va_E) → Prop} (C : CallFix p m c cc nL s args GW own) (hr : meth.sig.returnType = some .long) (hlocks : meth.locks = false) (hw : Wd D A s R ad g1 H locs) (hdg : decode cc pc = .ok (.lreturn, 1)) (hp : post v g1) : W p l e Rm s m args below meth c H locs cells slots (MQ below (va_Ql post (WE D R ad A) A) args s cells slots A) (F0 m pc ls [.long v]) :=
  W.lret C.1 C.2.1 hr (fun t ht hW => ⟨⟨v, g1, rfl, hp, ⟨by rw [ht]; exact hw.1, hw.2.1⟩⟩, hw.2.2.F ht⟩) hw.2.2.2.2 hdg
theorem bI_narrow (b : Bool) : narrow .boolean (.int (bI b)) = .int (bI b) := by cases b <;> rfl
theorem m_zret {g1 : Nat → va_E} {b : Bool} {v : Int32} {post : Int32 → (Nat → va_E) → Prop} (C : CallFix p m c cc nL s args GW own) (hr : meth.sig.returnType = some .boolean) (hlocks : meth.locks = false) (hw : Wd D A s R ad g1 H locs) (hdg : decode cc pc = .ok (.ireturn, 1)) (hv : v = bI b) (hp : post v g1) : W p l e Rm s m args below meth c H locs cells slots (MQ below (va_Qi post (WE D R ad A) A) args s cells slots A) (F0 m pc ls [.int v]) := by
  subst hv
  exact W.zret C.1 C.2.1 hr (bI_narrow b) (fun t ht hW => ⟨⟨bI b, g1, rfl, hp, ⟨by rw [ht]; exact hw.1, hw.2.1⟩⟩, hw.2.2.F ht⟩) hw.2.2.2.2 hdg
/-! calls -/
theorem k_Vi (C : CallFix p m c cc nL s args GW own) (F : Fx D ca tB tS A s) (hw : Wd D A s R ad g H locs) {y : MethodName} {cc' : ByteArray} {n' : Nat} {ret' : Option FieldType} {rm : Room} {mc ms index : Nat} {As : List Value} {post : Int32 → (Nat → va_E) → Prop} {i ci : Nat} {fs : List Value} {q : vw_C} {st0 : List Value}
    (hM : Met l y (gws y cc' n' ret') rm (va_Pc (.ref (ad i) :: As) (WB D ca tB tS R ad g H.size)) (va_Qi post (WE D R ad (AA R ad H.size)) (AA R ad H.size)) mc ms (AA R ad H.size)) (hi : i < R) (he : g i = .inr (ci, fs)) (hc : vwCl[ci]? = some q)
    (cw : CallW Rm s args own q.1 index y cc' n' ret' (gws y cc' n' ret') rm mc ms As.length) (hsize : ls.size = nL) (hst : st0 = As.reverse ++ .ref (ad i) :: rest) (hW : (rest.map fun v => v.category).sum ≤ 8) (hdg : decode cc pc = .ok (.invokevirtual index, 3)) (hf : cells + mc ≤ Rm.cells ∧ slots + ms ≤ Rm.slots)
    (kk : ∀ (r : Int32) (g1 : Nat → va_E) (H1 : Heap) (locs1 : List Loc), post r g1 → Wd D A s R ad g1 H1 locs1 → W p l e Rm s m args below meth c H1 locs1 (cells + mc) (slots + ms) Q (F0 m (pc + 3) ls (.int r :: rest))) : W p l e Rm s m args below meth c H locs cells slots Q (F0 m pc ls st0) := by
  subst hst
  refine va_calli (va_runV (b := ad i) (As := As) (rest := rest) C hM cw ⟨WB.blind, va_recv F.1 hw.1 hc (ww_at i hi he), fun U hU hW => ⟨rfl, WB.make F hw hU hW⟩⟩ rfl rfl hsize rfl (lv_room hW) hdg hf) hw.2.2 (fun q _ h => AA.sub F.2.2 hw q h) (AA.sub F.2.2 hw) (fun r u t H1 locs1 ht _ hp hB _ _ hS => ?_)
  subst ht
  exact kk r u t.heap locs1 hp ⟨hB.1, hB.2.weaken (fun _ _ _ h => AA.sub F.2.2 hw _ h), hS⟩
theorem k_Vv (C : CallFix p m c cc nL s args GW own) (F : Fx D ca tB tS A s) (hw : Wd D A s R ad g H locs) {y : MethodName} {cc' : ByteArray} {n' : Nat} {ret' : Option FieldType} {rm : Room} {mc ms index : Nat} {As : List Value} {post : (Nat → va_E) → Prop} {i ci : Nat} {fs : List Value} {q : vw_C} {st0 : List Value}
    (hM : Met l y (gws y cc' n' ret') rm (va_Pc (.ref (ad i) :: As) (WB D ca tB tS R ad g H.size)) (va_Qv post (WE D R ad (AA R ad H.size)) (AA R ad H.size)) mc ms (AA R ad H.size)) (hi : i < R) (he : g i = .inr (ci, fs)) (hc : vwCl[ci]? = some q)
    (cw : CallW Rm s args own q.1 index y cc' n' ret' (gws y cc' n' ret') rm mc ms As.length) (hsize : ls.size = nL) (hst : st0 = As.reverse ++ .ref (ad i) :: rest) (hW : (rest.map fun v => v.category).sum ≤ 8) (hdg : decode cc pc = .ok (.invokevirtual index, 3)) (hf : cells + mc ≤ Rm.cells ∧ slots + ms ≤ Rm.slots)
    (kk : ∀ (g1 : Nat → va_E) (H1 : Heap) (locs1 : List Loc), post g1 → Wd D A s R ad g1 H1 locs1 → W p l e Rm s m args below meth c H1 locs1 (cells + mc) (slots + ms) Q (F0 m (pc + 3) ls rest)) : W p l e Rm s m args below meth c H locs cells slots Q (F0 m pc ls st0) := by
  subst hst
  refine va_callv (va_runV (b := ad i) (As := As) (rest := rest) C hM cw ⟨WB.blind, va_recv F.1 hw.1 hc (ww_at i hi he), fun U hU hW => ⟨rfl, WB.make F hw hU hW⟩⟩ rfl rfl hsize rfl (lv_room hW) hdg hf) hw.2.2 (fun q _ h => AA.sub F.2.2 hw q h) (AA.sub F.2.2 hw) (fun u t H1 locs1 ht _ hp hB _ _ hS => ?_)
  subst ht
  exact kk u t.heap locs1 hp ⟨hB.1, hB.2.weaken (fun _ _ _ h => AA.sub F.2.2 hw _ h), hS⟩
theorem k_Si (C : CallFix p m c cc nL s args GW own) (F : Fx D ca tB tS A s) (hw : Wd D A s R ad g H locs) {y : MethodName} {cc' : ByteArray} {n' : Nat} {ret' : Option FieldType} {rm : Room} {mc ms index : Nat} {As : List Value} {post : Int32 → (Nat → va_E) → Prop} {st0 : List Value}
    (hM : Met l y (gws y cc' n' ret') rm (va_Pc As (WB D ca tB tS R ad g H.size)) (va_Qi post (WE D R ad (AA R ad H.size)) (AA R ad H.size)) mc ms (AA R ad H.size))
    (cw : CallB Rm s args own index y cc' n' ret' (gws y cc' n' ret') rm mc ms As.length ∧ (Cond.static y).before args s = true) (hsize : ls.size = nL) (hst : st0 = As.reverse ++ rest) (hW : (rest.map fun v => v.category).sum ≤ 8) (hdg : decode cc pc = .ok (.invokestatic index, 3)) (hf : cells + mc ≤ Rm.cells ∧ slots + ms ≤ Rm.slots)
    (kk : ∀ (r : Int32) (g1 : Nat → va_E) (H1 : Heap) (locs1 : List Loc), post r g1 → Wd D A s R ad g1 H1 locs1 → W p l e Rm s m args below meth c H1 locs1 (cells + mc) (slots + ms) Q (F0 m (pc + 3) ls (.int r :: rest))) : W p l e Rm s m args below meth c H locs cells slots Q (F0 m pc ls st0) := by
  subst hst
  refine va_calli (va_runS (As := As) (rest := rest) C hM cw ⟨WB.blind, fun U hU hW => ⟨rfl, WB.make F hw hU hW⟩⟩ rfl rfl hsize rfl (lv_room hW) hdg hf) hw.2.2 (fun q _ h => AA.sub F.2.2 hw q h) (AA.sub F.2.2 hw) (fun r u t H1 locs1 ht _ hp hB _ _ hS => ?_)
  subst ht
  exact kk r u t.heap locs1 hp ⟨hB.1, hB.2.weaken (fun _ _ _ h => AA.sub F.2.2 hw _ h), hS⟩
theorem k_Sl (C : CallFix p m c cc nL s args GW own) (F : Fx D ca tB tS A s) (hw : Wd D A s R ad g H locs) {y : MethodName} {cc' : ByteArray} {n' : Nat} {ret' : Option FieldType} {rm : Room} {mc ms index : Nat} {As : List Value} {post : Int64 → (Nat → va_E) → Prop} {st0 : List Value}
    (hM : Met l y (gws y cc' n' ret') rm (va_Pc As (WB D ca tB tS R ad g H.size)) (va_Ql post (WE D R ad (AA R ad H.size)) (AA R ad H.size)) mc ms (AA R ad H.size))
    (cw : CallB Rm s args own index y cc' n' ret' (gws y cc' n' ret') rm mc ms As.length ∧ (Cond.static y).before args s = true) (hsize : ls.size = nL) (hst : st0 = As.reverse ++ rest) (hW : (rest.map fun v => v.category).sum ≤ 8) (hdg : decode cc pc = .ok (.invokestatic index, 3)) (hf : cells + mc ≤ Rm.cells ∧ slots + ms ≤ Rm.slots)
    (kk : ∀ (r : Int64) (g1 : Nat → va_E) (H1 : Heap) (locs1 : List Loc), post r g1 → Wd D A s R ad g1 H1 locs1 → W p l e Rm s m args below meth c H1 locs1 (cells + mc) (slots + ms) Q (F0 m (pc + 3) ls (.long r :: rest))) : W p l e Rm s m args below meth c H locs cells slots Q (F0 m pc ls st0) := by
  subst hst
  refine va_calll (va_runS (As := As) (rest := rest) C hM cw ⟨WB.blind, fun U hU hW => ⟨rfl, WB.make F hw hU hW⟩⟩ rfl rfl hsize rfl (lv_room hW) hdg hf) hw.2.2 (fun q _ h => AA.sub F.2.2 hw q h) (AA.sub F.2.2 hw) (fun r u t H1 locs1 ht _ hp hB _ _ hS => ?_)
  subst ht
  exact kk r u t.heap locs1 hp ⟨hB.1, hB.2.weaken (fun _ _ _ h => AA.sub F.2.2 hw _ h), hS⟩
theorem k_Sv (C : CallFix p m c cc nL s args GW own) (F : Fx D ca tB tS A s) (hw : Wd D A s R ad g H locs) {y : MethodName} {cc' : ByteArray} {n' : Nat} {ret' : Option FieldType} {rm : Room} {mc ms index : Nat} {As : List Value} {post : (Nat → va_E) → Prop} {st0 : List Value}
    (hM : Met l y (gws y cc' n' ret') rm (va_Pc As (WB D ca tB tS R ad g H.size)) (va_Qv post (WE D R ad (AA R ad H.size)) (AA R ad H.size)) mc ms (AA R ad H.size))
    (cw : CallB Rm s args own index y cc' n' ret' (gws y cc' n' ret') rm mc ms As.length ∧ (Cond.static y).before args s = true) (hsize : ls.size = nL) (hst : st0 = As.reverse ++ rest) (hW : (rest.map fun v => v.category).sum ≤ 8) (hdg : decode cc pc = .ok (.invokestatic index, 3)) (hf : cells + mc ≤ Rm.cells ∧ slots + ms ≤ Rm.slots)
    (kk : ∀ (g1 : Nat → va_E) (H1 : Heap) (locs1 : List Loc), post g1 → Wd D A s R ad g1 H1 locs1 → W p l e Rm s m args below meth c H1 locs1 (cells + mc) (slots + ms) Q (F0 m (pc + 3) ls rest)) : W p l e Rm s m args below meth c H locs cells slots Q (F0 m pc ls st0) := by
  subst hst
  refine va_callv (va_runS (As := As) (rest := rest) C hM cw ⟨WB.blind, fun U hU hW => ⟨rfl, WB.make F hw hU hW⟩⟩ rfl rfl hsize rfl (lv_room hW) hdg hf) hw.2.2 (fun q _ h => AA.sub F.2.2 hw q h) (AA.sub F.2.2 hw) (fun u t H1 locs1 ht _ hp hB _ _ hS => ?_)
  subst ht
  exact kk u t.heap locs1 hp ⟨hB.1, hB.2.weaken (fun _ _ _ h => AA.sub F.2.2 hw _ h), hS⟩
end Layer2
