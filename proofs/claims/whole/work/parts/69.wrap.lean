/-! ===== law's little methods: calls that may throw, tables, long cells ===== -/
def gwsW (y : MethodName) (cc : ByteArray) (n : Nat) (ret : Option FieldType) (hh : List (Nat × Nat × Nat × Nat)) : List Cond := Cond.codeWith y cc n ret hh :: GW
theorem good_SW {own : String} {idx : Nat} {y : MethodName} {cc : ByteArray} {n : Nat} {ret : Option FieldType} {hh : List (Nat × Nat × Nat × Nat)} (h1 : Cond.methodLink own idx y ∈ GW) (h2 : Cond.static y ∈ GW) (h4 : Cond.initialized y.cls ∈ GW) (h5 : Cond.codeWith y cc n ret hh ∈ GW) : GoodIn GW (va_wsS own idx y (gwsW y cc n ret hh)) := fun w hw => by
  have h : w ∈ GW := by
    rcases List.mem_append.mp hw with h | h
    · simp only [List.mem_cons, List.not_mem_nil, or_false] at h
      rcases h with rfl | rfl | rfl <;> assumption
    · exact (List.mem_cons.mp h).elim (fun e => e ▸ h5) id
  exact ⟨h, gw_good h⟩
/-- a contract of a static method with a table -/
abbrev MW (l : Launch) (y : MethodName) (cc : ByteArray) (n : Nat) (hh : List (Nat × Nat × Nat × Nat)) (rm : Room) (D : va_G) (ca : Nat → ClassId) (tB tS R : Nat) (ad : Nat → Nat) (g : Nat → va_E) (sz : Nat) (av : List Value) (post : Int32 → (Nat → va_E) → Prop) : Prop :=
  Met l y (gwsW y cc n (some .int) hh) rm (va_Pc av (WB D ca tB tS R ad g sz)) (va_Qi post (WE D R ad (AA R ad sz)) (AA R ad sz)) 1 6 (AA R ad sz)
section Wrap
variable {p : Program} {l : Launch} {e : Env} {Rm : Room} {s : State} {m : MethodId} {args : Array Value} {below : List Frame} {meth : Method} {c : Code} {H : Heap} {locs : List Loc} {cells slots : Nat} {Q : State → Prop}
variable {cc : ByteArray} {nL pc : Nat} {own : String} {ls : Array Slot} {rest : List Value} {D : va_G} {ca : Nat → ClassId} {tB tS : Nat} {A : Nat → Prop} {R : Nat} {ad : Nat → Nat} {g : Nat → va_E}
theorem w_start {y : MethodName} {hh : List (Nat × Nat × Nat × Nat)} {rm : Room} {av : List Value} {sz : Nat} {n : Nat} {post : Int32 → (Nat → va_E) → Prop} (hy : plainFor y = true) (hlen : (lg_sl av).length ≤ n)
    (body : ∀ (p : Program) (e : Env) (s : State) (m : MethodId) (args : Array Value) (below : List Frame) (meth : Method) (c : Code) (ls : Array Slot) (Q : State → Prop), s.heap.size = sz → CallFix p m c cc n s args GW y.cls → c.exceptionTable.toList = tableOf hh → lv_has ls n (lv_args 0 av) → Fx D ca tB tS (AA R ad sz) s → Wd D (AA R ad sz) s R ad g s.heap [] →
      (∀ (H : Heap) (locs : List Loc) (ls : Array Slot) (pc : Nat) (v : Int32) (g1 : Nat → va_E), decode cc pc = .ok (.ireturn, 1) → Wd D (AA R ad sz) s R ad g1 H locs → post v g1 → W p l e rm s m args below meth c H locs 1 6 Q (F0 m pc ls [.int v])) →
      W p l e rm s m args below meth c s.heap [] 0 0 Q (F0 m 0 ls [])) : MW l y cc n hh rm D ca tB tS R ad g sz av post := by
  refine MetFree.of_bodySF (code := cc) (maxLocals := n) (ret := some .int) hy ?_ ?_
  · intro args s m h hn
    obtain ⟨m9, meth, c, hn9, h1, h2, h3, h4, -, h5, h6, -⟩ := Cond.codeWith_spec (atoms_spec (ws := gwsW y cc n (some .int) hh) h _ List.mem_cons_self)
    cases hn.symm.trans hn9
    exact ⟨meth, c, h1, h2, h3, h4, h5, h6⟩
  · intro p e s m args below meth c s₁ B hml hP _
    have hh0 : s₁.heap = s.heap := by rw [B.state]; rfl
    obtain ⟨rfl, hsz, hP, hK, hD, hE⟩ := hP
    have hts := atoms_spec (ws := gwsW y cc n (some .int) hh) B.pre
    have hown : s.vm.findClass y.cls = some m.cls := findClass_of_methodNamed B.named
    have C : CallFix p m c cc n s av.toArray GW y.cls := ⟨B.exec, B.bytes, hml, hown, fun w hw => hts w (List.mem_cons_of_mem _ hw)⟩
    have hb := body p e s m av.toArray below meth c _ (MQ below (va_Qi post (WE D R ad (AA R ad sz)) (AA R ad sz)) av.toArray s 1 6 (AA R ad sz)) hsz C (vx_table (x := y) B (hts _ List.mem_cons_self)) (lv_entry av hlen) ⟨hK, hE, fun q h => Or.inr (by rw [← hsz]; exact h)⟩ ⟨hP, hD, va_S.rf⟩ (fun H locs ls pc v g1 hd h1 hp => m_iret C B.returns B.notSynchronized h1 hd hp)
    rw [← lg_entry_eq] at hb
    obtain ⟨t, a1, o, b1, b2, b3⟩ := hb s₁ hh0 (Stand.of_body B)
    exact ⟨t, o, a1, b1, b2, ⟨b3.1, b3.2⟩⟩
theorem k_Xi (C : CallFix p m c cc nL s args GW own) (F : Fx D ca tB tS A s) (hw : Wd D A s R ad g H locs) {y : MethodName} {cc' : ByteArray} {n' : Nat} {ret' : Option FieldType} {rm : Room} {index : Nat} {As : List Value} {post : Int32 → (Nat → va_E) → Prop} {px : String → (Nat → va_E) → Prop} {i ci : Nat} {fs : List Value} {q : vw_C} {st0 : List Value}
    (hM : vx_Met l y (gws y cc' n' ret') rm (va_Pc (.ref (ad i) :: As) (WB D ca tB tS R ad g H.size)) (va_Qi post (WE D R ad (AA R ad H.size)) (AA R ad H.size)) (XX D R ad (AA R ad H.size) px) 1 6 (AA R ad H.size)) (hi : i < R) (he : g i = .inr (ci, fs)) (hc : vwCl[ci]? = some q)
    (cw : CallW Rm s args own q.1 index y cc' n' ret' (gws y cc' n' ret') rm 1 6 As.length) (hsize : ls.size = nL) (hst : st0 = As.reverse ++ .ref (ad i) :: rest) (hW : (rest.map fun v => v.category).sum ≤ 8) (hdg : decode cc pc = .ok (.invokevirtual index, 3)) (hf : cells + 1 ≤ Rm.cells ∧ slots + 6 ≤ Rm.slots)
    (kx : ∀ (E : String) (ce : Cell) (q9 : Addr) (g1 : Nat → va_E) (H1 : Heap) (locs1 : List Loc), px E g1 → Wd D A s R ad g1 H1 locs1 → H1[q9]? = some ce → ce.vm = .none → s.vm.findClass E = some ce.cls → vx_W p l e Rm s m args below meth c H1 locs1 (cells + 1) (slots + 6) Q (F0 m pc ls rest) q9)
    (kk : ∀ (r : Int32) (g1 : Nat → va_E) (H1 : Heap) (locs1 : List Loc), post r g1 → Wd D A s R ad g1 H1 locs1 → W p l e Rm s m args below meth c H1 locs1 (cells + 1) (slots + 6) Q (F0 m (pc + 3) ls (.int r :: rest))) : W p l e Rm s m args below meth c H locs cells slots Q (F0 m pc ls st0) := by
  subst hst
  refine vx_calli (vx_runV (b := ad i) (As := As) (rest := rest) C hM cw ⟨WB.blind, va_recv F.1 hw.1 hc (ww_at i hi he), fun U hU hW => ⟨rfl, WB.make F hw hU hW⟩⟩ rfl rfl hsize rfl (lv_room hW) hdg hf) hw.2.2 (fun q _ h => AA.sub F.2.2 hw q h) (AA.sub F.2.2 hw) (fun q _ h => AA.sub F.2.2 hw q h) (fun E ce q9 u t H1 locs1 ht _ hp hB _ _ hS hce hcv hcl => ?_) (fun r u t H1 locs1 ht _ hp hB _ _ hS => ?_)
  · subst ht
    obtain ⟨rfl, hB⟩ := hB
    exact kx u.1 ce q9 u.2 t.heap locs1 hp ⟨hB.1, hB.2.weaken (fun _ _ _ h => AA.sub F.2.2 hw _ h), hS⟩ hce hcv hcl
  · subst ht
    exact kk r u t.heap locs1 hp ⟨hB.1, hB.2.weaken (fun _ _ _ h => AA.sub F.2.2 hw _ h), hS⟩
theorem k_Xv (C : CallFix p m c cc nL s args GW own) (F : Fx D ca tB tS A s) (hw : Wd D A s R ad g H locs) {y : MethodName} {cc' : ByteArray} {n' : Nat} {ret' : Option FieldType} {rm : Room} {index : Nat} {As : List Value} {post : (Nat → va_E) → Prop} {px : String → (Nat → va_E) → Prop} {i ci : Nat} {fs : List Value} {q : vw_C} {st0 : List Value}
    (hM : vx_Met l y (gws y cc' n' ret') rm (va_Pc (.ref (ad i) :: As) (WB D ca tB tS R ad g H.size)) (va_Qv post (WE D R ad (AA R ad H.size)) (AA R ad H.size)) (XX D R ad (AA R ad H.size) px) 1 6 (AA R ad H.size)) (hi : i < R) (he : g i = .inr (ci, fs)) (hc : vwCl[ci]? = some q)
    (cw : CallW Rm s args own q.1 index y cc' n' ret' (gws y cc' n' ret') rm 1 6 As.length) (hsize : ls.size = nL) (hst : st0 = As.reverse ++ .ref (ad i) :: rest) (hW : (rest.map fun v => v.category).sum ≤ 8) (hdg : decode cc pc = .ok (.invokevirtual index, 3)) (hf : cells + 1 ≤ Rm.cells ∧ slots + 6 ≤ Rm.slots)
    (kx : ∀ (E : String) (ce : Cell) (q9 : Addr) (g1 : Nat → va_E) (H1 : Heap) (locs1 : List Loc), px E g1 → Wd D A s R ad g1 H1 locs1 → H1[q9]? = some ce → ce.vm = .none → s.vm.findClass E = some ce.cls → vx_W p l e Rm s m args below meth c H1 locs1 (cells + 1) (slots + 6) Q (F0 m pc ls rest) q9)
    (kk : ∀ (g1 : Nat → va_E) (H1 : Heap) (locs1 : List Loc), post g1 → Wd D A s R ad g1 H1 locs1 → W p l e Rm s m args below meth c H1 locs1 (cells + 1) (slots + 6) Q (F0 m (pc + 3) ls rest)) : W p l e Rm s m args below meth c H locs cells slots Q (F0 m pc ls st0) := by
  subst hst
  refine vx_callv (vx_runV (b := ad i) (As := As) (rest := rest) C hM cw ⟨WB.blind, va_recv F.1 hw.1 hc (ww_at i hi he), fun U hU hW => ⟨rfl, WB.make F hw hU hW⟩⟩ rfl rfl hsize rfl (lv_room hW) hdg hf) hw.2.2 (fun q _ h => AA.sub F.2.2 hw q h) (AA.sub F.2.2 hw) (fun q _ h => AA.sub F.2.2 hw q h) (fun E ce q9 u t H1 locs1 ht _ hp hB _ _ hS hce hcv hcl => ?_) (fun u t H1 locs1 ht _ hp hB _ _ hS => ?_)
  · subst ht
    obtain ⟨rfl, hB⟩ := hB
    exact kx u.1 ce q9 u.2 t.heap locs1 hp ⟨hB.1, hB.2.weaken (fun _ _ _ h => AA.sub F.2.2 hw _ h), hS⟩ hce hcv hcl
  · subst ht
    exact kk u t.heap locs1 hp ⟨hB.1, hB.2.weaken (fun _ _ _ h => AA.sub F.2.2 hw _ h), hS⟩
theorem k_SW (C : CallFix p m c cc nL s args GW own) (F : Fx D ca tB tS A s) (hw : Wd D A s R ad g H locs) {y : MethodName} {cc' : ByteArray} {n' : Nat} {hh : List (Nat × Nat × Nat × Nat)} {rm : Room} {index : Nat} {As : List Value} {post : Int32 → (Nat → va_E) → Prop} {st0 : List Value}
    (hM : MW l y cc' n' hh rm D ca tB tS R ad g H.size As post)
    (cw : vx_CSW Rm s args own index y cc' n' (some .int) hh (gwsW y cc' n' (some .int) hh) rm 1 6 As.length) (hsize : ls.size = nL) (hst : st0 = As.reverse ++ rest) (hW : (rest.map fun v => v.category).sum ≤ 8) (hdg : decode cc pc = .ok (.invokestatic index, 3)) (hf : cells + 1 ≤ Rm.cells ∧ slots + 6 ≤ Rm.slots)
    (kk : ∀ (r : Int32) (g1 : Nat → va_E) (H1 : Heap) (locs1 : List Loc), post r g1 → Wd D A s R ad g1 H1 locs1 → W p l e Rm s m args below meth c H1 locs1 (cells + 1) (slots + 6) Q (F0 m (pc + 3) ls (.int r :: rest))) : W p l e Rm s m args below meth c H locs cells slots Q (F0 m pc ls st0) := by
  subst hst
  refine va_calli (vx_runSW (As := As) (rest := rest) C hM cw ⟨WB.blind, fun U hU hW => ⟨rfl, WB.make F hw hU hW⟩⟩ rfl rfl hsize rfl (lv_room hW) hdg hf) hw.2.2 (fun q _ h => AA.sub F.2.2 hw q h) (AA.sub F.2.2 hw) (fun r u t H1 locs1 ht _ hp hB _ _ hS => ?_)
  subst ht
  exact kk r u t.heap locs1 hp ⟨hB.1, hB.2.weaken (fun _ _ _ h => AA.sub F.2.2 hw _ h), hS⟩
theorem k_last (C : CallFix p m c cc nL s args GW own) (F : Fx D ca tB tS A s) (hw : Wd D A s R ad g H locs) (i : Nat) {n : Nat} {f : Nat → Int64} (hi : i < R) (he : g i = la ca n f) (j : Nat) (x : Int64) (hj : j < n) (hn : n < 2 ^ 31) (hdg : decode cc pc = .ok (.lastore, 1))
    (kk : ∀ (H1 : Heap) (locs1 : List Loc), Wd D A s R ad (va_up g i (la ca n (vp_updL f j x))) H1 locs1 → W p l e Rm s m args below meth c H1 locs1 cells slots Q (F0 m (pc + 1) ls rest)) : W p l e Rm s m args below meth c H locs cells slots Q (F0 m pc ls (.long x :: .int (nI j) :: .ref (ad i) :: rest)) := by
  refine va_last C.1 C.2.1 F.1 hw.1 hw.2.1 hw.2.2 i 3 (ww_at i hi he) rfl (vp_in_nI hj hn) hdg (fun H1 locs1 h1 h2 h3 => ?_)
  rw [ww_set, nI_clamp (by omega)] at h1 h2
  exact kk H1 locs1 ⟨h1, h2, h3⟩
theorem k_lald (C : CallFix p m c cc nL s args GW own) (F : Fx D ca tB tS A s) (hw : Wd D A s R ad g H locs) (i : Nat) {n : Nat} {f : Nat → Int64} (hi : i < R) (he : g i = la ca n f) (j : Nat) (hj : j < n) (hn : n < 2 ^ 31) (hdg : decode cc pc = .ok (.laload, 1))
    (kk : W p l e Rm s m args below meth c H locs cells slots Q (F0 m (pc + 1) ls (.long (f j) :: rest))) : W p l e Rm s m args below meth c H locs cells slots Q (F0 m pc ls (.int (nI j) :: .ref (ad i) :: rest)) := by
  refine va_lald C.1 C.2.1 F.1 hw.1 i 3 (ww_at i hi he) rfl (vp_in_nI hj hn) hdg ?_
  rw [nI_clamp (by omega)]
  exact kk
theorem k_lcmpE (C : CallFix p m c cc nL s args GW own) {x y : Int64} (h : x = y) (hdg : decode cc pc = .ok (.lcmp, 1))
    (kk : W p l e Rm s m args below meth c H locs cells slots Q (F0 m (pc + 1) ls (.int (nI 0) :: rest))) : W p l e Rm s m args below meth c H locs cells slots Q (F0 m pc ls (.long y :: .long x :: rest)) := by
  subst h
  intro T hT X
  obtain ⟨t, a, b⟩ := kk T hT X
  refine ⟨t, ?_, b⟩
  jvm_step X.here [X.here.top, C.1, C.2.1, hdg]
  exact a
end Wrap
