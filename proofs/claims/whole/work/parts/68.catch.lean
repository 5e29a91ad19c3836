/-! ===== what is thrown is caught: from the model's own steps ===== -/
theorem as_self (vm : Vm) (c : ClassId) : vm.assignable c c = true := by
  show vm.assignableAux (255 + 1) c c = true
  rw [Vm.assignableAux]
  simp
/-- the rows of a table, in which what is called E is caught at h -/
def ctOk (own E : String) (pc : Nat) (s : State) : List ExceptionTableEntry → Nat → Prop
  | [], _ => False
  | x :: t, h => covers x pc = true ∧ x.catchType ≠ 0 ∧ ((Cond.classLink own x.catchType E ∈ GW ∧ h = x.handlerPc) ∨ ((∃ nm, Cond.classLink own x.catchType nm ∈ GW ∧ va_Nc E nm s) ∧ ctOk own E pc s t h))
section Ct
variable {e : Env} {s : State} {own E : String}
/-- one row: its class is resolved, now or before -/
theorem ct_row {E9 : CtlPost} {d : Bool} {acts : List Action} {S : State} {f : JFrame} {a : Addr} {Q : Handler → Pre} {x : ExceptionTableEntry} {t : List ExceptionTableEntry} {cx : ClassId} {ce : Cell} {v1 : Vm} (hx : covers x f.pc = true) (h0 : x.catchType ≠ 0) (hg : (resolveClass f.method.cls x.catchType).Gives e.toSetting S.vm (.ok cx) v1) (hsz : v1.classes.size ≤ S.vm.classes.size) (hce : S.heap[a]? = some ce) (hv : ce.vm = .none) (hk : ∃ k, v1.classes[ce.cls]? = some k) (hc : ∃ k, v1.classes[cx]? = some k) :
    wp (findHandler.go f a (x :: t)) Q E9 e d acts S ↔ if v1.assignable ce.cls cx = true then Q (.found x.handlerPc) d acts (S.setVm v1) else wp (findHandler.go f a t) Q E9 e d acts (S.setVm v1) := by
  simp only [covers] at hx
  obtain ⟨ha, ht⟩ := hg.op (op := VmOp.resolveClass f.method.cls x.catchType) rfl
  have hce' : (S.setVm v1).heap[a]? = some ce := hce
  have hob : ∀ k, ce.vm ≠ .statics k := fun k => by rw [hv]; exact fun h => by cases h
  have hk' : ∃ k, (S.setVm v1).vm.classes[ce.cls]? = some k := hk
  have hc' : ∃ k, (S.setVm v1).vm.classes[cx]? = some k := hc
  cases hfit : v1.assignable ce.cls cx <;> simp [findHandler.go, hx, h0, ha, ht, hsz, hce', hce, hob, hk, hc, hk', hc', hfit, VmOp.dirties, VmOp.acts]
theorem ct_go {m : MethodId} {f : JFrame} {a : Addr} {ce : Cell} (hown : s.vm.findClass own = some m.cls) {args : Array Value} (hts : ∀ w ∈ GW, w.before args s = true) (hpl : e.platform.magicAccessors = ({} : Platform).magicAccessors) (hm : f.method = m) (hv : ce.vm = .none) (hcl : s.vm.findClass E = some ce.cls) : ∀ (rows : List ExceptionTableEntry) (h : Nat) (S : State), s.WarmedH S.vm → S.heap[a]? = some ce → ctOk own E f.pc s rows h → ∃ v1 : Vm, s.WarmedH v1 ∧ ∀ (Q : Handler → Pre) (E9 : CtlPost) (d : Bool) (acts : List Action), wp (findHandler.go f a rows) Q E9 e d acts S ↔ Q (.found h) d acts (S.setVm v1)
  | [], _, _, _, _, hok => hok.elim
  | x :: t, h, S, hW, hce, ⟨hx, h0, hok⟩ => by
    have hnm : ∃ nm, Cond.classLink own x.catchType nm ∈ GW := by
      rcases hok with hok | ⟨⟨nm, h1, -⟩, -⟩
      · exact ⟨E, hok.1⟩
      · exact ⟨nm, h1⟩
    have key : ∀ nm, Cond.classLink own x.catchType nm ∈ GW → ∃ (cx : ClassId) (v1 : Vm), s.vm.findClass nm = some cx ∧ s.WarmedH v1 ∧ ∀ (Q : Handler → Pre) (E9 : CtlPost) (d : Bool) (acts : List Action), wp (findHandler.go f a (x :: t)) Q E9 e d acts S ↔ if v1.assignable ce.cls cx = true then Q (.found x.handlerPc) d acts (S.setVm v1) else wp (findHandler.go f a t) Q E9 e d acts (S.setVm v1) := fun nm hl => by
      obtain ⟨cx, hf, hlk⟩ := Cond.classLink_spec hown (hts _ hl) e.platform hpl
      obtain ⟨hgv, hwm, -⟩ := State.classEntry (e := e) hW hlk
      refine ⟨cx, S.vm.noted m.cls x.catchType (.cls cx), hf, hwm, fun Q E9 d acts => ?_⟩
      have hfa : (S.vm.noted m.cls x.catchType (.cls cx)).findClass E = some ce.cls := by rw [hwm.alike.findClass]; exact hcl
      have hfb : (S.vm.noted m.cls x.catchType (.cls cx)).findClass nm = some cx := by rw [hwm.alike.findClass]; exact hf
      exact ct_row hx h0 (by rw [hm]; exact hgv) (by no_record) hce hv (Vm.classAt_of_findClass hfa) (Vm.classAt_of_findClass hfb)
    rcases hok with ⟨hl, rfl⟩ | ⟨⟨nm, hl, hnc⟩, hok⟩
    · obtain ⟨cx, v1, hf, hwm, hq⟩ := key E hl
      cases Option.some.inj (hf.symm.trans hcl)
      refine ⟨v1, hwm, fun Q E9 d acts => ?_⟩
      rw [hq Q E9 d acts, if_pos (as_self _ _)]
    · obtain ⟨cx, v1, hf, hwm, hq⟩ := key nm hl
      obtain ⟨c8, t8, h1, h2, h3⟩ := hnc
      cases Option.some.inj (h1.symm.trans hcl)
      cases Option.some.inj (h2.symm.trans hf)
      obtain ⟨v2, hw2, hq2⟩ := ct_go hown hts hpl hm hv hcl t h (S.setVm v1) hwm hce hok
      refine ⟨v2, hw2, fun Q E9 d acts => ?_⟩
      have hno : ¬ v1.assignable ce.cls cx = true := by rw [hwm.alike.assignable, h3]; decide
      rw [hq Q E9 d acts, if_neg hno, hq2 Q E9 d acts]
      rfl
end Ct
section CtW
variable {p : Program} {l : Launch} {e : Env} {Rm : Room} {s : State} {m : MethodId} {args : Array Value} {below : List Frame} {meth : Method} {c : Code} {H : Heap} {locs : List Loc} {cells slots : Nat} {Q : State → Prop} {pc : Nat} {ls : Array Slot} {rest : List Value} {own E : String}
theorem ct_steps {tb : Tables} {T target : State} {g : JFrame} {a : Addr} {h : Nat} {v1 : Vm} (hat : At T g.method c below) (hf : ∀ (Q : Handler → Pre) (E9 : CtlPost) (d : Bool) (acts : List Action), wp (findHandler g a) Q E9 e d acts ((T.setTop g).pushFrame (.throwing a)) ↔ Q (.found h) d acts (((T.setTop g).pushFrame (.throwing a)).setVm v1))
    (hrest : Steps tb e below ((T.setVm v1).setTop { g with pc := h, stack := [.ref a] }) target) : Steps tb e below ((T.setTop g).pushFrame (.throwing a)) target := by
  obtain ⟨hgo, hwi⟩ := hat.throwing a
  refine Steps.head hgo hwi ?_
  have hst : (stepThrowing e ((T.setTop g).pushFrame (.throwing a)) a (.java g :: T.frames.tail)).Is ((((T.setTop g).pushFrame (.throwing a)).setVm v1).setFrames (.java { g with pc := h, stack := [.ref a] } :: T.frames.tail)) [] := by
    simp only [stepThrowing, searchFrame, vmDo]
    generalize hr : Sem.go _ e false [] ((T.setTop g).pushFrame (.throwing a)) = res
    obtain ⟨as, rfl, ha⟩ := Sem.eq_ok_of hr (a := Handler.found h) (s' := ((T.setTop g).pushFrame (.throwing a)).setVm v1) (acts' := []) (by simp [hf _ _ _ _])
    exact ⟨rfl, ha⟩
  obtain ⟨g0, hg0⟩ := Option.isSome_iff_exists.mp hat.top
  obtain ⟨r, hr⟩ := State.topJava?_eq_some.mp hg0
  have htl : T.frames.tail = r := by rw [hr]; rfl
  rw [stepThread_throwing (frames_entered hat.top _), htl]
  rw [htl] at hst
  rw [hst.1]
  have hr1 : (T.setVm v1).frames = .java g0 :: r := hr
  rw [State.setTop_of_frames _ hr1] at hrest
  rw [State.pushFrame, State.setTop_of_frames _ hr]
  show Steps tb e below ((((T.setVm v1).setFrames (.java g :: r)).setFrames (.throwing a :: (T.setFrames (.java g :: r)).frames)).setFrames (.java { g with pc := h, stack := [.ref a] } :: r)) target
  rw [State.setFrames_setFrames, State.setFrames_setFrames]
  exact hrest
/-- caught by a row of the method's own table -/
theorem ct_w {cc : ByteArray} {nL : Nat} (C : CallFix p m c cc nL s args GW own) {ce : Cell} {q : Addr} {h : Nat} (hok : ctOk own E pc s c.exceptionTable.toList h) (hcell : H[q]? = some ce) (hv : ce.vm = .none) (hcl : s.vm.findClass E = some ce.cls)
    (kk : W p l e Rm s m args below meth c H locs cells slots Q (F0 m h ls [.ref q])) : vx_W p l e Rm s m args below meth c H locs cells slots Q (F0 m pc ls rest) q := by
  intro T hT X
  have hpl : e.platform.magicAccessors = ({} : Platform).magicAccessors := by rw [X.admits.platform]
  have hW : s.WarmedH ((T.setTop (F0 m pc ls rest)).pushFrame (.throwing q)).vm := X.warmed
  obtain ⟨v1, hw1, hq⟩ := ct_go (e := e) (f := F0 m pc ls rest) (a := q) C.2.2.2.1 C.2.2.2.2 hpl rfl hv hcl c.exceptionTable.toList h ((T.setTop (F0 m pc ls rest)).pushFrame (.throwing q)) hW (by show T.heap[q]? = _; rw [hT]; exact hcell) hok
  obtain ⟨t, a1, b1⟩ := kk (T.setVm v1) hT (X.noted hw1)
  refine ⟨t, ct_steps (v1 := v1) (h := h) X.here (fun Q E9 d acts => ?_) a1, b1⟩
  have hmm : ((T.setTop (F0 m pc ls rest)).pushFrame (.throwing q)).vm.method? (F0 m pc ls rest).method = some meth := X.method'
  rw [W.findHandler_eq hmm X.code]
  exact hq Q E9 d acts
end CtW
