/-! ===== methods that may throw ===== -/
def xNs : List String := ["java/lang/RuntimeException", "java/lang/Exception"]
def XX (D : va_G) (R : Nat) (ad : Nat → Nat) (A : Nat → Prop) (px : String → (Nat → va_E) → Prop) : String → State → State → Prop := vx_X (fun u : String × (Nat → va_E) => px u.1 u.2) (fun E u t => E = u.1 ∧ WE D R ad A u.2 t) A
abbrev XMI (l : Launch) (y : MethodName) (cc : ByteArray) (n : Nat) (ret : FieldType) (rm : Room) (D : va_G) (ca : Nat → ClassId) (tB tS R : Nat) (ad : Nat → Nat) (g : Nat → va_E) (sz : Nat) (av : List Value) (post : Int32 → (Nat → va_E) → Prop) (px : String → (Nat → va_E) → Prop) : Prop :=
  vx_Met l y (gws y cc n (some ret)) rm (va_Pc av (WB D ca tB tS R ad g sz)) (va_Qi post (WE D R ad (AA R ad sz)) (AA R ad sz)) (XX D R ad (AA R ad sz) px) 1 6 (AA R ad sz)
abbrev XMV (l : Launch) (y : MethodName) (cc : ByteArray) (n : Nat) (rm : Room) (D : va_G) (ca : Nat → ClassId) (tB tS R : Nat) (ad : Nat → Nat) (g : Nat → va_E) (sz : Nat) (av : List Value) (post : (Nat → va_E) → Prop) (px : String → (Nat → va_E) → Prop) : Prop :=
  vx_Met l y (gws y cc n none) rm (va_Pc av (WB D ca tB tS R ad g sz)) (va_Qv post (WE D R ad (AA R ad sz)) (AA R ad sz)) (XX D R ad (AA R ad sz) px) 1 6 (AA R ad sz)
def TW (own cls : String) (ik ic : Nat) : Prop := Bundle.fit cls = true ∧ Cond.classLink own ik cls ∈ GW ∧ Cond.initialized cls ∈ GW ∧ (∀ w ∈ vx_at0 own ic cls xNs, w ∈ GW ∨ w ∈ NW) ∧ ∀ w ∈ Cond.classLink own ik cls :: Cond.initialized cls :: vx_at0 own ic cls xNs, vx_ot w = true
theorem nw_tab {w : Cond} (h : w ∈ NW) : w.onTables = true := by
  have hn := (List.mem_filter.mp h).2
  cases w <;> first | rfl | cases hn
theorem xNs_fit : ∀ n ∈ xNs, Bundle.fit n = true := by decide +kernel
theorem tw_U : TW RX7 xU 66 68 := ⟨by decide +kernel, by decide +kernel, by decide +kernel, by decide +kernel, by decide +kernel⟩
theorem tw_A : TW RX7 xA 77 79 := ⟨by decide +kernel, by decide +kernel, by decide +kernel, by decide +kernel, by decide +kernel⟩
theorem tw_I : TW RX7 xI 101 103 := ⟨by decide +kernel, by decide +kernel, by decide +kernel, by decide +kernel, by decide +kernel⟩
theorem tw_O : TW RX7 xO 110 112 := ⟨by decide +kernel, by decide +kernel, by decide +kernel, by decide +kernel, by decide +kernel⟩
section Throws
variable {p : Program} {l : Launch} {e : Env} {Rm : Room} {s : State} {m : MethodId} {args : Array Value} {below : List Frame} {meth : Method} {c : Code} {H : Heap} {locs : List Loc} {cells slots : Nat} {Q : State → Prop}
variable {cc : ByteArray} {nL pc : Nat} {own : String} {ls : Array Slot} {rest : List Value} {D : va_G} {ca : Nat → ClassId} {tB tS : Nat} {A : Nat → Prop} {R : Nat} {ad : Nat → Nat} {g : Nat → va_E}
theorem k_throw {Qc : Array Value → State → Outcome → State → Prop} {px : String → (Nat → va_E) → Prop} {cls : String} {ik ic mc ms : Nat} (C : CallFix p m c cc nL s args GW own) (F : Fx D ca tB tS A s) (hw : Wd D A s R ad g H locs) (hlt : l.stackTraces = false) (hlocks : meth.locks = false) (hno : ∀ x ∈ c.exceptionTable.toList, False) (T : TW own cls ik ic) (hls : ls.size = nL)
    (d0 : decode cc pc = .ok (.new ik, 3)) (d3 : decode cc (pc + 3) = .ok (.dup, 1)) (d4 : decode cc (pc + 4) = .ok (.invokespecial ic, 3)) (d7 : decode cc (pc + 7) = .ok (.athrow, 1)) (hfr : 5 < Rm.frames) (hlo : (rest.map fun v => v.category).sum + 81 ≤ Rm.locals) (hce : cells + 1 ≤ Rm.cells) (hsl : slots + 6 ≤ Rm.slots) (hc : cells + 1 ≤ mc) (hs : slots + 6 ≤ ms) (hp : px cls g) :
    W p l e Rm s m args below meth c H locs cells slots (vx_MQ below Qc (XX D R ad A px) args s mc ms A) (F0 m pc ls rest) := by
  refine vx_throw0 (names := xNs) (A := A) C.1 C.2.1 hlt C.2.2.2.1 T.1 xNs_fit (C.2.2.2.2 _ T.2.1) (C.2.2.2.2 _ T.2.2.1) (fun w hw' => ?_) T.2.2.2.2 F.2.1.2.2.2.1 F.2.1.2.2.2.2.1 hw.2.2 (hls.trans C.2.2.1.symm) d0 d3 d4 d7 (fun x hx => absurd trivial (fun _ => hno x hx)) hfr hlo hce hsl hlocks (fun t ha hz hk => ?_) hw.2.2.2.2 hc hs
  · rcases T.2.2.2.1 w hw' with h | h
    · exact C.2.2.2.2 _ h
    · exact va_Nw.use (nw_tab h) (F.2.1.1 _ h)
  · refine ⟨(cls, g), hp, ⟨rfl, hw.1.kept (fun k q hq => hk _ (hw.1 k q hq).lt), hw.2.1⟩, Nat.le_trans hw.2.2.1 hz, fun q h1 h2 => ?_⟩
    rw [hk q (Nat.lt_of_lt_of_le h1 hw.2.2.1)]
    exact hw.2.2.2.1 q h1 h2
theorem x_start {y : MethodName} {ret : Option FieldType} {rm : Room} {av : List Value} {sz : Nat} {Qc : Array Value → State → Outcome → State → Prop} {XC : String → State → State → Prop} {mc ms : Nat} {free : Addr → Prop} {n : Nat}
    (hy : plainName y.cls = true) (hlen : (lg_sl av).length ≤ n)
    (body : ∀ (p : Program) (e : Env) (s : State) (m : MethodId) (below : List Frame) (meth : Method) (c : Code) (ls : Array Slot), s.heap.size = sz → CallFix p m c cc n s av.toArray GW y.cls → meth.sig.returnType = ret → meth.locks = false → (∀ x ∈ c.exceptionTable.toList, False) → lv_has ls n (lv_args 0 av) → Fx D ca tB tS (AA R ad sz) s → Wd D (AA R ad sz) s R ad g s.heap [] →
      W p l e rm s m av.toArray below meth c s.heap [] 0 0 (vx_MQ below Qc XC av.toArray s mc ms free) (F0 m 0 ls [])) :
    vx_Met l y (gws y cc n ret) rm (va_Pc av (WB D ca tB tS R ad g sz)) Qc XC mc ms free := by
  refine vx_ofW (cc := cc) (maxL := n) (ret := ret) hy rfl ?_
  intro p e s m args below meth c s₁ B hml hno hv
  obtain ⟨rfl, hsz, hP, hK, hD, hE⟩ := hv
  have hts := atoms_spec (ws := gws y cc n ret) B.pre
  have hown : s.vm.findClass y.cls = some m.cls := findClass_of_methodNamed B.named
  rw [lg_entry_eq]
  exact body p e s m below meth c _ hsz ⟨B.exec, B.bytes, hml, hown, fun w hw => hts w (List.mem_cons_of_mem _ hw)⟩ B.returns B.notSynchronized hno (lv_entry av hlen) ⟨hK, hE, fun q h => Or.inr (by rw [← hsz]; exact h)⟩ ⟨hP, hD, va_S.rf⟩
/-- a throw, as the walk of a method sees it -/
def Thr (p : Program) (l : Launch) (e : Env) (rm : Room) (s : State) (m : MethodId) (args : Array Value) (below : List Frame) (meth : Method) (c : Code) (cc : ByteArray) (n : Nat) (own : String) (D : va_G) (A : Nat → Prop) (R : Nat) (ad : Nat → Nat) (px : String → (Nat → va_E) → Prop) (Q : State → Prop) : Prop :=
  ∀ (H : Heap) (locs : List Loc) (ls : Array Slot) (pc : Nat) (rest : List Value) (g1 : Nat → va_E) (cls : String) (ik ic : Nat), TW own cls ik ic → Wd D A s R ad g1 H locs → ls.size = n → decode cc pc = .ok (.new ik, 3) → decode cc (pc + 3) = .ok (.dup, 1) → decode cc (pc + 4) = .ok (.invokespecial ic, 3) → decode cc (pc + 7) = .ok (.athrow, 1) → 5 < rm.frames → (rest.map fun v => v.category).sum + 81 ≤ rm.locals → 1 ≤ rm.cells → 6 ≤ rm.slots → px cls g1 → W p l e rm s m args below meth c H locs 0 0 Q (F0 m pc ls rest)
theorem x_startI {y : MethodName} {rm : Room} {av : List Value} {sz : Nat} {n : Nat} {post : Int32 → (Nat → va_E) → Prop} {px : String → (Nat → va_E) → Prop} (hlt : l.stackTraces = false) (hy : plainName y.cls = true) (hlen : (lg_sl av).length ≤ n)
    (body : ∀ (p : Program) (e : Env) (s : State) (m : MethodId) (args : Array Value) (below : List Frame) (meth : Method) (c : Code) (ls : Array Slot) (Q : State → Prop), s.heap.size = sz → CallFix p m c cc n s args GW y.cls → lv_has ls n (lv_args 0 av) → Fx D ca tB tS (AA R ad sz) s → Wd D (AA R ad sz) s R ad g s.heap [] →
      (∀ (H : Heap) (locs : List Loc) (ls : Array Slot) (pc : Nat) (v : Int32) (g1 : Nat → va_E), decode cc pc = .ok (.ireturn, 1) → Wd D (AA R ad sz) s R ad g1 H locs → post v g1 → W p l e rm s m args below meth c H locs 0 0 Q (F0 m pc ls [.int v])) →
      Thr p l e rm s m args below meth c cc n y.cls D (AA R ad sz) R ad px Q →
      W p l e rm s m args below meth c s.heap [] 0 0 Q (F0 m 0 ls [])) : XMI l y cc n .int rm D ca tB tS R ad g sz av post px :=
  x_start hy hlen (fun p e s m below meth c ls hsz C hr hlocks hno hl F hw => body p e s m _ below meth c ls _ hsz C hl F hw (fun H locs ls pc v g1 hd h1 hp => vx_ret (W.widen (k := 1) (n := 6) (by decide) (by decide) (m_iret C hr hlocks h1 hd hp))) (fun H locs ls pc rest g1 cls ik ic T h1 hls d0 d3 d4 d7 hfr hlo hce hsl hp => k_throw C F h1 hlt hlocks hno T hls d0 d3 d4 d7 hfr hlo (by omega) (by omega) (by decide) (by decide) hp))
theorem x_startZ {y : MethodName} {rm : Room} {av : List Value} {sz : Nat} {n : Nat} {post : Int32 → (Nat → va_E) → Prop} {px : String → (Nat → va_E) → Prop} (hlt : l.stackTraces = false) (hy : plainName y.cls = true) (hlen : (lg_sl av).length ≤ n)
    (body : ∀ (p : Program) (e : Env) (s : State) (m : MethodId) (args : Array Value) (below : List Frame) (meth : Method) (c : Code) (ls : Array Slot) (Q : State → Prop), s.heap.size = sz → CallFix p m c cc n s args GW y.cls → lv_has ls n (lv_args 0 av) → Fx D ca tB tS (AA R ad sz) s → Wd D (AA R ad sz) s R ad g s.heap [] →
      (∀ (H : Heap) (locs : List Loc) (ls : Array Slot) (pc : Nat) (b : Bool) (v : Int32) (g1 : Nat → va_E), decode cc pc = .ok (.ireturn, 1) → Wd D (AA R ad sz) s R ad g1 H locs → v = bI b → post (bI b) g1 → W p l e rm s m args below meth c H locs 0 0 Q (F0 m pc ls [.int v])) →
      Thr p l e rm s m args below meth c cc n y.cls D (AA R ad sz) R ad px Q →
      W p l e rm s m args below meth c s.heap [] 0 0 Q (F0 m 0 ls [])) : XMI l y cc n .boolean rm D ca tB tS R ad g sz av post px :=
  x_start hy hlen (fun p e s m below meth c ls hsz C hr hlocks hno hl F hw => body p e s m _ below meth c ls _ hsz C hl F hw (fun H locs ls pc b v g1 hd h1 hv hp => vx_ret (W.widen (k := 1) (n := 6) (by decide) (by decide) (m_zret C hr hlocks h1 hd hv (by rw [hv]; exact hp)))) (fun H locs ls pc rest g1 cls ik ic T h1 hls d0 d3 d4 d7 hfr hlo hce hsl hp => k_throw C F h1 hlt hlocks hno T hls d0 d3 d4 d7 hfr hlo (by omega) (by omega) (by decide) (by decide) hp))
theorem x_startV {y : MethodName} {rm : Room} {av : List Value} {sz : Nat} {n : Nat} {post : (Nat → va_E) → Prop} {px : String → (Nat → va_E) → Prop} (hlt : l.stackTraces = false) (hy : plainName y.cls = true) (hlen : (lg_sl av).length ≤ n)
    (body : ∀ (p : Program) (e : Env) (s : State) (m : MethodId) (args : Array Value) (below : List Frame) (meth : Method) (c : Code) (ls : Array Slot) (Q : State → Prop), s.heap.size = sz → CallFix p m c cc n s args GW y.cls → lv_has ls n (lv_args 0 av) → Fx D ca tB tS (AA R ad sz) s → Wd D (AA R ad sz) s R ad g s.heap [] →
      (∀ (H : Heap) (locs : List Loc) (ls : Array Slot) (pc : Nat) (g1 : Nat → va_E), decode cc pc = .ok (.return_, 1) → Wd D (AA R ad sz) s R ad g1 H locs → post g1 → W p l e rm s m args below meth c H locs 0 0 Q (F0 m pc ls [])) →
      Thr p l e rm s m args below meth c cc n y.cls D (AA R ad sz) R ad px Q →
      W p l e rm s m args below meth c s.heap [] 0 0 Q (F0 m 0 ls [])) : XMV l y cc n rm D ca tB tS R ad g sz av post px :=
  x_start hy hlen (fun p e s m below meth c ls hsz C hr hlocks hno hl F hw => body p e s m _ below meth c ls _ hsz C hl F hw (fun H locs ls pc g1 hd h1 hp => vx_ret (W.widen (k := 1) (n := 6) (by decide) (by decide) (m_vret C hr hlocks h1 hd hp))) (fun H locs ls pc rest g1 cls ik ic T h1 hls d0 d3 d4 d7 hfr hlo hce hsl hp => k_throw C F h1 hlt hlocks hno T hls d0 d3 d4 d7 hfr hlo (by omega) (by omega) (by decide) (by decide) hp))
end Throws
