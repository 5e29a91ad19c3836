/-! ===== contracts over the world by roles, and their starts ===== -/
abbrev MV (l : Launch) (y : MethodName) (cc : ByteArray) (n : Nat) (rm : Room) (D : va_G) (ca : Nat → ClassId) (tB tS R : Nat) (ad : Nat → Nat) (g : Nat → va_E) (sz : Nat) (av : List Value) (post : (Nat → va_E) → Prop) : Prop :=
  Met l y (gws y cc n none) rm (va_Pc av (WB D ca tB tS R ad g sz)) (va_Qv post (WE D R ad (AA R ad sz)) (AA R ad sz)) 0 0 (AA R ad sz)
abbrev MI (l : Launch) (y : MethodName) (cc : ByteArray) (n : Nat) (ret : FieldType) (rm : Room) (D : va_G) (ca : Nat → ClassId) (tB tS R : Nat) (ad : Nat → Nat) (g : Nat → va_E) (sz : Nat) (av : List Value) (post : Int32 → (Nat → va_E) → Prop) : Prop :=
  Met l y (gws y cc n (some ret)) rm (va_Pc av (WB D ca tB tS R ad g sz)) (va_Qi post (WE D R ad (AA R ad sz)) (AA R ad sz)) 0 0 (AA R ad sz)
abbrev ML (l : Launch) (y : MethodName) (cc : ByteArray) (n : Nat) (rm : Room) (D : va_G) (ca : Nat → ClassId) (tB tS R : Nat) (ad : Nat → Nat) (g : Nat → va_E) (sz : Nat) (av : List Value) (post : Int64 → (Nat → va_E) → Prop) : Prop :=
  Met l y (gws y cc n (some .long)) rm (va_Pc av (WB D ca tB tS R ad g sz)) (va_Ql post (WE D R ad (AA R ad sz)) (AA R ad sz)) 0 0 (AA R ad sz)
section Starts
variable {l : Launch} {y : MethodName} {cc : ByteArray} {n : Nat} {rm : Room} {D : va_G} {ca : Nat → ClassId} {tB tS R : Nat} {ad : Nat → Nat} {g : Nat → va_E} {sz : Nat} {av : List Value}
theorem m_startV {post : (Nat → va_E) → Prop} (hy : plainFor y = true) (hlen : (lg_sl av).length ≤ n)
    (body : ∀ (p : Program) (e : Env) (s : State) (m : MethodId) (args : Array Value) (below : List Frame) (meth : Method) (c : Code) (ls : Array Slot) (Q : State → Prop), s.heap.size = sz → CallFix p m c cc n s args GW y.cls → meth.name = y.name → lv_has ls n (lv_args 0 av) → Fx D ca tB tS (AA R ad sz) s → Wd D (AA R ad sz) s R ad g s.heap [] →
      (∀ (H : Heap) (locs : List Loc) (ls : Array Slot) (pc : Nat) (g1 : Nat → va_E), decode cc pc = .ok (.return_, 1) → Wd D (AA R ad sz) s R ad g1 H locs → post g1 → W p l e rm s m args below meth c H locs 0 0 Q (F0 m pc ls [])) →
      W p l e rm s m args below meth c s.heap [] 0 0 Q (F0 m 0 ls [])) : MV l y cc n rm D ca tB tS R ad g sz av post :=
  m_start hy hlen (fun p e s m below meth c ls hsz C hr hlocks hnm hl F hw => body p e s m _ below meth c ls _ hsz C hnm hl F hw (fun H locs ls pc g1 hd h1 hp => m_vret C hr hlocks h1 hd hp))
theorem m_startI {post : Int32 → (Nat → va_E) → Prop} (hy : plainFor y = true) (hlen : (lg_sl av).length ≤ n)
    (body : ∀ (p : Program) (e : Env) (s : State) (m : MethodId) (args : Array Value) (below : List Frame) (meth : Method) (c : Code) (ls : Array Slot) (Q : State → Prop), s.heap.size = sz → CallFix p m c cc n s args GW y.cls → lv_has ls n (lv_args 0 av) → Fx D ca tB tS (AA R ad sz) s → Wd D (AA R ad sz) s R ad g s.heap [] →
      (∀ (H : Heap) (locs : List Loc) (ls : Array Slot) (pc : Nat) (v : Int32) (g1 : Nat → va_E), decode cc pc = .ok (.ireturn, 1) → Wd D (AA R ad sz) s R ad g1 H locs → post v g1 → W p l e rm s m args below meth c H locs 0 0 Q (F0 m pc ls [.int v])) →
      W p l e rm s m args below meth c s.heap [] 0 0 Q (F0 m 0 ls [])) : MI l y cc n .int rm D ca tB tS R ad g sz av post :=
  m_start hy hlen (fun p e s m below meth c ls hsz C hr hlocks hnm hl F hw => body p e s m _ below meth c ls _ hsz C hl F hw (fun H locs ls pc v g1 hd h1 hp => m_iret C hr hlocks h1 hd hp))
theorem m_startZ {post : Int32 → (Nat → va_E) → Prop} (hy : plainFor y = true) (hlen : (lg_sl av).length ≤ n)
    (body : ∀ (p : Program) (e : Env) (s : State) (m : MethodId) (args : Array Value) (below : List Frame) (meth : Method) (c : Code) (ls : Array Slot) (Q : State → Prop), s.heap.size = sz → CallFix p m c cc n s args GW y.cls → lv_has ls n (lv_args 0 av) → Fx D ca tB tS (AA R ad sz) s → Wd D (AA R ad sz) s R ad g s.heap [] →
      (∀ (H : Heap) (locs : List Loc) (ls : Array Slot) (pc : Nat) (b : Bool) (v : Int32) (g1 : Nat → va_E), decode cc pc = .ok (.ireturn, 1) → Wd D (AA R ad sz) s R ad g1 H locs → v = bI b → post (bI b) g1 → W p l e rm s m args below meth c H locs 0 0 Q (F0 m pc ls [.int v])) →
      W p l e rm s m args below meth c s.heap [] 0 0 Q (F0 m 0 ls [])) : MI l y cc n .boolean rm D ca tB tS R ad g sz av post :=
  m_start hy hlen (fun p e s m below meth c ls hsz C hr hlocks hnm hl F hw => body p e s m _ below meth c ls _ hsz C hl F hw (fun H locs ls pc b v g1 hd h1 hv hp => m_zret C hr hlocks h1 hd hv (by rw [hv]; exact hp)))
theorem m_startL {post : Int64 → (Nat → va_E) → Prop} (hy : plainFor y = true) (hlen : (lg_sl av).length ≤ n)
    (body : ∀ (p : Program) (e : Env) (s : State) (m : MethodId) (args : Array Value) (below : List Frame) (meth : Method) (c : Code) (ls : Array Slot) (Q : State → Prop), s.heap.size = sz → CallFix p m c cc n s args GW y.cls → lv_has ls n (lv_args 0 av) → Fx D ca tB tS (AA R ad sz) s → Wd D (AA R ad sz) s R ad g s.heap [] →
      (∀ (H : Heap) (locs : List Loc) (ls : Array Slot) (pc : Nat) (v : Int64) (g1 : Nat → va_E), decode cc pc = .ok (.lreturn, 1) → Wd D (AA R ad sz) s R ad g1 H locs → post v g1 → W p l e rm s m args below meth c H locs 0 0 Q (F0 m pc ls [.long v])) →
      W p l e rm s m args below meth c s.heap [] 0 0 Q (F0 m 0 ls [])) : ML l y cc n rm D ca tB tS R ad g sz av post :=
  m_start hy hlen (fun p e s m below meth c ls hsz C hr hlocks hnm hl F hw => body p e s m _ below meth c ls _ hsz C hl F hw (fun H locs ls pc v g1 hd h1 hp => m_lret C hr hlocks h1 hd hp))
end Starts
/-- a loop by a counter: what n rounds make of a -/
def fr {α : Type} (step : Nat → α → α) : Nat → α → α
  | 0, a => a
  | n + 1, a => step n (fr step n a)
