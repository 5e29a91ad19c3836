/-! ===== THE LAYER: one world by roles (role i lies at the address ad i and holds g i), one list of words for all methods ===== -/
def GW : List Cond := lw_tbl.filter goodWord
theorem gw_in {w : Cond} (i : Nat) (h : lw_tbl[i]? = some w) (hg : goodWord w = true) : w ∈ GW := List.mem_filter.mpr ⟨List.mem_of_getElem? h, hg⟩
theorem gw_good {w : Cond} (h : w ∈ GW) : (w.onTables && w.keeps) = true ∨ ∃ ty, w = .arrayClass ty := good_of_word (List.mem_filter.mp h).2
def gws (y : MethodName) (cc : ByteArray) (n : Nat) (ret : Option FieldType) : List Cond := Cond.code y cc n ret :: GW
theorem good_g {y : MethodName} {cc : ByteArray} {n : Nat} {ret : Option FieldType} (h5 : Cond.code y cc n ret ∈ GW) : GoodIn GW (gws y cc n ret) := fun w hw => by
  have h : w ∈ GW := (List.mem_cons.mp hw).elim (fun e => e ▸ h5) id
  exact ⟨h, gw_good h⟩
theorem good_V {own : String} {idx : Nat} {C : String} {y : MethodName} {cc : ByteArray} {n : Nat} {ret : Option FieldType} (h1 : Cond.methodLink own idx y ∈ GW) (h2 : Cond.instanceMethod y ∈ GW) (h3 : Cond.selects C y y ∈ GW) (h4 : Cond.initialized C ∈ GW) (h5 : Cond.code y cc n ret ∈ GW) : GoodIn GW (wsV own idx C y (gws y cc n ret)) := fun w hw => by
  rcases List.mem_append.mp hw with h | h
  · have h : w ∈ GW := by
      simp only [List.mem_cons, List.not_mem_nil, or_false] at h
      rcases h with rfl | rfl | rfl | rfl <;> assumption
    exact ⟨h, gw_good h⟩
  · exact good_g h5 w h
theorem good_S {own : String} {idx : Nat} {y : MethodName} {cc : ByteArray} {n : Nat} {ret : Option FieldType} (h1 : Cond.methodLink own idx y ∈ GW) (h2 : Cond.static y ∈ GW) (h4 : Cond.initialized y.cls ∈ GW) (h5 : Cond.code y cc n ret ∈ GW) : GoodIn GW (va_wsS own idx y (gws y cc n ret)) := fun w hw => by
  rcases List.mem_append.mp hw with h | h
  · have h : w ∈ GW := by
      simp only [List.mem_cons, List.not_mem_nil, or_false] at h
      rcases h with rfl | rfl | rfl <;> assumption
    exact ⟨h, gw_good h⟩
  · exact good_g h5 w h
/-! the world -/
def ww (R : Nat) (ad : Nat → Nat) (g : Nat → va_E) : va_W := (List.range R).map (fun i => (ad i, g i))
theorem ww_len (R : Nat) (ad : Nat → Nat) (g : Nat → va_E) : (ww R ad g).length = R := by simp [ww]
theorem ww_at {R : Nat} {ad : Nat → Nat} {g : Nat → va_E} {e : va_E} (i : Nat) (h : i < R) (he : g i = e) : (ww R ad g)[i]? = some (ad i, e) := by
  subst he
  simp [ww, h]
theorem ww_of {R : Nat} {ad : Nat → Nat} {g : Nat → va_E} {k : Nat} {q : Nat × va_E} (h : (ww R ad g)[k]? = some q) : k < R ∧ q = (ad k, g k) := by
  have hk : k < R := by
    have := (List.getElem?_eq_some_iff.mp h).1
    rwa [ww_len] at this
  rw [ww_at k hk rfl] at h
  exact ⟨hk, (Option.some.inj h).symm⟩
theorem ww_set {R : Nat} {ad : Nat → Nat} {g : Nat → va_E} (i : Nat) (e : va_E) : (ww R ad g).set i (ad i, e) = ww R ad (va_up g i e) := by
  apply List.ext_getElem?
  intro j
  by_cases hR : j < R
  · by_cases hj : j = i
    · subst hj
      rw [List.getElem?_set_self (by rw [ww_len]; exact hR), ww_at j hR (va_up_self g j e)]
    · rw [List.getElem?_set_ne (Ne.symm hj), ww_at j hR rfl, ww_at j hR (va_up_ne g e hj)]
  · rw [List.getElem?_eq_none (by rw [List.length_set, ww_len]; omega), List.getElem?_eq_none (by rw [ww_len]; omega)]
theorem ww_push {R : Nat} {ad : Nat → Nat} {g : Nat → va_E} (q : Nat) (e : va_E) : ww R ad g ++ [(q, e)] = ww (R + 1) (va_up ad R q) (va_up g R e) := by
  unfold ww
  rw [List.range_succ, List.map_append]
  congr 1
  · apply List.map_congr_left
    intro j hj
    have : j ≠ R := by have := List.mem_range.mp hj; omega
    rw [va_up_ne _ _ this, va_up_ne _ _ this]
  · simp [va_up]
theorem ww_congr {R : Nat} {ad ad' : Nat → Nat} {g g' : Nat → va_E} (h1 : ∀ i, i < R → ad i = ad' i) (h : ∀ i, i < R → g i = g' i) : ww R ad g = ww R ad' g' := by
  unfold ww
  apply List.map_congr_left
  intro j hj
  have := List.mem_range.mp hj
  rw [h j this, h1 j this]
def AA (R : Nat) (ad : Nat → Nat) (sz : Nat) : Nat → Prop := fun q => (∃ i, i < R ∧ q = ad i) ∨ sz ≤ q
theorem ww_self {R : Nat} {ad : Nat → Nat} {g : Nat → va_E} {A : Nat → Prop} {sz : Nat} (h : va_D A (ww R ad g)) : va_D (AA R ad sz) (ww R ad g) := ⟨h.1, fun k q hk => by
  obtain ⟨h1, rfl⟩ := ww_of hk
  exact Or.inl ⟨k, h1, rfl⟩⟩
abbrev tysOf (ca : Nat → ClassId) : List (ClassId × FieldType) := [(ca 0, .int), (ca 1, .byte), (ca 2, .boolean), (ca 3, .long), (ca 4, .array .int)]
abbrev ia (ca : Nat → ClassId) (n : Nat) (f : Nat → Int32) : va_E := .inl (ca 0, n, .inl f)
abbrev na (ca : Nat → ClassId) (n : Nat) (f : Nat → Nat) : va_E := .inl (ca 0, n, .inl (fun j => nI (f j)))
abbrev ba (ca : Nat → ClassId) (n : Nat) (f : Nat → Int32) : va_E := .inl (ca 1, n, .inl f)
abbrev za (ca : Nat → ClassId) (n : Nat) (f : Nat → Bool) : va_E := .inl (ca 2, n, .inl (fun j => if f j = true then 1 else 0))
abbrev la (ca : Nat → ClassId) (n : Nat) (f : Nat → Int64) : va_E := .inl (ca 3, n, .inr (.inl f))
abbrev qa (ca : Nat → ClassId) (n : Nat) (f : Nat → Option Nat) : va_E := .inl (ca 4, n, .inr (.inr (.inr (.inr f))))
/-! what is given and stays: links of nest mates, two tables, two statics of Throwable -/
def isNest : Cond → Bool
  | .fieldLinkNest _ _ _ _ _ _ => true
  | .declares _ => true
  | .castable _ _ => true
  | _ => false
def NW : List Cond := lw_tbl.filter isNest
theorem nw_in {w : Cond} (i : Nat) (h : lw_tbl[i]? = some w) (hg : isNest w = true) : w ∈ NW := List.mem_filter.mpr ⟨List.mem_of_getElem? h, hg⟩
theorem nw_warm {w : Cond} {s U : State} (hw : w ∈ NW) (hW : s.WarmedH U.vm) (h : va_Nw w s) : va_Nw w U := by
  have hn := (List.mem_filter.mp hw).2
  cases w <;> first | exact va_Nw.warmF hW h | exact va_Nw.warmD hW h | exact va_tabs rfl (rfl : (s.setVm U.vm).vm = U.vm) (Cond.before_shiftedFace (State.Shifted.of_warmed hW) _ rfl h) | exact va_tabs rfl (rfl : (s.setVm U.vm).vm = U.vm) (Cond.before_shiftedCast (State.Shifted.of_warmed hW) _ rfl h) | cases hn
theorem nw_same {w : Cond} {s U : State} (hw : w ∈ NW) (hv : s.vm = U.vm) (h : va_Nw w s) : va_Nw w U := by
  have hn := (List.mem_filter.mp hw).2
  cases w <;> first | exact va_Nw.same rfl hv h | cases hn
def fBelow : List Nat := [5, 505, 671, 754, 804, 837, 861, 879, 900, 960, 1000]
def fSizes : List Nat := [1, 2, 3, 4, 5, 6, 7, 8, 10, 20, 40]
abbrev xI : String := "java/lang/IllegalStateException"
abbrev xO : String := "java/lang/IndexOutOfBoundsException"
abbrev xA : String := "java/lang/IllegalArgumentException"
abbrev xU : String := "java/lang/UnsupportedOperationException"
/-- pairs of exceptions of which the first is none of the second's -/
def NCL : List (String × String) := [(xI, xO), (xI, xA), (xI, xU), (xO, xI), (xO, xA), (xO, xU), (xA, xI), (xA, xO), (xA, xU), (xU, xI), (xU, xO), (xU, xA)]
def EV (tB tS : Nat) (A : Nat → Prop) (U : State) (H : Heap) : Prop := (∀ w ∈ NW, va_Nw w U) ∧ (va_Z RX4 "BELOW" "[I" (.ref tB) A U H ∧ va_T .int tB 11 (fun j => .int (nI (fBelow.getD j 0))) A U H) ∧ (va_Z RX4 "SIZES" "[I" (.ref tS) A U H ∧ va_T .int tS 11 (fun j => .int (nI (fSizes.getD j 0))) A U H) ∧ vx_Zq Bundle.tN "UNASSIGNED_STACK" Bundle.steD A U H ∧ vx_Zq Bundle.tN "SUPPRESSED_SENTINEL" Bundle.listD A U H ∧ ∀ q ∈ NCL, va_Nc q.1 q.2 U
theorem EV.same {tB tS : Nat} {A : Nat → Prop} {u U : State} {H : Heap} (hv : u.vm = U.vm) (h : EV tB tS A u H) : EV tB tS A U H := by
  have ha : u.vm.Alike U.vm := by rw [hv]; exact Vm.Alike.refl _
  exact ⟨fun w hw => nw_same hw hv (h.1 w hw), ⟨h.2.1.1.moved ha, h.2.1.2.moved ha⟩, ⟨h.2.2.1.1.moved ha, h.2.2.1.2.moved ha⟩, h.2.2.2.1.moved ha, h.2.2.2.2.1.moved ha, fun q hq => (h.2.2.2.2.2 q hq).moved ha⟩
theorem EV.warm {tB tS : Nat} {A : Nat → Prop} {u U : State} {H : Heap} (hW : u.WarmedH U.vm) (h : EV tB tS A u H) : EV tB tS A U H := by
  have ha : u.vm.Alike U.vm := hW.alike
  exact ⟨fun w hw => nw_warm hw hW (h.1 w hw), ⟨h.2.1.1.moved ha, h.2.1.2.moved ha⟩, ⟨h.2.2.1.1.moved ha, h.2.2.1.2.moved ha⟩, h.2.2.2.1.moved ha, h.2.2.2.2.1.moved ha, fun q hq => (h.2.2.2.2.2 q hq).moved ha⟩
theorem EV.kept {tB tS : Nat} {A : Nat → Prop} {U : State} {H H1 : Heap} (h : EV tB tS A U H) (hq : ∀ a : Nat, a < H.size → ¬ A a → H1[a]? = H[a]?) : EV tB tS A U H1 :=
  ⟨h.1, ⟨h.2.1.1.kept hq, h.2.1.2.kept hq⟩, ⟨h.2.2.1.1.kept hq, h.2.2.1.2.kept hq⟩, h.2.2.2.1.kept hq, h.2.2.2.2.1.kept hq, h.2.2.2.2.2⟩
theorem EV.narrow {tB tS : Nat} {A B : Nat → Prop} {U : State} {H : Heap} (h : EV tB tS A U H) (hq : ∀ q, B q → A q) : EV tB tS B U H :=
  ⟨h.1, ⟨h.2.1.1.narrow hq, h.2.1.2.narrow hq⟩, ⟨h.2.2.1.1.narrow hq, h.2.2.1.2.narrow hq⟩, h.2.2.2.1.narrow hq, h.2.2.2.2.1.narrow hq, h.2.2.2.2.2⟩
/-- a method's start: the world, and what is given -/
def WB (D : va_G) (ca : Nat → ClassId) (tB tS R : Nat) (ad : Nat → Nat) (g : Nat → va_E) (sz : Nat) (U : State) : Prop :=
  U.heap.size = sz ∧ va_P D vwCl (ww R ad g) U.heap ∧ va_K D vwCl (tysOf ca) U ∧ va_D (AA R ad sz) (ww R ad g) ∧ EV tB tS (AA R ad sz) U U.heap
/-- a method's end: the world -/
def WE (D : va_G) (R : Nat) (ad : Nat → Nat) (A : Nat → Prop) (g : Nat → va_E) (t : State) : Prop := va_P D vwCl (ww R ad g) t.heap ∧ va_D A (ww R ad g)
/-- .. of a method that makes cells: the addresses too -/
def WN (D : va_G) (R : Nat) (A : Nat → Prop) (u : (Nat → Nat) × (Nat → va_E)) (t : State) : Prop := va_P D vwCl (ww R u.1 u.2) t.heap ∧ va_D A (ww R u.1 u.2)
/-- what stays within a method -/
def Fx (D : va_G) (ca : Nat → ClassId) (tB tS : Nat) (A : Nat → Prop) (s : State) : Prop := va_K D vwCl (tysOf ca) s ∧ EV tB tS A s s.heap ∧ ∀ q, s.heap.size ≤ q → A q
/-- what moves -/
def Wd (D : va_G) (A : Nat → Prop) (s : State) (R : Nat) (ad : Nat → Nat) (g : Nat → va_E) (H : Heap) (locs : List Loc) : Prop := va_P D vwCl (ww R ad g) H ∧ va_D A (ww R ad g) ∧ va_S A s.heap H locs
theorem WB.blind {D : va_G} {ca : Nat → ClassId} {tB tS R : Nat} {ad : Nat → Nat} {g : Nat → va_E} {sz : Nat} {av : List Value} : FrameBlind (va_Pc av (WB D ca tB tS R ad g sz)) := by
  intro a U gf mk h
  obtain ⟨h0, h1, h2, h3, h4, h5⟩ := h
  exact ⟨h0, h1, h2, va_K.moved (u := U) (U := U.calling gf mk a) (Vm.Alike.refl U.vm) h3, h4, EV.same (u := U) (U := U.calling gf mk a) rfl h5⟩
theorem AA.sub {D : va_G} {A : Nat → Prop} {s : State} {R : Nat} {ad : Nat → Nat} {g : Nat → va_E} {H : Heap} {locs : List Loc} (hA : ∀ q, s.heap.size ≤ q → A q) (hw : Wd D A s R ad g H locs) : ∀ q, AA R ad H.size q → A q := by
  intro q h
  rcases h with ⟨i, hi, rfl⟩ | h
  · exact hw.2.1.2 i _ (ww_at i hi rfl)
  · exact hA q (Nat.le_trans hw.2.2.1 h)
theorem WB.make {D : va_G} {ca : Nat → ClassId} {tB tS : Nat} {A : Nat → Prop} {s U : State} {R : Nat} {ad : Nat → Nat} {g : Nat → va_E} {H : Heap} {locs : List Loc} (F : Fx D ca tB tS A s) (hw : Wd D A s R ad g H locs) (hU : U.heap = H) (hW : s.WarmedH U.vm) : WB D ca tB tS R ad g H.size U := by
  subst hU
  refine ⟨rfl, hw.1, va_K.moved hW.alike F.1, ww_self hw.2.1, ?_⟩
  have h1 : EV tB tS A s U.heap := F.2.1.kept (fun a h1 h2 => hw.2.2.2.1 a h1 h2)
  exact (h1.narrow (AA.sub F.2.2 hw)).warm hW
section Layer
variable {p : Program} {l : Launch} {e : Env} {Rm : Room} {s : State} {m : MethodId} {args : Array Value} {below : List Frame} {meth : Method} {c : Code} {H : Heap} {locs : List Loc} {cells slots : Nat} {Q : State → Prop}
variable {cc : ByteArray} {nL pc : Nat} {own : String} {ls : Array Slot} {rest : List Value} {D : va_G} {ca : Nat → ClassId} {tB tS : Nat} {A : Nat → Prop} {R : Nat} {ad : Nat → Nat} {g : Nat → va_E}
theorem k_get (C : CallFix p m c cc nL s args GW own) (F : Fx D ca tB tS A s) (hw : Wd D A s R ad g H locs) (i : Nat) {ci index : Nat} {fs : List Value} {C0 : String} {T : u_T} {N : Nat} (hi : i < R) (he : g i = .inr (ci, fs)) (hc : vwCl[ci]? = some (C0, T, N)) (hin : ∀ w ∈ u_ws C0 T N, w ∈ GW) (k : Nat) (hk : k < N) (hl : Cond.fieldLink own index (T k).1 (T k).2.1 (T k).2.2.1 ∈ GW) {v : Value} (hv : fs[k]? = some v) (hdg : decode cc pc = .ok (.getfield index, 3))
    (kk : W p l e Rm s m args below meth c H locs cells slots Q (F0 m (pc + 3) ls (v :: rest))) : W p l e Rm s m args below meth c H locs cells slots Q (F0 m pc ls (.ref (ad i) :: rest)) :=
  va_get C.1 C.2.1 C.2.2.2.2 hin C.2.2.2.1 F.1 hw.1 i (ww_at i hi he) hc k hk (C.2.2.2.2 _ hl) (fun _ h => h) hv hdg kk
theorem k_getN (C : CallFix p m c cc nL s args GW own) (F : Fx D ca tB tS A s) (hw : Wd D A s R ad g H locs) (i : Nat) {ci index : Nat} {fs : List Value} {C0 host : String} {T : u_T} {N : Nat} (hi : i < R) (he : g i = .inr (ci, fs)) (hc : vwCl[ci]? = some (C0, T, N)) (hin : ∀ w ∈ u_ws C0 T N, w ∈ GW) (k : Nat) (hk : k < N) (hl : Cond.fieldLinkNest own index (T k).1 (T k).2.1 (T k).2.2.1 host ∈ NW) {v : Value} (hv : fs[k]? = some v) (hdg : decode cc pc = .ok (.getfield index, 3))
    (kk : W p l e Rm s m args below meth c H locs cells slots Q (F0 m (pc + 3) ls (v :: rest))) : W p l e Rm s m args below meth c H locs cells slots Q (F0 m pc ls (.ref (ad i) :: rest)) :=
  va_getN C.1 C.2.1 C.2.2.2.2 hin C.2.2.2.1 F.1 hw.1 i (ww_at i hi he) hc k hk (va_Nw.use rfl (F.2.1.1 _ hl)) (fun _ h => h) hv hdg kk
theorem k_put (C : CallFix p m c cc nL s args GW own) (F : Fx D ca tB tS A s) (hw : Wd D A s R ad g H locs) (i : Nat) {ci index : Nat} {fs : List Value} {C0 : String} {T : u_T} {N : Nat} {ty0 : Nat → FieldType} (hi : i < R) (he : g i = .inr (ci, fs)) (hc : vwCl[ci]? = some (C0, T, N)) (hin : ∀ w ∈ u_ws C0 T N, w ∈ GW) (hty : ∀ k, k < N → parseFieldDescriptor (T k).2.2.1 = some (ty0 k)) (hnm : ∀ a, a < N → ∀ b, b < N → a ≠ b → (T a).2.1 ≠ (T b).2.1) (k : Nat) (hk : k < N) (hl : Cond.fieldLink own index (T k).1 (T k).2.1 (T k).2.2.1 ∈ GW) (hfin : (T k).2.2.2 = false) {v : Value} (hn : narrow (ty0 k) v = v) (hfit : fits (ty0 k) v = true) (hlen : k < fs.length) (hdg : decode cc pc = .ok (.putfield index, 3))
    (kk : ∀ (H1 : Heap) (locs1 : List Loc), Wd D A s R ad (va_up g i (.inr (ci, fs.set k v))) H1 locs1 → W p l e Rm s m args below meth c H1 locs1 cells slots Q (F0 m (pc + 3) ls rest)) : W p l e Rm s m args below meth c H locs cells slots Q (F0 m pc ls (v :: .ref (ad i) :: rest)) := by
  refine va_put C.1 C.2.1 C.2.2.2.2 hin ty0 hty hnm C.2.2.2.1 F.1 hw.1 hw.2.1 hw.2.2 i (ww_at i hi he) hc k hk (C.2.2.2.2 _ hl) (fun _ h => h) hfin (hty k hk) hn hfit hlen hdg (fun H1 locs1 h1 h2 h3 => ?_)
  rw [ww_set] at h1 h2
  exact kk H1 locs1 ⟨h1, h2, h3⟩
theorem k_putN (C : CallFix p m c cc nL s args GW own) (F : Fx D ca tB tS A s) (hw : Wd D A s R ad g H locs) (i : Nat) {ci index : Nat} {fs : List Value} {C0 host : String} {T : u_T} {N : Nat} {ty0 : Nat → FieldType} (hi : i < R) (he : g i = .inr (ci, fs)) (hc : vwCl[ci]? = some (C0, T, N)) (hin : ∀ w ∈ u_ws C0 T N, w ∈ GW) (hty : ∀ k, k < N → parseFieldDescriptor (T k).2.2.1 = some (ty0 k)) (hnm : ∀ a, a < N → ∀ b, b < N → a ≠ b → (T a).2.1 ≠ (T b).2.1) (k : Nat) (hk : k < N) (hl : Cond.fieldLinkNest own index (T k).1 (T k).2.1 (T k).2.2.1 host ∈ NW) (hfin : (T k).2.2.2 = false) {v : Value} (hn : narrow (ty0 k) v = v) (hfit : fits (ty0 k) v = true) (hlen : k < fs.length) (hdg : decode cc pc = .ok (.putfield index, 3))
    (kk : ∀ (H1 : Heap) (locs1 : List Loc), Wd D A s R ad (va_up g i (.inr (ci, fs.set k v))) H1 locs1 → W p l e Rm s m args below meth c H1 locs1 cells slots Q (F0 m (pc + 3) ls rest)) : W p l e Rm s m args below meth c H locs cells slots Q (F0 m pc ls (v :: .ref (ad i) :: rest)) := by
  refine va_putN C.1 C.2.1 C.2.2.2.2 hin ty0 hty hnm C.2.2.2.1 F.1 hw.1 hw.2.1 hw.2.2 i (ww_at i hi he) hc k hk (va_Nw.use rfl (F.2.1.1 _ hl)) (fun _ h => h) hfin (hty k hk) hn hfit hlen hdg (fun H1 locs1 h1 h2 h3 => ?_)
  rw [ww_set] at h1 h2
  exact kk H1 locs1 ⟨h1, h2, h3⟩
theorem k_putF (C : CallFix p m c cc nL s args GW own) (F : Fx D ca tB tS A s) (hw : Wd D A s R ad g H locs) (i : Nat) {ci index : Nat} {fs : List Value} {C0 : String} {T : u_T} {N : Nat} {ty0 : Nat → FieldType} (hi : i < R) (he : g i = .inr (ci, fs)) (hc : vwCl[ci]? = some (C0, T, N)) (hin : ∀ w ∈ u_ws C0 T N, w ∈ GW) (hty : ∀ k, k < N → parseFieldDescriptor (T k).2.2.1 = some (ty0 k)) (hnm : ∀ a, a < N → ∀ b, b < N → a ≠ b → (T a).2.1 ≠ (T b).2.1) (hin2 : meth.name = "<init>") (k : Nat) (hk : k < N) (hdecl : (T k).1 = own) (hl : Cond.fieldLink own index (T k).1 (T k).2.1 (T k).2.2.1 ∈ GW) (hfin : (T k).2.2.2 = true) {v : Value} (hn : narrow (ty0 k) v = v) (hfit : fits (ty0 k) v = true) (hlen : k < fs.length) (hdg : decode cc pc = .ok (.putfield index, 3))
    (kk : ∀ (H1 : Heap) (locs1 : List Loc), Wd D A s R ad (va_up g i (.inr (ci, fs.set k v))) H1 locs1 → W p l e Rm s m args below meth c H1 locs1 cells slots Q (F0 m (pc + 3) ls rest)) : W p l e Rm s m args below meth c H locs cells slots Q (F0 m pc ls (v :: .ref (ad i) :: rest)) := by
  refine va_putF C.1 C.2.1 C.2.2.2.2 hin ty0 hty hnm C.2.2.2.1 F.1 hw.1 hw.2.1 hw.2.2 i (ww_at i hi he) hc k hk (C.2.2.2.2 _ hl) (fun _ h => h) hfin hin2 hdecl (hty k hk) hn hfit hlen hdg (fun H1 locs1 h1 h2 h3 => ?_)
  rw [ww_set] at h1 h2
  exact kk H1 locs1 ⟨h1, h2, h3⟩
theorem upd_na (f : Nat → Nat) (k x : Nat) : upd (fun j => nI (f j)) k (nI x) = fun j => nI (va_up f k x j) := by
  funext j
  by_cases h : j = k <;> simp [upd, va_up, h]
theorem k_iald (C : CallFix p m c cc nL s args GW own) (F : Fx D ca tB tS A s) (hw : Wd D A s R ad g H locs) (i : Nat) {n : Nat} {f : Nat → Nat} (hi : i < R) (he : g i = na ca n f) (j : Nat) (hj : j < n) (hn : n < 2 ^ 31) (hdg : decode cc pc = .ok (.iaload, 1))
    (kk : W p l e Rm s m args below meth c H locs cells slots Q (F0 m (pc + 1) ls (.int (nI (f j)) :: rest))) : W p l e Rm s m args below meth c H locs cells slots Q (F0 m pc ls (.int (nI j) :: .ref (ad i) :: rest)) := by
  refine va_iald C.1 C.2.1 F.1 hw.1 i 0 (ww_at i hi he) rfl (vp_in_nI hj hn) hdg ?_
  rw [nI_clamp (by omega)]
  exact kk
theorem k_iast (C : CallFix p m c cc nL s args GW own) (F : Fx D ca tB tS A s) (hw : Wd D A s R ad g H locs) (i : Nat) {n : Nat} {f : Nat → Nat} (hi : i < R) (he : g i = na ca n f) (j x : Nat) (hj : j < n) (hn : n < 2 ^ 31) (hdg : decode cc pc = .ok (.iastore, 1))
    (kk : ∀ (H1 : Heap) (locs1 : List Loc), Wd D A s R ad (va_up g i (na ca n (va_up f j x))) H1 locs1 → W p l e Rm s m args below meth c H1 locs1 cells slots Q (F0 m (pc + 1) ls rest)) : W p l e Rm s m args below meth c H locs cells slots Q (F0 m pc ls (.int (nI x) :: .int (nI j) :: .ref (ad i) :: rest)) := by
  refine va_iast C.1 C.2.1 F.1 hw.1 hw.2.1 hw.2.2 i 0 (ww_at i hi he) rfl (vp_in_nI hj hn) hdg (fun H1 locs1 h1 h2 h3 => ?_)
  rw [ww_set, nI_clamp (by omega), upd_na] at h1 h2
  exact kk H1 locs1 ⟨h1, h2, h3⟩
theorem k_zald (C : CallFix p m c cc nL s args GW own) (F : Fx D ca tB tS A s) (hw : Wd D A s R ad g H locs) (i : Nat) {n : Nat} {f : Nat → Bool} (hi : i < R) (he : g i = za ca n f) (j : Nat) (hj : j < n) (hn : n < 2 ^ 31) (hdg : decode cc pc = .ok (.baload, 1))
    (kk : W p l e Rm s m args below meth c H locs cells slots Q (F0 m (pc + 1) ls (.int (if f j = true then 1 else 0) :: rest))) : W p l e Rm s m args below meth c H locs cells slots Q (F0 m pc ls (.int (nI j) :: .ref (ad i) :: rest)) := by
  refine va_zald C.1 C.2.1 F.1 hw.1 i 2 (ww_at i hi he) rfl (vp_in_nI hj hn) hdg ?_
  rw [nI_clamp (by omega)]
  exact kk
theorem upd_za (f : Nat → Bool) (k : Nat) (b : Bool) : upd (fun j => if f j = true then (1 : Int32) else 0) k (vp_nar .boolean (if b = true then 1 else 0)) = fun j => if va_up f k b j = true then 1 else 0 := by
  funext j
  by_cases h : j = k
  · subst h
    cases b <;> simp [upd, va_up] <;> decide
  · simp [upd, va_up, h]
theorem k_zast (C : CallFix p m c cc nL s args GW own) (F : Fx D ca tB tS A s) (hw : Wd D A s R ad g H locs) (i : Nat) {n : Nat} {f : Nat → Bool} (hi : i < R) (he : g i = za ca n f) (j : Nat) (b : Bool) {x : Int32} (hx : x = if b = true then 1 else 0) (hj : j < n) (hn : n < 2 ^ 31) (hdg : decode cc pc = .ok (.bastore, 1))
    (kk : ∀ (H1 : Heap) (locs1 : List Loc), Wd D A s R ad (va_up g i (za ca n (va_up f j b))) H1 locs1 → W p l e Rm s m args below meth c H1 locs1 cells slots Q (F0 m (pc + 1) ls rest)) : W p l e Rm s m args below meth c H locs cells slots Q (F0 m pc ls (.int x :: .int (nI j) :: .ref (ad i) :: rest)) := by
  subst hx
  refine va_zast C.1 C.2.1 F.1 hw.1 hw.2.1 hw.2.2 i 2 (ww_at i hi he) rfl (vp_in_nI hj hn) hdg (fun H1 locs1 h1 h2 h3 => ?_)
  rw [ww_set, nI_clamp (by omega), upd_za] at h1 h2
  exact kk H1 locs1 ⟨h1, h2, h3⟩
theorem k_aald (C : CallFix p m c cc nL s args GW own) (F : Fx D ca tB tS A s) (hw : Wd D A s R ad g H locs) (i : Nat) {n : Nat} {f : Nat → Option Nat} {a : Nat} (hi : i < R) (he : g i = qa ca n f) (j : Nat) (hj : j < n) (hn : n < 2 ^ 31) (hf : f j = some a) (hdg : decode cc pc = .ok (.aaload, 1))
    (kk : W p l e Rm s m args below meth c H locs cells slots Q (F0 m (pc + 1) ls (.ref a :: rest))) : W p l e Rm s m args below meth c H locs cells slots Q (F0 m pc ls (.int (nI j) :: .ref (ad i) :: rest)) := by
  refine W.aald (v := .ref a) (ty := .array .int) C.1 C.2.1 (hw.1 i _ (ww_at i hi he)) ((F.1.2 4 _ rfl).1 n (fun j => va_rf (f j))) rfl (fun q => by cases q) (by show ¬ (nI j < 0 ∨ (arrV _ _ _).slots.size ≤ _); rw [arrV_size]; exact vp_in_nI hj hn) ?_ rfl rfl hdg kk
  show (arrV _ _ _).slots[_]? = _
  rw [nI_clamp (by omega), arrV_read _ _ hj, hf]
  rfl
theorem k_alen (C : CallFix p m c cc nL s args GW own) (F : Fx D ca tB tS A s) (hw : Wd D A s R ad g H locs) (i : Nat) {n : Nat} {f : Nat → Nat} (hi : i < R) (he : g i = na ca n f) (hdg : decode cc pc = .ok (.arraylength, 1))
    (kk : W p l e Rm s m args below meth c H locs cells slots Q (F0 m (pc + 1) ls (.int (nI n) :: rest))) : W p l e Rm s m args below meth c H locs cells slots Q (F0 m pc ls (.ref (ad i) :: rest)) :=
  va_alen C.1 C.2.1 F.1 hw.1 i 0 (ww_at i hi he) (ty := .int) rfl rfl hdg kk
/-! numbers -/
theorem k_ti {x x' : Int32} (h : x = x') (kk : W p l e Rm s m args below meth c H locs cells slots Q (F0 m pc ls (.int x' :: rest))) : W p l e Rm s m args below meth c H locs cells slots Q (F0 m pc ls (.int x :: rest)) := h ▸ kk
theorem k_tl {x x' : Int64} (h : x = x') (kk : W p l e Rm s m args below meth c H locs cells slots Q (F0 m pc ls (.long x' :: rest))) : W p l e Rm s m args below meth c H locs cells slots Q (F0 m pc ls (.long x :: rest)) := h ▸ kk
theorem k_icn (C : CallFix p m c cc nL s args GW own) {n : Int} (v : Nat) (hdg : decode cc pc = .ok (.iconst n, 1)) (hv : Int32.ofInt n = nI v) (kk : W p l e Rm s m args below meth c H locs cells slots Q (F0 m (pc + 1) ls (.int (nI v) :: rest))) : W p l e Rm s m args below meth c H locs cells slots Q (F0 m pc ls rest) := lv_iconst C.1 C.2.1 hdg hv kk
theorem k_bip (C : CallFix p m c cc nL s args GW own) {n : Int} (v : Nat) (hdg : decode cc pc = .ok (.bipush n, 2)) (hv : (Int8.ofInt n).toInt32 = nI v) (kk : W p l e Rm s m args below meth c H locs cells slots Q (F0 m (pc + 2) ls (.int (nI v) :: rest))) : W p l e Rm s m args below meth c H locs cells slots Q (F0 m pc ls rest) := lv_bipush C.1 C.2.1 hdg hv kk
theorem k_sip (C : CallFix p m c cc nL s args GW own) {n : Int} (v : Nat) (hdg : decode cc pc = .ok (.sipush n, 3)) (hv : (Int16.ofInt n).toInt32 = nI v) (kk : W p l e Rm s m args below meth c H locs cells slots Q (F0 m (pc + 3) ls (.int (nI v) :: rest))) : W p l e Rm s m args below meth c H locs cells slots Q (F0 m pc ls rest) := lv_sipush C.1 C.2.1 hdg hv kk
theorem k_add (C : CallFix p m c cc nL s args GW own) {a b : Nat} (hdg : decode cc pc = .ok (.iadd, 1)) (kk : W p l e Rm s m args below meth c H locs cells slots Q (F0 m (pc + 1) ls (.int (nI (a + b)) :: rest))) : W p l e Rm s m args below meth c H locs cells slots Q (F0 m pc ls (.int (nI b) :: .int (nI a) :: rest)) := lv_iadd C.1 C.2.1 hdg (k_ti (nI_add a b) kk)
theorem k_sub (C : CallFix p m c cc nL s args GW own) {a b : Nat} (hdg : decode cc pc = .ok (.isub, 1)) (h : b ≤ a) (kk : W p l e Rm s m args below meth c H locs cells slots Q (F0 m (pc + 1) ls (.int (nI (a - b)) :: rest))) : W p l e Rm s m args below meth c H locs cells slots Q (F0 m pc ls (.int (nI b) :: .int (nI a) :: rest)) := lv_isub C.1 C.2.1 hdg (k_ti (pk_sub h) kk)
theorem k_mul (C : CallFix p m c cc nL s args GW own) {a b : Nat} (hdg : decode cc pc = .ok (.imul, 1)) (kk : W p l e Rm s m args below meth c H locs cells slots Q (F0 m (pc + 1) ls (.int (nI (a * b)) :: rest))) : W p l e Rm s m args below meth c H locs cells slots Q (F0 m pc ls (.int (nI b) :: .int (nI a) :: rest)) := lv_imul C.1 C.2.1 hdg (k_ti (pk_mul a b) kk)
theorem k_div (C : CallFix p m c cc nL s args GW own) {a b : Nat} (hdg : decode cc pc = .ok (.idiv, 1)) (ha : a < 2 ^ 31) (h0 : 0 < b) (hb : b < 2 ^ 31) (kk : W p l e Rm s m args below meth c H locs cells slots Q (F0 m (pc + 1) ls (.int (nI (a / b)) :: rest))) : W p l e Rm s m args below meth c H locs cells slots Q (F0 m pc ls (.int (nI b) :: .int (nI a) :: rest)) := lv_idiv C.1 C.2.1 hdg (nI_ne0 h0 hb) (k_ti (pk_div ha h0 hb) kk)
theorem k_rem (C : CallFix p m c cc nL s args GW own) {a b : Nat} (hdg : decode cc pc = .ok (.irem, 1)) (ha : a < 2 ^ 31) (h0 : 0 < b) (hb : b < 2 ^ 31) (kk : W p l e Rm s m args below meth c H locs cells slots Q (F0 m (pc + 1) ls (.int (nI (a % b)) :: rest))) : W p l e Rm s m args below meth c H locs cells slots Q (F0 m pc ls (.int (nI b) :: .int (nI a) :: rest)) := lv_irem C.1 C.2.1 hdg (nI_ne0 h0 hb) (k_ti (pk_rem ha h0 hb) kk)
theorem nI_xor (a b : Nat) : nI a ^^^ nI b = nI (a ^^^ b) := Int32.toBitVec_inj.mp (by simp [nI])
theorem k_xor (C : CallFix p m c cc nL s args GW own) {a b : Nat} (hdg : decode cc pc = .ok (.ixor, 1)) (kk : W p l e Rm s m args below meth c H locs cells slots Q (F0 m (pc + 1) ls (.int (nI (a ^^^ b)) :: rest))) : W p l e Rm s m args below meth c H locs cells slots Q (F0 m pc ls (.int (nI b) :: .int (nI a) :: rest)) := lv_ixor C.1 C.2.1 hdg (k_ti (nI_xor a b) kk)
theorem k_ilt (C : CallFix p m c cc nL s args GW own) {a b : Nat} {off : Int} {tgt : Nat} (hdg : decode cc pc = .ok (.if_icmp .lt off, 3)) (ht : (pc : Int) + off = (tgt : Int)) (ha : a < 2 ^ 31) (hb : b < 2 ^ 31) (kt : a < b → W p l e Rm s m args below meth c H locs cells slots Q (F0 m tgt ls rest)) (kf : b ≤ a → W p l e Rm s m args below meth c H locs cells slots Q (F0 m (pc + 3) ls rest)) : W p l e Rm s m args below meth c H locs cells slots Q (F0 m pc ls (.int (nI b) :: .int (nI a) :: rest)) := lv_icmp_lt C.1 C.2.1 hdg ht (fun h => kt ((nI_ltI ha hb).mp h)) (fun h => kf (by have := mt (nI_ltI ha hb).mpr h; omega))
theorem k_ige (C : CallFix p m c cc nL s args GW own) {a b : Nat} {off : Int} {tgt : Nat} (hdg : decode cc pc = .ok (.if_icmp .ge off, 3)) (ht : (pc : Int) + off = (tgt : Int)) (ha : a < 2 ^ 31) (hb : b < 2 ^ 31) (kt : b ≤ a → W p l e Rm s m args below meth c H locs cells slots Q (F0 m tgt ls rest)) (kf : a < b → W p l e Rm s m args below meth c H locs cells slots Q (F0 m (pc + 3) ls rest)) : W p l e Rm s m args below meth c H locs cells slots Q (F0 m pc ls (.int (nI b) :: .int (nI a) :: rest)) := lv_icmp_ge C.1 C.2.1 hdg ht (fun h => kt ((nI_leI hb ha).mp h)) (fun h => kf (by have := mt (nI_leI hb ha).mpr h; omega))
theorem k_igt (C : CallFix p m c cc nL s args GW own) {a b : Nat} {off : Int} {tgt : Nat} (hdg : decode cc pc = .ok (.if_icmp .gt off, 3)) (ht : (pc : Int) + off = (tgt : Int)) (ha : a < 2 ^ 31) (hb : b < 2 ^ 31) (kt : b < a → W p l e Rm s m args below meth c H locs cells slots Q (F0 m tgt ls rest)) (kf : a ≤ b → W p l e Rm s m args below meth c H locs cells slots Q (F0 m (pc + 3) ls rest)) : W p l e Rm s m args below meth c H locs cells slots Q (F0 m pc ls (.int (nI b) :: .int (nI a) :: rest)) := lv_icmp_gt C.1 C.2.1 hdg ht (fun h => kt ((nI_ltI hb ha).mp h)) (fun h => kf (by have := mt (nI_ltI hb ha).mpr h; omega))
theorem k_ile (C : CallFix p m c cc nL s args GW own) {a b : Nat} {off : Int} {tgt : Nat} (hdg : decode cc pc = .ok (.if_icmp .le off, 3)) (ht : (pc : Int) + off = (tgt : Int)) (ha : a < 2 ^ 31) (hb : b < 2 ^ 31) (kt : a ≤ b → W p l e Rm s m args below meth c H locs cells slots Q (F0 m tgt ls rest)) (kf : b < a → W p l e Rm s m args below meth c H locs cells slots Q (F0 m (pc + 3) ls rest)) : W p l e Rm s m args below meth c H locs cells slots Q (F0 m pc ls (.int (nI b) :: .int (nI a) :: rest)) := lv_icmp_le C.1 C.2.1 hdg ht (fun h => kt ((nI_leI ha hb).mp h)) (fun h => kf (by have := mt (nI_leI ha hb).mpr h; omega))
theorem k_ieq (C : CallFix p m c cc nL s args GW own) {a b : Nat} {off : Int} {tgt : Nat} (hdg : decode cc pc = .ok (.if_icmp .eq off, 3)) (ht : (pc : Int) + off = (tgt : Int)) (ha : a < 2 ^ 31) (hb : b < 2 ^ 31) (kt : a = b → W p l e Rm s m args below meth c H locs cells slots Q (F0 m tgt ls rest)) (kf : a ≠ b → W p l e Rm s m args below meth c H locs cells slots Q (F0 m (pc + 3) ls rest)) : W p l e Rm s m args below meth c H locs cells slots Q (F0 m pc ls (.int (nI b) :: .int (nI a) :: rest)) := lv_icmp_eq C.1 C.2.1 hdg ht (fun h => kt ((nI_eq ha hb).mp h)) (fun h => kf (mt (nI_eq ha hb).mpr h))
theorem k_ine (C : CallFix p m c cc nL s args GW own) {a b : Nat} {off : Int} {tgt : Nat} (hdg : decode cc pc = .ok (.if_icmp .ne off, 3)) (ht : (pc : Int) + off = (tgt : Int)) (ha : a < 2 ^ 31) (hb : b < 2 ^ 31) (kt : a ≠ b → W p l e Rm s m args below meth c H locs cells slots Q (F0 m tgt ls rest)) (kf : a = b → W p l e Rm s m args below meth c H locs cells slots Q (F0 m (pc + 3) ls rest)) : W p l e Rm s m args below meth c H locs cells slots Q (F0 m pc ls (.int (nI b) :: .int (nI a) :: rest)) := lv_icmp_ne C.1 C.2.1 hdg ht (fun h => kt (mt (nI_eq ha hb).mpr h)) (fun h => kf ((nI_eq ha hb).mp h))
end Layer
