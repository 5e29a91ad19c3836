/-! ===== int[N][K] is made: from the model's own steps ===== -/
/-- the outer array when i of its N rows are laid behind it -/
def mzT (co : ClassId) (N h i : Nat) : Cell := arrV co N (fun j => va_rf (if j < i then some (h + 1 + j) else none))
def mzR (ci : ClassId) (K : Nat) : Cell := arrV ci K (fun _ => .int 0)
def mzS (s : State) (co ci : ClassId) (N K : Nat) : Nat → State
  | 0 => s.pushCell (mzT co N s.heap.size 0)
  | i + 1 => ((mzS s co ci N K i).pushCell (mzR ci K)).setCell s.heap.size (mzT co N s.heap.size (i + 1))
theorem mzT_up (co : ClassId) (N h i : Nat) : (mzT co N h i).setSlot i (.ref (h + 1 + i)) = mzT co N h (i + 1) := by
  unfold mzT
  rw [arrV_store]
  congr 1
  funext j
  unfold updV
  by_cases hj : j = i
  · subst hj; rw [if_pos rfl, if_pos (Nat.lt_succ_self _)]; rfl
  · rw [if_neg hj]
    show va_rf (if j < i then some (h + 1 + j) else none) = _
    by_cases h1 : j < i
    · rw [if_pos h1, if_pos (by omega)]
    · rw [if_neg h1, if_neg (by omega)]
theorem mzS_ok (s : State) (co ci : ClassId) (N K : Nat) : ∀ i, (mzS s co ci N K i).heap.size = s.heap.size + 1 + i ∧ (mzS s co ci N K i).vm = s.vm ∧ (mzS s co ci N K i).slotsUsed = s.slotsUsed + N + i * K ∧ (mzS s co ci N K i).heap[s.heap.size]? = some (mzT co N s.heap.size i) ∧ (∀ a : Nat, a < s.heap.size → (mzS s co ci N K i).heap[a]? = s.heap[a]?) ∧ ∀ j, j < i → (mzS s co ci N K i).heap[s.heap.size + 1 + j]? = some (mzR ci K)
  | 0 => by
    refine ⟨by simp [mzS], rfl, by simp [mzS, mzT, arrV_size], by simp [mzS], fun a ha => State.heap_pushCell_of_lt _ _ ha, fun j hj => absurd hj (Nat.not_lt_zero _)⟩
  | i + 1 => by
    obtain ⟨h1, h2, h3, h4, h5, h6⟩ := mzS_ok s co ci N K i
    have hz : s.heap.size < (mzS s co ci N K i).heap.size := by omega
    have h4' : ((mzS s co ci N K i).pushCell (mzR ci K)).heap[s.heap.size]? = some (mzT co N s.heap.size i) := (State.heap_pushCell_of_lt _ _ hz).trans h4
    refine ⟨by simp [mzS, State.setCell, h1]; omega, by simp [mzS, h2], by simp [mzS, h3, mzR, arrV_size, Nat.succ_mul]; omega, State.heap_setCell_self h4', fun a ha => ?_, fun j hj => ?_⟩
    · show (((mzS s co ci N K i).pushCell (mzR ci K)).setCell s.heap.size _).heap[a]? = _
      rw [State.heap_setCell_other (show s.heap.size ≠ a by omega), State.heap_pushCell_of_lt _ _ (show a < (mzS s co ci N K i).heap.size by omega)]
      exact h5 a ha
    · show (((mzS s co ci N K i).pushCell (mzR ci K)).setCell s.heap.size _).heap[s.heap.size + 1 + j]? = _
      rw [State.heap_setCell_other (show s.heap.size ≠ s.heap.size + 1 + j by omega)]
      by_cases hji : j = i
      · subst hji
        rw [← h1]
        exact State.heap_pushCell_size _ _
      · rw [State.heap_pushCell_of_lt _ _ (show s.heap.size + 1 + j < (mzS s co ci N K i).heap.size by omega)]
        exact h6 j (by omega)
theorem mzS_top (s : State) (f : JFrame) (co ci : ClassId) (N K : Nat) : ∀ i, mzS (s.setTop f) co ci N K i = (mzS s co ci N K i).setTop f
  | 0 => rfl
  | i + 1 => by
    unfold mzS
    rw [mzS_top s f co ci N K i, State.heap_setTop, State.pushCell_setTop, State.setCell_setTop]
section Mna
variable {p : Program} {l : Launch} {e : Env} {R : Room} {s : State} {m : MethodId} {args : Array Value} {below : List Frame} {meth : Method} {c : Code}
theorem mz_stand {T : State} {locs : List Loc} {cells slots : Nat} (X : Stand p l e R s m args below meth c T locs cells slots) (co ci : ClassId) (N K : Nat) : ∀ i, Stand p l e R s m args below meth c (mzS T co ci N K i) locs (cells + 1 + i) (slots + N + i * K)
  | 0 => by
    have h := X.pushed (mzT co N T.heap.size 0)
    rw [show (mzT co N T.heap.size 0).slots.size = N from arrV_size _ _ _] at h
    rw [Nat.zero_mul]
    exact h
  | i + 1 => by
    obtain ⟨h1, h2, h3, h4, h5, h6⟩ := mzS_ok T co ci N K i
    have h := (mz_stand X co ci N K i).pushed (mzR ci K)
    rw [show (mzR ci K).slots.size = K from arrV_size _ _ _] at h
    have hc : ((mzS T co ci N K i).pushCell (mzR ci K)).heap[T.heap.size]? = some (mzT co N T.heap.size i) := (State.heap_pushCell_of_lt _ _ (show T.heap.size < (mzS T co ci N K i).heap.size by omega)).trans h4
    have h7 := h.stored hc i (.ref (T.heap.size + 1 + i))
    rw [mzT_up] at h7
    rw [Nat.succ_mul, show slots + N + (i * K + K) = slots + N + i * K + K by omega]
    exact Stand.forget h7 (fun x hx => by rw [List.mem_singleton.mp hx]; exact X.heapGrown)
end Mna
section Mk
variable {E : CtlPost} {e : Env} {d : Bool} {acts : List Action} {s : State}
/-- one row -/
theorem mk_row {ci cc : ClassId} {kc : Class} {k : Int32} {K : Nat} (hk : s.vm.classes[ci]? = some kc) (hkk : kc.kind = .array cc .int) (h0 : ¬ k < 0) (hK : k.toNatClampNeg = K) (hl : ¬ K > e.platform.arrayLengthLimit) (hh : ¬ K * componentBytes .int > e.platform.maxHeapBytes) (h1 : s.heap.size < e.platform.maxCells) (h2 : s.slotsUsed + K ≤ e.platform.maxSlots) {Q : Addr → Pre} (hq : ∀ acts', Q s.heap.size d acts' (s.pushCell (mzR ci K))) : wp (Op.multianewarray.make ci [k]) Q E e d acts s := by
  subst hK
  rw [Op.multianewarray.make]
  simp only [wp_bind', W.ite, h0, if_false, wp_pure', W.theClass, hk, Option.some.injEq, exists_eq_left', hkk]
  refine W.newArray_of hk hkk hl hh h1 h2 rfl (fun acts' => ?_)
  have h := hq acts'
  unfold mzR at h
  rw [← arrV_new] at h
  exact h
/-- the outer array and its rows -/
theorem mk_all {co ci cc : ClassId} {ko kc : Class} {n k : Int32} {N K : Nat} (ho : s.vm.classes[co]? = some ko) (hok : ko.kind = .array ci (.array .int)) (hk : s.vm.classes[ci]? = some kc) (hkk : kc.kind = .array cc .int) (n0 : ¬ n < 0) (k0 : ¬ k < 0) (hN : n.toNatClampNeg = N) (hK : k.toNatClampNeg = K)
    (hl1 : ¬ N > e.platform.arrayLengthLimit) (hh1 : ¬ N * componentBytes (.array .int) > e.platform.maxHeapBytes) (hl2 : ¬ K > e.platform.arrayLengthLimit) (hh2 : ¬ K * componentBytes .int > e.platform.maxHeapBytes) (hc : s.heap.size + (1 + N) ≤ e.platform.maxCells) (hs : s.slotsUsed + (N + N * K) ≤ e.platform.maxSlots)
    {Q : Addr → Pre} (hq : ∀ d' acts', Q s.heap.size d' acts' (mzS s co ci N K N)) : wp (Op.multianewarray.make co [n, k]) Q E e d acts s := by
  subst hN
  have hno : [k].find? (· < 0) = none := by simp [k0]
  rw [Op.multianewarray.make]
  simp only [wp_bind', W.ite, n0, if_false, wp_pure', W.theClass, ho, Option.some.injEq, exists_eq_left', hok]
  refine W.newArray_of ho hok hl1 hh1 (by omega) (by omega) rfl (fun acts1 => ?_)
  have e0 : s.pushCell { cls := co, slots := Array.replicate n.toNatClampNeg Value.null } = mzS s co ci n.toNatClampNeg K 0 := by
    show _ = s.pushCell (mzT co n.toNatClampNeg s.heap.size 0)
    unfold mzT
    rw [show (fun j => va_rf (if j < 0 then some (s.heap.size + 1 + j) else none)) = fun _ => Value.null from funext (fun j => by rw [if_neg (Nat.not_lt_zero _)]; rfl), ← arrV_new]
  rw [e0]
  simp only [hno, ite_self, wp_bind']
  rw [Std.Legacy.Range.forIn_eq_forIn_range']
  refine wp_forIn_inv (fun todo u => ∃ i, i ≤ n.toNatClampNeg ∧ todo.length = n.toNatClampNeg - i ∧ todo = List.range' i (n.toNatClampNeg - i) ∧ u = mzS s co ci n.toNatClampNeg K i) _ _ ⟨0, Nat.zero_le _, ?_, ?_, rfl⟩ ?_ ?_
  · simp [Std.Legacy.Range.size]
  · simp [Std.Legacy.Range.size]
  · intro x todo u d2 acts2 Q2 hI hgo
    obtain ⟨i, hi, hlen, hlist, rfl⟩ := hI
    have hi2 : i < n.toNatClampNeg := by
      rw [List.length_cons] at hlen
      omega
    rw [show n.toNatClampNeg - i = (n.toNatClampNeg - (i + 1)) + 1 by omega, List.range'_succ] at hlist
    obtain ⟨hx, htodo⟩ := List.cons.inj hlist
    subst hx
    obtain ⟨a1, a2, a3, a4, a5, a6⟩ := mzS_ok s co ci n.toNatClampNeg K x
    have hmul : (x + 1) * K ≤ n.toNatClampNeg * K := Nat.mul_le_mul_right K hi2
    rw [Nat.succ_mul] at hmul
    simp only [wp_bind']
    refine mk_row (kc := kc) (by rw [a2]; exact hk) hkk k0 hK hl2 hh2 (by omega) (by omega) (fun acts3 => ?_)
    simp only [wp_bind', W.writeLoc, wp_pure']
    refine ⟨mzT co n.toNatClampNeg s.heap.size x, (State.heap_pushCell_of_lt _ _ (show s.heap.size < (mzS s co ci n.toNatClampNeg K x).heap.size by omega)).trans a4, (fun h => by cases h), by rw [show (mzT co n.toNatClampNeg s.heap.size x).slots.size = n.toNatClampNeg from arrV_size _ _ _]; exact hi2, ?_, ?_⟩
    · show State.fitsSlot _ co .none x _ = true
      simp [State.fitsSlot, State.slotType?, a2, ho, hok]
      rfl
    · refine hgo _ _ _ ⟨x + 1, hi2, ?_, htodo, ?_⟩
      · rw [List.length_cons] at hlen; omega
      · rw [a1, mzT_up]; rfl
  · intro u d2 acts2 hI
    obtain ⟨i, hi, hlen, -, rfl⟩ := hI
    rw [List.length_nil] at hlen
    have hin : i = n.toNatClampNeg := by omega
    subst hin
    exact hq _ _
end Mk
/-- the classes of int[][] and int[] -/
def AO (ca : Nat → ClassId) (U : State) : Prop := ∃ (ko kc : Class) (cc : ClassId), U.vm.classes[ca 4]? = some ko ∧ ko.kind = .array (ca 0) (.array .int) ∧ U.vm.classes[ca 0]? = some kc ∧ kc.kind = .array cc .int
theorem AO.moved {ca : Nat → ClassId} {u U : State} (hvm : u.vm.Alike U.vm) (h : AO ca u) : AO ca U := by
  obtain ⟨ko, kc, cc, h1, h2, h3, h4⟩ := h
  obtain ⟨ko', g1, g2⟩ := hvm.2.2 _ _ h1
  obtain ⟨kc', g3, g4⟩ := hvm.2.2 _ _ h3
  exact ⟨ko', kc', cc, g1, by rw [g2]; exact h2, g3, by rw [g4]; exact h4⟩
section MnaW
variable {p : Program} {l : Launch} {e : Env} {Rm : Room} {s : State} {m : MethodId} {args : Array Value} {below : List Frame} {meth : Method} {c : Code} {H : Heap} {locs : List Loc} {cells slots : Nat} {Q : State → Prop}
variable {cc : ByteArray} {nL pc : Nat} {own : String} {ls : Array Slot} {rest : List Value} {D : va_G} {ca : Nat → ClassId} {tB tS : Nat} {A : Nat → Prop}
theorem mz_w (C : CallFix p m c cc nL s args GW own) (F : Fx D ca tB tS A s) (hAO : AO ca s) {index : Nat} (hcl : Cond.classLink own index "[[I" ∈ GW) (N K : Nat) (hN : N < 1000) (hK : K < 1000) (hcells : cells + (1 + N) ≤ Rm.cells) (hslots : slots + (N + N * K) ≤ Rm.slots) (hdg : decode cc pc = .ok (.multianewarray index 2, 4))
    (kk : ∀ H1 : Heap, H1.size = H.size + 1 + N → (∀ a : Nat, a < H.size → H1[a]? = H[a]?) → H1[H.size]? = some (mzT (ca 4) N H.size N) → (∀ j, j < N → H1[H.size + 1 + j]? = some (mzR (ca 0) K)) → W p l e Rm s m args below meth c H1 locs (cells + 1 + N) (slots + N + N * K) Q (F0 m (pc + 4) ls (.ref H.size :: rest))) : W p l e Rm s m args below meth c H locs cells slots Q (F0 m pc ls (.int (nI K) :: .int (nI N) :: rest)) := by
  intro T hT X
  have hpl : e.platform.magicAccessors = ({} : Platform).magicAccessors := by rw [X.admits.platform]
  obtain ⟨c0, hf0, hlk⟩ := Cond.classLink_spec C.2.2.2.1 (C.2.2.2.2 _ hcl) e.platform hpl
  have hf4 : s.vm.findClass "[[I" = some (ca 4) := (F.1.2 4 _ rfl).2
  have hc0 : c0 = ca 4 := Option.some.inj (hf0.symm.trans hf4)
  subst hc0
  obtain ⟨hgv, hwm, -⟩ := State.classEntry (e := e) X.warmed hlk
  generalize T.vm.noted m.cls index (.cls (ca 4)) = v1 at hgv hwm
  obtain ⟨ko, kc, cx, o1, o2, o3, o4⟩ := AO.moved (U := T.setVm v1) hwm.alike hAO
  have XF := mz_stand (X.noted hwm) (ca 4) (ca 0) N K N
  obtain ⟨r1, r2⟩ := X.roomAbove hcells hslots
  obtain ⟨f1, -, -, f4, f5, f6⟩ := mzS_ok (T.setVm v1) (ca 4) (ca 0) N K N
  have hTH : (T.setVm v1).heap = H := hT
  rw [hTH] at f1 f4 f5 f6
  obtain ⟨t, g1, g2⟩ := kk _ f1 f5 f4 f6 _ rfl XF
  refine ⟨t, ?_, g2⟩
  have hb1 : ¬ N > e.platform.arrayLengthLimit := by rw [Launch.admits_arrayLengthLimit X.admits]; omega
  have hb2 : ¬ K > e.platform.arrayLengthLimit := by rw [Launch.admits_arrayLengthLimit X.admits]; omega
  have hb3 : ¬ N * componentBytes (.array .int) > e.platform.maxHeapBytes := by rw [Launch.admits_maxHeapBytes X.admits]; show ¬ N * 4 > _; omega
  have hb4 : ¬ K * componentBytes .int > e.platform.maxHeapBytes := by rw [Launch.admits_maxHeapBytes X.admits]; show ¬ K * 4 > _; omega
  have hd : decode c.code pc = .ok (.multianewarray index 2, 4) := by rw [C.2.1]; exact hdg
  jvm_step X.here [C.1, hd]
  simp only [Op.multianewarray.sem, wp_bind', W.resolveClassAt_links (State.method?_setTop (F0 m pc ls (.int (nI K) :: .int (nI N) :: rest)) X.here.top) hgv]
  rw [W.popN, if_neg (by decide)]
  refine ⟨F0 m pc ls (.int (nI K) :: .int (nI N) :: rest), State.topJava?_setTop' (s := T.setVm v1) _ X.here.top, [.int (nI N), .int (nI K)], rest, rfl, rfl, ?_⟩
  simp only [List.mapM_cons, List.mapM_nil, wp_bind', wp_pure']
  have hS : ((T.setTop (F0 m pc ls (.int (nI K) :: .int (nI N) :: rest))).setVm v1).setTop (F0 m pc ls rest) = (T.setVm v1).setTop (F0 m pc ls rest) := State.setTop_setTop (s := T.setVm v1) _ _
  have hgoal : ∀ {Q9 : Addr → Pre} {E9 : CtlPost} {d9 : Bool} {acts9 : List Action}, (∀ d' acts', Q9 H.size d' acts' ((mzS (T.setVm v1) (ca 4) (ca 0) N K N).setTop (F0 m pc ls rest))) → wp (Op.multianewarray.make (ca 4) [nI N, nI K]) Q9 E9 e d9 acts9 ((T.setVm v1).setTop (F0 m pc ls rest)) := fun hq => by
    refine mk_all (s := (T.setVm v1).setTop (F0 m pc ls rest)) (N := N) (K := K) (ko := ko) (kc := kc) (ci := ca 0) (cc := cx) o1 o2 o3 o4 (nI_pos (by omega)) (nI_pos (by omega)) (nI_clamp (by omega)) (nI_clamp (by omega)) hb1 hb3 hb2 hb4 r1 r2 (fun d2 acts2 => ?_)
    rw [mzS_top, State.heap_setTop, hTH]
    exact hq d2 acts2
  refine Eq.mpr (congrArg _ hS) ?_
  refine hgoal (fun d2 acts2 => ?_)
  simp only [wp_bind', W.mark, W.pushRef, State.topJava?_setTop' _ XF.here.top, Option.some.injEq, exists_eq_left', State.setTop_setTop, State.heap_setTop]
  intro acts3
  simp [jvm, XF.here.top]
  exact g1
end MnaW
