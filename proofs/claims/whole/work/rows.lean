section
-- ===== PART A: goes FIRST, ahead of the names: the tables' words, and 'selects' of the private methods out of them =====
/-- a private method of a class that the tables say can be made, by its rows of tables_1 -/
def lw_okq (q : MethodName × Nat) : Prop := (q.1.cls ≠ "java/lang/invoke/MethodHandle" ∧ q.1.cls ≠ "java/lang/invoke/VarHandle") ∧ Cond.instantiable q.1.cls q.2 ∈ tables_1 ∧ Cond.privateMethod q.1 ∈ tables_1 ∧ Cond.instanceMethod q.1 ∈ tables_1
theorem lw_p0 : lw_okq (⟨"java/lang/Throwable", "fillInStackTrace", "(I)Ljava/lang/Throwable;"⟩, 6) := ⟨⟨by decide +kernel, by decide +kernel⟩, List.mem_of_getElem? (i := 263) (by decide +kernel), List.mem_of_getElem? (i := 261) (by decide +kernel), List.mem_of_getElem? (i := 262) (by decide +kernel)⟩
theorem lw_p1 : lw_okq (⟨"FountainDesk$Turns", "fillsRank", "(II)Z"⟩, 3) := ⟨⟨by decide +kernel, by decide +kernel⟩, List.mem_of_getElem? (i := 111) (by decide +kernel), List.mem_of_getElem? (i := 329) (by decide +kernel), List.mem_of_getElem? (i := 330) (by decide +kernel)⟩
theorem lw_p2 : lw_okq (⟨"FountainDesk$Equations", "setSumLine", "(II)V"⟩, 7) := ⟨⟨by decide +kernel, by decide +kernel⟩, List.mem_of_getElem? (i := 76) (by decide +kernel), List.mem_of_getElem? (i := 337) (by decide +kernel), List.mem_of_getElem? (i := 338) (by decide +kernel)⟩
theorem lw_p3 : lw_okq (⟨"FountainDesk$Equations", "reduceLine", "()V"⟩, 7) := ⟨⟨by decide +kernel, by decide +kernel⟩, List.mem_of_getElem? (i := 76) (by decide +kernel), List.mem_of_getElem? (i := 346) (by decide +kernel), List.mem_of_getElem? (i := 347) (by decide +kernel)⟩
theorem lw_p4 : lw_okq (⟨"FountainDesk$Equations", "lineLead", "()I"⟩, 7) := ⟨⟨by decide +kernel, by decide +kernel⟩, List.mem_of_getElem? (i := 76) (by decide +kernel), List.mem_of_getElem? (i := 354) (by decide +kernel), List.mem_of_getElem? (i := 355) (by decide +kernel)⟩
theorem lw_p5 : lw_okq (⟨"FountainDesk$Equations", "hasValueLeft", "()Z"⟩, 7) := ⟨⟨by decide +kernel, by decide +kernel⟩, List.mem_of_getElem? (i := 76) (by decide +kernel), List.mem_of_getElem? (i := 358) (by decide +kernel), List.mem_of_getElem? (i := 359) (by decide +kernel)⟩
theorem lw_p6 : lw_okq (⟨"FountainDesk$Equations", "keepLine", "(I)V"⟩, 7) := ⟨⟨by decide +kernel, by decide +kernel⟩, List.mem_of_getElem? (i := 76) (by decide +kernel), List.mem_of_getElem? (i := 362) (by decide +kernel), List.mem_of_getElem? (i := 363) (by decide +kernel)⟩
theorem lw_p7 : lw_okq (⟨"FountainDesk$Equations", "setPowerLine", "(II)V"⟩, 7) := ⟨⟨by decide +kernel, by decide +kernel⟩, List.mem_of_getElem? (i := 76) (by decide +kernel), List.mem_of_getElem? (i := 371) (by decide +kernel), List.mem_of_getElem? (i := 372) (by decide +kernel)⟩
theorem lw_p8 : lw_okq (⟨"FountainDesk", "solveTape", "(III)V"⟩, 7) := ⟨⟨by decide +kernel, by decide +kernel⟩, List.mem_of_getElem? (i := 21) (by decide +kernel), List.mem_of_getElem? (i := 424) (by decide +kernel), List.mem_of_getElem? (i := 425) (by decide +kernel)⟩
theorem lw_p9 : lw_okq (⟨"FountainDesk", "blockFitsCatcher", "()Z"⟩, 7) := ⟨⟨by decide +kernel, by decide +kernel⟩, List.mem_of_getElem? (i := 21) (by decide +kernel), List.mem_of_getElem? (i := 523) (by decide +kernel), List.mem_of_getElem? (i := 524) (by decide +kernel)⟩
theorem lw_p10 : lw_okq (⟨"FountainDesk", "catchFromBlock", "(I)I"⟩, 7) := ⟨⟨by decide +kernel, by decide +kernel⟩, List.mem_of_getElem? (i := 21) (by decide +kernel), List.mem_of_getElem? (i := 527) (by decide +kernel), List.mem_of_getElem? (i := 528) (by decide +kernel)⟩
theorem lw_p11 : lw_okq (⟨"FountainDesk", "catchFromTape", "(I)I"⟩, 7) := ⟨⟨by decide +kernel, by decide +kernel⟩, List.mem_of_getElem? (i := 21) (by decide +kernel), List.mem_of_getElem? (i := 553) (by decide +kernel), List.mem_of_getElem? (i := 554) (by decide +kernel)⟩
theorem lw_p12 : lw_okq (⟨"FountainDesk", "catcherDerives", "(I)Z"⟩, 7) := ⟨⟨by decide +kernel, by decide +kernel⟩, List.mem_of_getElem? (i := 21) (by decide +kernel), List.mem_of_getElem? (i := 571) (by decide +kernel), List.mem_of_getElem? (i := 572) (by decide +kernel)⟩
theorem lw_p13 : lw_okq (⟨"FountainDesk", "symbolsThatFollow", "()I"⟩, 7) := ⟨⟨by decide +kernel, by decide +kernel⟩, List.mem_of_getElem? (i := 21) (by decide +kernel), List.mem_of_getElem? (i := 598) (by decide +kernel), List.mem_of_getElem? (i := 599) (by decide +kernel)⟩
theorem lw_p14 : lw_okq (⟨"FountainDeskModel", "turnOf", "(I)I"⟩, 19) := ⟨⟨by decide +kernel, by decide +kernel⟩, List.mem_of_getElem? (i := 602) (by decide +kernel), List.mem_of_getElem? (i := 689) (by decide +kernel), List.mem_of_getElem? (i := 690) (by decide +kernel)⟩
theorem lw_p15 : lw_okq (⟨"FountainDeskModel", "isFull", "(II)Z"⟩, 19) := ⟨⟨by decide +kernel, by decide +kernel⟩, List.mem_of_getElem? (i := 602) (by decide +kernel), List.mem_of_getElem? (i := 693) (by decide +kernel), List.mem_of_getElem? (i := 694) (by decide +kernel)⟩
def lw_privs_1 : List (MethodName × Nat) := [(⟨"java/lang/Throwable", "fillInStackTrace", "(I)Ljava/lang/Throwable;"⟩, 6), (⟨"FountainDesk$Turns", "fillsRank", "(II)Z"⟩, 3), (⟨"FountainDesk$Equations", "setSumLine", "(II)V"⟩, 7), (⟨"FountainDesk$Equations", "reduceLine", "()V"⟩, 7), (⟨"FountainDesk$Equations", "lineLead", "()I"⟩, 7), (⟨"FountainDesk$Equations", "hasValueLeft", "()Z"⟩, 7), (⟨"FountainDesk$Equations", "keepLine", "(I)V"⟩, 7), (⟨"FountainDesk$Equations", "setPowerLine", "(II)V"⟩, 7), (⟨"FountainDesk", "solveTape", "(III)V"⟩, 7), (⟨"FountainDesk", "blockFitsCatcher", "()Z"⟩, 7), (⟨"FountainDesk", "catchFromBlock", "(I)I"⟩, 7), (⟨"FountainDesk", "catchFromTape", "(I)I"⟩, 7), (⟨"FountainDesk", "catcherDerives", "(I)Z"⟩, 7), (⟨"FountainDesk", "symbolsThatFollow", "()I"⟩, 7), (⟨"FountainDeskModel", "turnOf", "(I)I"⟩, 19), (⟨"FountainDeskModel", "isFull", "(II)Z"⟩, 19)]
theorem lw_r1 : ∀ q ∈ lw_privs_1, lw_okq q := List.forall_mem_cons.mpr ⟨lw_p0, List.forall_mem_cons.mpr ⟨lw_p1, List.forall_mem_cons.mpr ⟨lw_p2, List.forall_mem_cons.mpr ⟨lw_p3, List.forall_mem_cons.mpr ⟨lw_p4, List.forall_mem_cons.mpr ⟨lw_p5, List.forall_mem_cons.mpr ⟨lw_p6, List.forall_mem_cons.mpr ⟨lw_p7, List.forall_mem_cons.mpr ⟨lw_p8, List.forall_mem_cons.mpr ⟨lw_p9, List.forall_mem_cons.mpr ⟨lw_p10, List.forall_mem_cons.mpr ⟨lw_p11, List.forall_mem_cons.mpr ⟨lw_p12, List.forall_mem_cons.mpr ⟨lw_p13, List.forall_mem_cons.mpr ⟨lw_p14, List.forall_mem_cons.mpr ⟨lw_p15, fun _ h => absurd h List.not_mem_nil⟩⟩⟩⟩⟩⟩⟩⟩⟩⟩⟩⟩⟩⟩⟩⟩
theorem lw_p16 : lw_okq (⟨"FountainDeskModel", "start", "(I)V"⟩, 19) := ⟨⟨by decide +kernel, by decide +kernel⟩, List.mem_of_getElem? (i := 602) (by decide +kernel), List.mem_of_getElem? (i := 697) (by decide +kernel), List.mem_of_getElem? (i := 698) (by decide +kernel)⟩
theorem lw_p17 : lw_okq (⟨"FountainDeskModel", "fixed", "(II)V"⟩, 19) := ⟨⟨by decide +kernel, by decide +kernel⟩, List.mem_of_getElem? (i := 602) (by decide +kernel), List.mem_of_getElem? (i := 701) (by decide +kernel), List.mem_of_getElem? (i := 702) (by decide +kernel)⟩
theorem lw_p18 : lw_okq (⟨"FountainDeskModel", "blank", "()V"⟩, 19) := ⟨⟨by decide +kernel, by decide +kernel⟩, List.mem_of_getElem? (i := 602) (by decide +kernel), List.mem_of_getElem? (i := 705) (by decide +kernel), List.mem_of_getElem? (i := 706) (by decide +kernel)⟩
theorem lw_p19 : lw_okq (⟨"FountainDeskModel", "power", "(I)I"⟩, 19) := ⟨⟨by decide +kernel, by decide +kernel⟩, List.mem_of_getElem? (i := 602) (by decide +kernel), List.mem_of_getElem? (i := 709) (by decide +kernel), List.mem_of_getElem? (i := 710) (by decide +kernel)⟩
theorem lw_p20 : lw_okq (⟨"FountainDeskModel", "isAdded", "(I)Z"⟩, 19) := ⟨⟨by decide +kernel, by decide +kernel⟩, List.mem_of_getElem? (i := 602) (by decide +kernel), List.mem_of_getElem? (i := 713) (by decide +kernel), List.mem_of_getElem? (i := 714) (by decide +kernel)⟩
theorem lw_p21 : lw_okq (⟨"FountainDeskModel", "isReduced", "(I)Z"⟩, 19) := ⟨⟨by decide +kernel, by decide +kernel⟩, List.mem_of_getElem? (i := 602) (by decide +kernel), List.mem_of_getElem? (i := 717) (by decide +kernel), List.mem_of_getElem? (i := 718) (by decide +kernel)⟩
theorem lw_p22 : lw_okq (⟨"FountainDeskModel", "packet", "(III)I"⟩, 19) := ⟨⟨by decide +kernel, by decide +kernel⟩, List.mem_of_getElem? (i := 602) (by decide +kernel), List.mem_of_getElem? (i := 724) (by decide +kernel), List.mem_of_getElem? (i := 725) (by decide +kernel)⟩
theorem lw_p23 : lw_okq (⟨"FountainDeskModel", "summed", "(I)I"⟩, 19) := ⟨⟨by decide +kernel, by decide +kernel⟩, List.mem_of_getElem? (i := 602) (by decide +kernel), List.mem_of_getElem? (i := 756) (by decide +kernel), List.mem_of_getElem? (i := 757) (by decide +kernel)⟩
theorem lw_p24 : lw_okq (⟨"FountainDeskModel", "isSame", "()Z"⟩, 19) := ⟨⟨by decide +kernel, by decide +kernel⟩, List.mem_of_getElem? (i := 602) (by decide +kernel), List.mem_of_getElem? (i := 772) (by decide +kernel), List.mem_of_getElem? (i := 773) (by decide +kernel)⟩
theorem lw_p25 : lw_okq (⟨"FountainDeskModel", "taken", "(I)I"⟩, 19) := ⟨⟨by decide +kernel, by decide +kernel⟩, List.mem_of_getElem? (i := 602) (by decide +kernel), List.mem_of_getElem? (i := 776) (by decide +kernel), List.mem_of_getElem? (i := 777) (by decide +kernel)⟩
theorem lw_p26 : lw_okq (⟨"FountainDeskModel", "comes", "(I)I"⟩, 19) := ⟨⟨by decide +kernel, by decide +kernel⟩, List.mem_of_getElem? (i := 602) (by decide +kernel), List.mem_of_getElem? (i := 780) (by decide +kernel), List.mem_of_getElem? (i := 781) (by decide +kernel)⟩
theorem lw_p27 : lw_okq (⟨"FountainDeskModel", "gather", "()V"⟩, 19) := ⟨⟨by decide +kernel, by decide +kernel⟩, List.mem_of_getElem? (i := 602) (by decide +kernel), List.mem_of_getElem? (i := 784) (by decide +kernel), List.mem_of_getElem? (i := 785) (by decide +kernel)⟩
theorem lw_p28 : lw_okq (⟨"FountainDeskModel", "isKnown", "(I)Z"⟩, 19) := ⟨⟨by decide +kernel, by decide +kernel⟩, List.mem_of_getElem? (i := 602) (by decide +kernel), List.mem_of_getElem? (i := 805) (by decide +kernel), List.mem_of_getElem? (i := 806) (by decide +kernel)⟩
def lw_privs_2 : List (MethodName × Nat) := [(⟨"FountainDeskModel", "start", "(I)V"⟩, 19), (⟨"FountainDeskModel", "fixed", "(II)V"⟩, 19), (⟨"FountainDeskModel", "blank", "()V"⟩, 19), (⟨"FountainDeskModel", "power", "(I)I"⟩, 19), (⟨"FountainDeskModel", "isAdded", "(I)Z"⟩, 19), (⟨"FountainDeskModel", "isReduced", "(I)Z"⟩, 19), (⟨"FountainDeskModel", "packet", "(III)I"⟩, 19), (⟨"FountainDeskModel", "summed", "(I)I"⟩, 19), (⟨"FountainDeskModel", "isSame", "()Z"⟩, 19), (⟨"FountainDeskModel", "taken", "(I)I"⟩, 19), (⟨"FountainDeskModel", "comes", "(I)I"⟩, 19), (⟨"FountainDeskModel", "gather", "()V"⟩, 19), (⟨"FountainDeskModel", "isKnown", "(I)Z"⟩, 19)]
theorem lw_r2 : ∀ q ∈ lw_privs_2, lw_okq q := List.forall_mem_cons.mpr ⟨lw_p16, List.forall_mem_cons.mpr ⟨lw_p17, List.forall_mem_cons.mpr ⟨lw_p18, List.forall_mem_cons.mpr ⟨lw_p19, List.forall_mem_cons.mpr ⟨lw_p20, List.forall_mem_cons.mpr ⟨lw_p21, List.forall_mem_cons.mpr ⟨lw_p22, List.forall_mem_cons.mpr ⟨lw_p23, List.forall_mem_cons.mpr ⟨lw_p24, List.forall_mem_cons.mpr ⟨lw_p25, List.forall_mem_cons.mpr ⟨lw_p26, List.forall_mem_cons.mpr ⟨lw_p27, List.forall_mem_cons.mpr ⟨lw_p28, fun _ h => absurd h List.not_mem_nil⟩⟩⟩⟩⟩⟩⟩⟩⟩⟩⟩⟩⟩
def lw_privs : List (MethodName × Nat) := lw_privs_1 ++ (lw_privs_2)
def lw_tbl : List Cond := k2_sels lw_privs ++ tables_1
theorem lw_privs_ok : ∀ q ∈ lw_privs, lw_okq q := by
  show ∀ q ∈ lw_privs_1 ++ (lw_privs_2), lw_okq q
  exact List.forall_mem_append.mpr ⟨lw_r1, lw_r2⟩
end
section
/-! ===== BEGIN words of one list among another's, by their places ===== -/
theorem goodIn_r {big : List Cond} (ws : List Cond) (ps : List Nat) (hp : ws = ps.filterMap (fun i => big[i]?)) (h : ws.all goodWord = true) : GoodIn big ws := by
  intro w hw
  have h1 := List.all_eq_true.mp h w hw
  rw [hp] at hw
  obtain ⟨i, -, hi⟩ := List.mem_filterMap.mp hw
  have hm : w ∈ big := by first | exact List.mem_of_getElem? hi | exact List.getElem?_mem hi
  exact ⟨hm, good_of_word h1⟩
theorem goodIn_app {big a b : List Cond} (ha : GoodIn big a) (hb : GoodIn big b) : GoodIn big (a ++ b) := fun w h => (List.mem_append.mp h).elim (ha w) (hb w)
theorem goodIn_ca {big a b : List Cond} {c : Cond} (ha : GoodIn big (c :: a)) (hb : GoodIn big b) : GoodIn big (c :: (a ++ b)) := fun w h => (List.mem_cons.mp h).elim (fun e => ha w (List.mem_cons.mpr (Or.inl e))) (fun h => (List.mem_append.mp h).elim (fun h => ha w (List.mem_cons.mpr (Or.inr h))) (hb w))
theorem goodIn_sub {big ws : List Cond} (hm : ∀ w ∈ ws, w ∈ big) (h : ws.all goodWord = true) : GoodIn big ws := fun w hw => ⟨hm w hw, good_of_word (List.all_eq_true.mp h w hw)⟩
/-! ===== END ===== -/

/-! ===== BEGIN new T[n][m]: the outer array a place, the inner ones among the pooled ===== -/
/-- f, but v at every address of l -/
def vr_up {α : Type} (f : Nat → α) (l : List Nat) (v : α) : Nat → α := fun a => if a ∈ l then v else f a
theorem vr_up_in {α : Type} {f : Nat → α} {l : List Nat} {v : α} {a : Nat} (h : a ∈ l) : vr_up f l v a = v := if_pos h
theorem vr_up_ne {α : Type} {f : Nat → α} {l : List Nat} {v : α} {a : Nat} (h : a ∉ l) : vr_up f l v a = f a := if_neg h
theorem vr_rows {L l : List Nat} {f : Nat → va_E} {e : va_E} (h : ∀ a, a ∈ l → a ∉ L) : va_pl L f ++ l.map (fun a => (a, e)) = va_pl (L ++ l) (vr_up f l e) := by
  unfold va_pl
  rw [List.map_append]
  congr 1
  · apply List.map_congr_left
    intro a ha
    rw [vr_up_ne (fun q => h a q ha)]
  · apply List.map_congr_left
    intro a ha
    rw [vr_up_in ha]
theorem vr_lay {X rows : va_W} {x : Nat × va_E} {pl : va_W} {D : va_G} {cl : List vw_C} {H : Heap} (hP : va_P D cl (((X ++ pl) ++ [x]) ++ rows) H) : va_P D cl ((X ++ [x]) ++ (pl ++ rows)) H := by
  rw [List.append_assoc (X ++ pl)] at hP
  have h := va_P.swap hP
  rw [← List.append_assoc X] at h
  have h2 := va_P.swap h
  rw [List.append_assoc (X ++ [x])] at h2
  exact h2
theorem vr_layD {X rows : va_W} {x : Nat × va_E} {pl : va_W} {A : Nat → Prop} (hD : va_D A (((X ++ pl) ++ [x]) ++ rows)) : va_D A ((X ++ [x]) ++ (pl ++ rows)) := by
  rw [List.append_assoc (X ++ pl)] at hD
  have h := va_D.swap hD
  rw [← List.append_assoc X] at h
  have h2 := va_D.swap h
  rw [List.append_assoc (X ++ [x])] at h2
  exact h2
/-! ===== END ===== -/

/-! ===== BEGIN exceptions that leave a method, and their catching by the caller (launches without stack traces) ===== -/
section VXA
/-! The laws vx_back, vx_callV, vx_callS, vx_callSW, vx_throw0, vx_throwS follow proofs of the library, with one case more: JvmDerived/Free/Laws.lean (Back.of_free), Shelf42/LK1.lean (callV, callS), Shelf/KitTraced.lean (throwNew0V, throwNewS). -/
/-- where a method has thrown q: the class by its name, the cell, what was written, the world -/
def vx_T (XC : String → State → State → Prop) (st : State) (q : Addr) (t : State) (mc ms : Nat) (free : Addr → Prop) : Prop :=
  ∃ (E : String) (ce : Cell) (L : List Loc), XC E st t ∧ t.heap[q]? = some ce ∧ ce.vm = .none ∧ st.vm.findClass E = some ce.cls ∧ st.WarmedH t.vm ∧ st.sameButNew ({ t with vm := st.vm } : State) L mc ms ∧ ∀ z ∈ L, free z.base
def vx_Q (Qc : Array Value → State → Outcome → State → Prop) (XC : String → State → State → Prop) (mc ms : Nat) (free : Addr → Prop) : Array Value → State → Outcome → State → Prop := fun a st o t =>
  (Qc a st o t ∧ ∃ L, FrameEnd st o t L mc ms ∧ ∀ q ∈ L, free q.base) ∨ ∃ q, o = .threw q ∧ vx_T XC st q t mc ms free
/-- a callee that returns or throws -/
def vx_Met (l : Launch) (y : MethodName) (ws : List Cond) (rm : Room) (Pc : Array Value → State → Prop) (Qc : Array Value → State → Outcome → State → Prop) (XC : String → State → State → Prop) (mc ms : Nat) (free : Addr → Prop) : Prop :=
  MetFree l y (headSpec ws rm) Pc (fun _ _ _ _ _ => True) (vx_Q Qc XC mc ms free)
def vx_Post (XC : String → State → State → Prop) (mc ms : Nat) (free : Addr → Prop) : Pt → Array Value → Addr → Pt → Prop := fun A a q B =>
  ∃ (g : JFrame) (mk : MethodId) (t : State) (L : List Loc) (E : String) (ce : Cell), B.U.heap = t.heap ∧ B.U.vm = t.vm ∧ XC E (A.U.calling g mk a) t ∧ t.heap[q]? = some ce ∧ ce.vm = .none ∧ A.U.vm.findClass E = some ce.cls ∧ B.locs = A.locs ++ L ∧ (∀ z ∈ L, free z.base) ∧ B.cells = A.cells + mc ∧ B.slots = A.slots + ms
def vx_Back (l : Launch) (R : Room) (p : Program) (e : Env) (below : List Frame) (s : State) (sargs : Array Value) (y : MethodName) (len W9 : Nat)
    (Pre : Pt → Array Value → Prop) (Post : Pt → Array Value → Option Value → Pt → Prop) (PostX : Pt → Array Value → Addr → Pt → Prop) : Prop :=
  ∀ (m : MethodId) (meth : Method) (c : Code) (A : Pt) (g : JFrame) (ig : Instr) (mk : MethodId) (a : Array Value),
    Stand p l e R s m sargs below meth c A.U A.locs A.cells A.slots → g.method = m → g.locals.size = c.maxLocals → decode c.code g.pc = .ok (ig, len) →
    2 * g.monitorRoom + (g.stack.map fun v => v.category).sum ≤ W9 → A.U.methodNamed? y = some mk → Pre A a →
    (∃ (v : Option Value) (B : Pt), Stand p l e R s m sargs below meth c B.U B.locs B.cells B.slots ∧ Post A a v B ∧
      Steps p.tables e below (doInvoke e (A.U.setTop g) [] mk a).1 (B.U.setTop { g with pc := g.pc + len, stack := v.toList ++ g.stack })) ∨
    (∃ (q : Addr) (B : Pt), Stand p l e R s m sargs below meth c B.U B.locs B.cells B.slots ∧ PostX A a q B ∧
      Steps p.tables e below (doInvoke e (A.U.setTop g) [] mk a).1 ((B.U.setTop g).pushFrame (.throwing q)))
section Payer
variable {l : Launch} {R : Room} {p : Program} {e : Env} {below : List Frame} {s : State} {sargs : Array Value} {y : MethodName} {len W9 : Nat}
theorem vx_back {ws : List Cond} {rm : Room} {Pc : Array Value → State → Prop} {Qc : Array Value → State → Outcome → State → Prop} {XC : String → State → State → Prop} {mc ms : Nat} {free : Addr → Prop} {bytes : ByteArray} {maxL : Nat} {ret : Option FieldType}
    (hM : vx_Met l y ws rm Pc Qc XC mc ms free) (hblind : FrameBlind Pc) (hrc : rm.cells = mc) (hrs : rm.slots = ms)
    (hframes : rm.frames + 1 ≤ R.frames) (hlocals : W9 + (maxL + 11) + rm.locals ≤ R.locals)
    (hws : ∀ w ∈ ws, ∀ a' U, s.WarmedH U.vm → w.before a' U = true) (hcode : Cond.code y bytes maxL ret ∈ ws) (hinit : ∀ a' U, s.WarmedH U.vm → (Cond.initialized y.cls).before a' U = true) :
    vx_Back l R p e below s sargs y len W9 (PreOf R mc ms Pc) (PostOf Qc mc ms free) (vx_Post XC mc ms free) := by
  intro m meth c A g ig mk a X hg hsize hdg hW hn hp
  have h1 : (headSpec ws rm).pre.before a A.U = true := atoms_intro fun w hw => hws w hw _ _ X.warmed
  have h2 : (Cond.code y bytes maxL ret).before a A.U = true := hws _ hcode _ _ X.warmed
  have h3 : (Cond.initialized y.cls).before a A.U = true := hinit _ _ X.warmed
  have h4 : A.cells + (headSpec ws rm).room.cells ≤ R.cells := by rw [show (headSpec ws rm).room.cells = mc from hrc]; exact hp.1
  have h5 : A.slots + (headSpec ws rm).room.slots ≤ R.slots := by rw [show (headSpec ws rm).room.slots = ms from hrs]; exact hp.2.1
  have hPc : Pc a (A.U.calling g mk a) := hblind _ _ _ _ hp.2.2
  obtain ⟨U, Ls, c0, s0⟩ := A
  dsimp only [Pt.U, Pt.locs, Pt.cells, Pt.slots] at h1 h2 h3 h4 h5 X hn hPc ⊢
  obtain ⟨methY, cY, hmY, hcY, -, hlY, -, -, -, -⟩ := Cond.code_spec hn h2
  obtain ⟨kY, hkY, -⟩ := className_of_methodNamed hn
  have hinitY : kY.init = .initialized := Cond.initialized_spec (findClass_of_methodNamed hn) hkY h3
  have h : At U g.method c below := by rw [hg]; exact X.here
  have hlocals9 : W9 + (maxL + 11) + (headSpec ws rm).room.locals ≤ R.locals := hlocals
  have happ : (headSpec ws rm).appliesLoose y e.platform (U.calling g mk a) = true :=
    Spec.appliesLoose_calling (g := g) h hdg hn hkY hinitY
      (X.room_calling (g := g) (R' := (headSpec ws rm).room) hsize hmY hcY hframes (by rw [hlY]; omega) h4 h5) h1
  obtain ⟨mid, hmid⟩ := h.above
  have hfr : (U.setTop g).frames = (.java g :: mid) ++ below := by rw [State.frames_setTop' g h.top, hmid]; rfl
  obtain ⟨o, s₂, hsteps, -, hend, hq⟩ := Steps.callFree hM p X.admits X.cas X.clock (acts := []) hfr happ hPc trivial
  have hq' : vx_Q Qc XC mc ms free a (U.calling g mk a) o s₂ := hq
  rw [State.frames_setTop' g h.top] at hend
  obtain ⟨g₀, hg0⟩ := Option.isSome_iff_exists.mp h.top
  obtain ⟨r, hr⟩ := State.topJava?_eq_some.mp hg0
  have hr' : (({ U with heap := s₂.heap, slotsUsed := s₂.slotsUsed } : State).setVm s₂.vm).frames = .java g₀ :: r := hr
  rcases hq' with ⟨hqc, L, hfe, hL⟩ | ⟨q, rfl, E, ce, L, hx, hce, hcv, hcl, hW₂, hsm, hL⟩
  · obtain ⟨⟨v, rfl⟩, hW₂, e2, q2, q3, q4, q5, q6⟩ := id hfe
    have e3 : s₂ = ({ (U.calling g mk a).setFrames s₂.frames with heap := s₂.heap, slotsUsed := s₂.slotsUsed } : State).setVm s₂.vm := by
      have : s₂ = ({ s₂ with vm := (U.calling g mk a).vm } : State).setVm s₂.vm := rfl
      rw [e2] at this
      exact this
    obtain ⟨c₂, i₂, len₂, hc₂, hd₂, hf₂⟩ := hend
    have hW' : U.WarmedH s₂.vm := hW₂
    have hcc : c₂ = c := by
      have h1 : s₂.code? g.method = U.code? g.method := by
        rw [State.code?_eq, State.code?_eq, hW'.alike.method?]
      exact Option.some.inj (hc₂.symm.trans (h1.trans h.code))
    subst hcc
    have hlen : len₂ = len := by rw [hdg] at hd₂; cases hd₂; rfl
    subst hlen
    have hs₂ : s₂ = (({ U with heap := s₂.heap, slotsUsed := s₂.slotsUsed } : State).setVm s₂.vm).setTop { g with pc := g.pc + len₂, stack := v.toList ++ g.stack } := by
      refine e3.trans ?_
      rw [hf₂, State.calling_eq h.top, State.setFrames_setFrames, State.setTop_of_frames _ hr', hr]
      rfl
    have hsame : U.sameButNew ({ U with heap := s₂.heap, slotsUsed := s₂.slotsUsed } : State) L mc ms := by
      refine ⟨?_, q2, q3, q4, q5, q6⟩
      obtain ⟨t, ht, -⟩ := State.frames_cons hr
      show ({ U with heap := s₂.heap, slotsUsed := s₂.slotsUsed } : State) = { U.setFrames U.frames with heap := s₂.heap, slotsUsed := s₂.slotsUsed }
      rw [State.setFrames_self ht]
    subst hg
    refine Or.inl ⟨v, ⟨(({ U with heap := s₂.heap, slotsUsed := s₂.slotsUsed } : State).setVm s₂.vm), Ls ++ L, c0 + mc, s0 + ms⟩,
      ⟨X.admits, X.cas, X.clock, X.frames, X.room, X.hears, X.method, X.code, (X.here.setHeapUsed s₂.heap s₂.slotsUsed).setVm hW'.alike, X.tail, State.WarmedH.trans X.warmed hW', X.limits, X.bytes, X.same.trans (hsame.setVm s.vm)⟩,
      ⟨g, mk, s₂, L, rfl, rfl, hqc, rfl, hL, rfl, rfl⟩, ?_⟩
    show Steps p.tables e below _ ((({ U with heap := s₂.heap, slotsUsed := s₂.slotsUsed } : State).setVm s₂.vm).setTop { g with pc := g.pc + len₂, stack := v.toList ++ g.stack })
    rw [← hs₂]
    exact hsteps
  · obtain ⟨e2, q2, q3, q4, q5, q6⟩ := id hsm
    have e3 : s₂ = ({ (U.calling g mk a).setFrames s₂.frames with heap := s₂.heap, slotsUsed := s₂.slotsUsed } : State).setVm s₂.vm := by
      have : s₂ = ({ s₂ with vm := (U.calling g mk a).vm } : State).setVm s₂.vm := rfl
      rw [e2] at this
      exact this
    have hf₂ : s₂.frames = .throwing q :: .java g :: U.frames.tail := hend
    have hW' : U.WarmedH s₂.vm := hW₂
    have hs₂ : s₂ = ((({ U with heap := s₂.heap, slotsUsed := s₂.slotsUsed } : State).setVm s₂.vm).setTop g).pushFrame (.throwing q) := by
      refine e3.trans ?_
      rw [hf₂, State.calling_eq h.top, State.setFrames_setFrames, State.pushFrame, State.frames_setTop _ hr', State.setTop_of_frames _ hr', State.setFrames_setFrames, hr]
      rfl
    have hsame : U.sameButNew ({ U with heap := s₂.heap, slotsUsed := s₂.slotsUsed } : State) L mc ms := by
      refine ⟨?_, q2, q3, q4, q5, q6⟩
      obtain ⟨t, ht, -⟩ := State.frames_cons hr
      show ({ U with heap := s₂.heap, slotsUsed := s₂.slotsUsed } : State) = { U.setFrames U.frames with heap := s₂.heap, slotsUsed := s₂.slotsUsed }
      rw [State.setFrames_self ht]
    subst hg
    refine Or.inr ⟨q, ⟨(({ U with heap := s₂.heap, slotsUsed := s₂.slotsUsed } : State).setVm s₂.vm), Ls ++ L, c0 + mc, s0 + ms⟩,
      ⟨X.admits, X.cas, X.clock, X.frames, X.room, X.hears, X.method, X.code, (X.here.setHeapUsed s₂.heap s₂.slotsUsed).setVm hW'.alike, X.tail, State.WarmedH.trans X.warmed hW', X.limits, X.bytes, X.same.trans (hsame.setVm s.vm)⟩,
      ⟨g, mk, s₂, L, E, ce, rfl, rfl, hx, hce, hcv, hcl, rfl, hL, rfl, rfl⟩, ?_⟩
    show Steps p.tables e below _ (((({ U with heap := s₂.heap, slotsUsed := s₂.slotsUsed } : State).setVm s₂.vm).setTop g).pushFrame (.throwing q))
    rw [← hs₂]
    exact hsteps
end Payer
section Calls
variable {p : Program} {l : Launch} {e : Env} {R : Room} {s : State} {m : MethodId} {args : Array Value} {below : List Frame} {meth : Method} {c : Code} {T : State} {locs : List Loc} {cells slots : Nat}
theorem vx_callV (X : Stand p l e R s m args below meth c T locs cells slots) (hexec : p.tables.exec = Jvm.exec) {own C : String} {index : Nat} {y : MethodName} {bytes : ByteArray} {maxL : Nat} {ret : Option FieldType}
    (hown : s.vm.findClass own = some m.cls) (hlink : (Cond.methodLink own index y).before args s = true) (hinst : (Cond.instanceMethod y).before args s = true) (hsel : (Cond.selects C y y).before args s = true)
    (hcode : (Cond.code y bytes maxL ret).before args s = true) (hy : y.cls ≠ "java/lang/invoke/MethodHandle" ∧ y.cls ≠ "java/lang/invoke/VarHandle")
    {W9 : Nat} {Pre : Pt → Array Value → Prop} {Post : Pt → Array Value → Option Value → Pt → Prop} {PostX : Pt → Array Value → Addr → Pt → Prop} (hK : vx_Back l R p e below s args y 3 W9 Pre Post PostX)
    {b : Addr} {cellB : Cell} (hcell : T.heap[b]? = some cellB) (hobj : cellB.vm.isStatics = false) (hcls : s.vm.findClass C = some cellB.cls)
    {g : JFrame} (hg : g.method = m) (hsize : g.locals.size = c.maxLocals) {argsL rest : List Value} (hlen : ∀ sig, parseMethodDescriptor y.desc = some sig → argsL.length = sig.parameters.length)
    (hstack : g.stack = argsL.reverse ++ .ref b :: rest) (hW : 2 * g.monitorRoom + (rest.map fun v => v.category).sum ≤ W9) (hdg : decode c.code g.pc = .ok (.invokevirtual index, 3))
    (hpre : ∀ vm₁, s.WarmedH vm₁ → Pre ⟨T.setVm vm₁, locs, cells, slots⟩ (Value.ref b :: argsL).toArray) :
    (∃ (v : Option Value) (vm₁ : Vm) (B : Pt), s.WarmedH vm₁ ∧ Stand p l e R s m args below meth c B.U B.locs B.cells B.slots ∧ Post ⟨T.setVm vm₁, locs, cells, slots⟩ (Value.ref b :: argsL).toArray v B ∧
      ∀ target, Steps p.tables e below (B.U.setTop { g with pc := g.pc + 3, stack := v.toList ++ rest }) target → Steps p.tables e below (T.setTop g) target) ∨
    (∃ (q : Addr) (vm₁ : Vm) (B : Pt), s.WarmedH vm₁ ∧ Stand p l e R s m args below meth c B.U B.locs B.cells B.slots ∧ PostX ⟨T.setVm vm₁, locs, cells, slots⟩ (Value.ref b :: argsL).toArray q B ∧
      Steps p.tables e below (T.setTop g) ((B.U.setTop { g with stack := rest }).pushFrame (.throwing q))) := by
  obtain ⟨mk, methM, hnamed, hmethM, hstM, habM⟩ := Cond.instanceMethod_spec hinst
  obtain ⟨methM', cM, hmethM', -, -, -, -, -, -, hsigM⟩ := Cond.code_spec hnamed hcode
  cases hmethM.symm.trans hmethM'
  obtain ⟨c2, r2, m2, q1, q2, q3, q4, kP, hkP, hkPi⟩ := Cond.selects_spec hsel
  cases hcls.symm.trans q1
  cases (State.methodFound?_of_named hnamed hy).symm.trans q2
  cases hnamed.symm.trans q3
  have hselP : selectMethod e.platform s.vm cellB.cls mk = .method mk := by rw [Launch.admits_selectMethod X.admits]; exact q4
  obtain ⟨vm₁, X₁, hstep₁⟩ := X.invokevirtual hexec hown hlink hnamed hmethM hstM hkP hkPi hy (a := b) (cell := cellB) hcell
    (fun z h => by rw [h] at hobj; cases hobj) hselP hmethM habM hkP hkPi (g := g) hg (argsL := argsL) (rest := rest) (hlen _ hsigM) hstack hdg
  rcases hK m meth c ⟨T.setVm vm₁, locs, cells, slots⟩ { g with stack := rest } (.invokevirtual index) mk (Value.ref b :: argsL).toArray X₁ hg hsize hdg hW (X₁.named hnamed) (hpre vm₁ X₁.warmed) with ⟨v, B, X', hpost, hsteps⟩ | ⟨q, B, X', hpost, hsteps⟩
  · exact Or.inl ⟨v, vm₁, B, X₁.warmed, X', hpost, fun target h => hstep₁ _ fun acts => by rw [doInvoke_state]; exact hsteps.trans h⟩
  · exact Or.inr ⟨q, vm₁, B, X₁.warmed, X', hpost, hstep₁ _ fun acts => by rw [doInvoke_state]; exact hsteps⟩
theorem vx_callS (X : Stand p l e R s m args below meth c T locs cells slots) (hexec : p.tables.exec = Jvm.exec) {own : String} {index : Nat} {y : MethodName} {bytes : ByteArray} {maxL : Nat} {ret : Option FieldType}
    (hown : s.vm.findClass own = some m.cls) (hlink : (Cond.methodLink own index y).before args s = true) (hstat : (Cond.static y).before args s = true) (hinit : (Cond.initialized y.cls).before args s = true)
    (hcode : (Cond.code y bytes maxL ret).before args s = true) (hy : y.cls ≠ "java/lang/invoke/MethodHandle" ∧ y.cls ≠ "java/lang/invoke/VarHandle")
    {W9 : Nat} {Pre : Pt → Array Value → Prop} {Post : Pt → Array Value → Option Value → Pt → Prop} {PostX : Pt → Array Value → Addr → Pt → Prop} (hK : vx_Back l R p e below s args y 3 W9 Pre Post PostX)
    {g : JFrame} (hg : g.method = m) (hsize : g.locals.size = c.maxLocals) {argsL rest : List Value} (hlen : ∀ sig, parseMethodDescriptor y.desc = some sig → argsL.length = sig.parameters.length)
    (hstack : g.stack = argsL.reverse ++ rest) (hW : 2 * g.monitorRoom + (rest.map fun v => v.category).sum ≤ W9) (hdg : decode c.code g.pc = .ok (.invokestatic index, 3))
    (hpre : ∀ vm₁, s.WarmedH vm₁ → Pre ⟨T.setVm vm₁, locs, cells, slots⟩ argsL.toArray) :
    (∃ (v : Option Value) (vm₁ : Vm) (B : Pt), s.WarmedH vm₁ ∧ Stand p l e R s m args below meth c B.U B.locs B.cells B.slots ∧ Post ⟨T.setVm vm₁, locs, cells, slots⟩ argsL.toArray v B ∧
      ∀ target, Steps p.tables e below (B.U.setTop { g with pc := g.pc + 3, stack := v.toList ++ rest }) target → Steps p.tables e below (T.setTop g) target) ∨
    (∃ (q : Addr) (vm₁ : Vm) (B : Pt), s.WarmedH vm₁ ∧ Stand p l e R s m args below meth c B.U B.locs B.cells B.slots ∧ PostX ⟨T.setVm vm₁, locs, cells, slots⟩ argsL.toArray q B ∧
      Steps p.tables e below (T.setTop g) ((B.U.setTop { g with stack := rest }).pushFrame (.throwing q))) := by
  obtain ⟨mk, hnamed⟩ := Cond.code_named hcode
  obtain ⟨methM, cM, hmethM, -, -, -, -, -, -, hsigM⟩ := Cond.code_spec hnamed hcode
  have hstatic : methM.isStatic = true := Cond.static_spec hnamed hmethM hstat
  obtain ⟨kP, hkP, -⟩ := className_of_methodNamed hnamed
  have hinitP : kP.init = .initialized := Cond.initialized_spec (findClass_of_methodNamed hnamed) hkP hinit
  obtain ⟨vm₁, X₁, hstep₁⟩ := X.invokestatic hexec hown hlink hnamed hmethM hstatic hkP hinitP hy (g := g) hg (argsL := argsL) (rest := rest) (hlen _ hsigM) hstack hdg
  rcases hK m meth c ⟨T.setVm vm₁, locs, cells, slots⟩ { g with stack := rest } (.invokestatic index) mk argsL.toArray X₁ hg hsize hdg hW (X₁.named hnamed) (hpre vm₁ X₁.warmed) with ⟨v, B, X', hpost, hsteps⟩ | ⟨q, B, X', hpost, hsteps⟩
  · exact Or.inl ⟨v, vm₁, B, X₁.warmed, X', hpost, fun target h => hstep₁ _ fun acts => by rw [doInvoke_state]; exact hsteps.trans h⟩
  · exact Or.inr ⟨q, vm₁, B, X₁.warmed, X', hpost, hstep₁ _ fun acts => by rw [doInvoke_state]; exact hsteps⟩
end Calls
theorem vx_cls {s : State} {T : State} {vm₁ : Vm} {E : String} {k : ClassId} (hW : s.WarmedH vm₁) (h : (T.setVm vm₁).vm.findClass E = some k) : s.vm.findClass E = some k := by
  have h1 : vm₁.findClass E = some k := h
  rw [hW.alike.findClass] at h1
  exact h1
/-- the method's frame g, with q thrown over it -/
def vx_W (p : Program) (l : Launch) (e : Env) (R : Room) (s : State) (m : MethodId) (args : Array Value) (below : List Frame) (meth : Method) (c : Code) (H : Heap) (locs : List Loc) (cells slots : Nat) (Q : State → Prop) (g : JFrame) (q : Addr) : Prop :=
  ∀ T : State, T.heap = H → Stand p l e R s m args below meth c T locs cells slots → ∃ t, Steps p.tables e below ((T.setTop g).pushFrame (.throwing q)) t ∧ Q t
def vx_Run (p : Program) (l : Launch) (e : Env) (R : Room) (s : State) (m : MethodId) (args : Array Value) (below : List Frame) (meth : Method) (c : Code) (H : Heap) (locs : List Loc) (cells slots mc ms : Nat) (g : JFrame) (rest : List Value) (Qa : State → Outcome → State → Prop) (XC : String → State → State → Prop) (free : Addr → Prop) : Prop :=
  ∀ T : State, T.heap = H → Stand p l e R s m args below meth c T locs cells slots →
    (∃ (v : Option Value) (st₀ t T' : State) (L : List Loc), st₀.heap = H ∧ Stand p l e R s m args below meth c T' (locs ++ L) (cells + mc) (slots + ms) ∧ (∀ q ∈ L, free q.base) ∧ T'.heap = t.heap ∧ T'.vm = t.vm ∧ Qa st₀ (.returned v) t ∧
      Goes p e below T g T' { g with pc := g.pc + 3, stack := v.toList ++ rest }) ∨
    (∃ (q : Addr) (st₀ t T' : State) (L : List Loc) (E : String) (ce : Cell), st₀.heap = H ∧ Stand p l e R s m args below meth c T' (locs ++ L) (cells + mc) (slots + ms) ∧ (∀ z ∈ L, free z.base) ∧ T'.heap = t.heap ∧ T'.vm = t.vm ∧ XC E st₀ t ∧ t.heap[q]? = some ce ∧ ce.vm = .none ∧ s.vm.findClass E = some ce.cls ∧
      Steps p.tables e below (T.setTop g) ((T'.setTop { g with stack := rest }).pushFrame (.throwing q)))
def vx_X {S : Type} (px : S → Prop) (B : String → S → State → Prop) (A : Nat → Prop) : String → State → State → Prop := fun E st t => ∃ u : S, px u ∧ B E u t ∧ va_F A st t
section Runs
variable {p : Program} {l : Launch} {e : Env} {R : Room} {s : State} {m : MethodId} {args : Array Value} {below : List Frame} {meth : Method} {c : Code} {H : Heap} {locs : List Loc} {cells slots : Nat}
variable {y : MethodName} {bytes cc : ByteArray} {maxL nL mc ms n index : Nat} {ret : Option FieldType} {ws : List Cond} {rm : Room} {Pc : Array Value → State → Prop} {Qc : Array Value → State → Outcome → State → Prop} {XC : String → State → State → Prop} {free : Addr → Prop} {Ts : List Cond} {own C : String} {b : Addr} {As rest : List Value} {g : JFrame}
theorem vx_callBack (cb : CallB R s args own index y bytes maxL ret ws rm mc ms n) (hM : vx_Met l y ws rm Pc Qc XC mc ms free) (hbl : FrameBlind Pc) : vx_Back l R p e below s args y 3 8 (PreOf R mc ms Pc) (PostOf Qc mc ms free) (vx_Post XC mc ms free) := by
  obtain ⟨hrc, hrs, hfr, hlo, hws, hcw, -, hini, -⟩ := cb
  exact vx_back (bytes := bytes) (maxL := maxL) (ret := ret) hM hbl hrc hrs hfr hlo hws hcw (fun a' U hW => word_at hW (Or.inl (by first | rfl | simp [Cond.onTables, Cond.keeps, Cond.steady])) hini)
theorem vx_runV (S : CallFix p m c cc nL s args Ts own) (hM : vx_Met l y ws rm Pc Qc XC mc ms free) (cw : CallW R s args own C index y bytes maxL ret ws rm mc ms n) (hp : PreV s H C b Pc As)
    (hg : g.method = m) (hn : As.length = n) (hsize : g.locals.size = nL) (hstack : g.stack = As.reverse ++ .ref b :: rest) (hW : 2 * g.monitorRoom + (rest.map fun v => v.category).sum ≤ 8) (hdg : decode cc g.pc = .ok (.invokevirtual index, 3)) (hf : cells + mc ≤ R.cells ∧ slots + ms ≤ R.slots) :
    vx_Run p l e R s m args below meth c H locs cells slots mc ms g rest (Qc (Value.ref b :: As).toArray) XC free := by
  have hK : vx_Back l R p e below s args y 3 8 (PreOf R mc ms Pc) (PostOf Qc mc ms free) (vx_Post XC mc ms free) := vx_callBack cw.1 hM hp.1
  obtain ⟨⟨-, -, -, -, -, -, hcode, -, hy, hlen, hl⟩, hin, hse⟩ := cw
  obtain ⟨hx, hb, hml, ho, -⟩ := S
  obtain ⟨-, ⟨cellB, hcB, hoB, hclB⟩, hPc⟩ := hp
  intro T hT X
  rcases vx_callV X hx (C := C) (bytes := bytes) (maxL := maxL) (ret := ret) ho hl hin hse hcode hy hK (by rw [hT]; exact hcB) hoB hclB hg (hsize.trans hml.symm) (argsL := As) (rest := rest) (fun sig h => hn.trans (hlen sig h)) hstack hW (by rw [hb]; exact hdg)
    (fun vm₁ hW₁ => ⟨hf.1, hf.2, hPc (T.setVm vm₁) hT hW₁⟩) with ⟨v, vm₁, ⟨U', l2, c2, s2⟩, hW₁, X', ⟨g', mk, t, L, e1, e2, hq, h1, hL, h2, h3⟩, st⟩ | ⟨q, vm₁, ⟨U', l2, c2, s2⟩, hW₁, X', ⟨g', mk, t, L, E, ce, e1, e2, hq, hce, hcv, hcl, h1, hL, h2, h3⟩, st⟩
  · dsimp only [Pt.U, Pt.locs, Pt.cells, Pt.slots] at X' e1 e2 h1 h2 h3 st
    subst h1; subst h2; subst h3
    exact Or.inl ⟨v, (T.setVm vm₁).calling g' mk (Value.ref b :: As).toArray, t, U', L, hT, X', hL, e1, e2, hq, st⟩
  · dsimp only [Pt.U, Pt.locs, Pt.cells, Pt.slots] at X' e1 e2 h1 h2 h3 st hcl
    subst h1; subst h2; subst h3
    exact Or.inr ⟨q, (T.setVm vm₁).calling g' mk (Value.ref b :: As).toArray, t, U', L, E, ce, hT, X', hL, e1, e2, hq, hce, hcv, vx_cls hW₁ hcl, st⟩
theorem vx_runS (S : CallFix p m c cc nL s args Ts own) (hM : vx_Met l y ws rm Pc Qc XC mc ms free) (cw : CallB R s args own index y bytes maxL ret ws rm mc ms n ∧ (Cond.static y).before args s = true) (hp : PreS s H Pc As)
    (hg : g.method = m) (hn : As.length = n) (hsize : g.locals.size = nL) (hstack : g.stack = As.reverse ++ rest) (hW : 2 * g.monitorRoom + (rest.map fun v => v.category).sum ≤ 8) (hdg : decode cc g.pc = .ok (.invokestatic index, 3)) (hf : cells + mc ≤ R.cells ∧ slots + ms ≤ R.slots) :
    vx_Run p l e R s m args below meth c H locs cells slots mc ms g rest (Qc As.toArray) XC free := by
  have hK : vx_Back l R p e below s args y 3 8 (PreOf R mc ms Pc) (PostOf Qc mc ms free) (vx_Post XC mc ms free) := vx_callBack cw.1 hM hp.1
  obtain ⟨⟨-, -, -, -, -, -, hcode, hini, hy, hlen, hl⟩, hstt⟩ := cw
  obtain ⟨hx, hb, hml, ho, -⟩ := S
  intro T hT X
  rcases vx_callS X hx (bytes := bytes) (maxL := maxL) (ret := ret) ho hl hstt hini hcode hy hK hg (hsize.trans hml.symm) (argsL := As) (rest := rest) (fun sig h => hn.trans (hlen sig h)) hstack hW (by rw [hb]; exact hdg)
    (fun vm₁ hW₁ => ⟨hf.1, hf.2, hp.2 (T.setVm vm₁) hT hW₁⟩) with ⟨v, vm₁, ⟨U', l2, c2, s2⟩, hW₁, X', ⟨g', mk, t, L, e1, e2, hq, h1, hL, h2, h3⟩, st⟩ | ⟨q, vm₁, ⟨U', l2, c2, s2⟩, hW₁, X', ⟨g', mk, t, L, E, ce, e1, e2, hq, hce, hcv, hcl, h1, hL, h2, h3⟩, st⟩
  · dsimp only [Pt.U, Pt.locs, Pt.cells, Pt.slots] at X' e1 e2 h1 h2 h3 st
    subst h1; subst h2; subst h3
    exact Or.inl ⟨v, (T.setVm vm₁).calling g' mk As.toArray, t, U', L, hT, X', hL, e1, e2, hq, st⟩
  · dsimp only [Pt.U, Pt.locs, Pt.cells, Pt.slots] at X' e1 e2 h1 h2 h3 st hcl
    subst h1; subst h2; subst h3
    exact Or.inr ⟨q, (T.setVm vm₁).calling g' mk As.toArray, t, U', L, E, ce, hT, X', hL, e1, e2, hq, hce, hcv, vx_cls hW₁ hcl, st⟩
end Runs
section Rows
variable {p : Program} {l : Launch} {e : Env} {R : Room} {s : State} {m : MethodId} {args : Array Value} {below : List Frame} {meth : Method} {c : Code} {H : Heap} {locs : List Loc} {cells slots : Nat} {Q : State → Prop}
variable {mc ms : Nat} {free : Addr → Prop} {A0 A1 : Nat → Prop} {H0 : Heap} {a : Array Value} {pc : Nat} {ls : Array Slot} {st0 rest : List Value}
theorem vx_keep {st₀ t T' : State} {L : List Loc} (h0 : st₀.heap = H) (e1 : T'.heap = t.heap) (hS : va_S A0 H0 H locs) (hA : ∀ q, q < H.size → A1 q → A0 q) (hf : ∀ q, free q → A0 q) (hL : ∀ q ∈ L, free q.base) (hF : va_F A1 st₀ t) :
    H.size ≤ T'.heap.size ∧ (∀ q : Nat, q < H.size → ¬ A1 q → T'.heap[q]? = H[q]?) ∧ va_S A0 H0 T'.heap (locs ++ L) := by
  obtain ⟨hz, hk⟩ := hF
  rw [h0] at hz hk
  exact ⟨by rw [e1]; exact hz, fun q h1 h2 => by rw [e1]; exact hk q h1 h2,
    ⟨Nat.le_trans hS.1 (by rw [e1]; exact hz), fun q h1 h2 => by rw [e1, hk q (Nat.lt_of_lt_of_le h1 hS.1) (fun z => h2 (hA q (Nat.lt_of_lt_of_le h1 hS.1) z))]; exact hS.2.1 q h1 h2, fun q hq => by
      rcases List.mem_append.mp hq with h | h
      · exact hS.2.2 q h
      · exact hf _ (hL q h)⟩⟩
theorem vx_calli {S SX : Type} {post : Int32 → S → Prop} {px : SX → Prop} {B : S → State → Prop} {BX : String → SX → State → Prop} {AX : Nat → Prop} (hr : vx_Run p l e R s m args below meth c H locs cells slots mc ms (F0 m pc ls st0) rest (va_Qi post B A1 a) (vx_X px BX AX) free) (hS : va_S A0 H0 H locs) (hA : ∀ q, q < H.size → A1 q → A0 q) (hf : ∀ q, free q → A0 q) (hAX : ∀ q, q < H.size → AX q → A0 q)
    (kx : ∀ (E : String) (ce : Cell) (q9 : Addr) (u : SX) (t : State) (H1 : Heap) (locs1 : List Loc), t.heap = H1 → s.vm.Alike t.vm → px u → BX E u t → H.size ≤ H1.size → (∀ q : Nat, q < H.size → ¬ AX q → H1[q]? = H[q]?) → va_S A0 H0 H1 locs1 → H1[q9]? = some ce → ce.vm = .none → s.vm.findClass E = some ce.cls → vx_W p l e R s m args below meth c H1 locs1 (cells + mc) (slots + ms) Q (F0 m pc ls rest) q9)
    (kk : ∀ (r : Int32) (u : S) (t : State) (H1 : Heap) (locs1 : List Loc), t.heap = H1 → s.vm.Alike t.vm → post r u → B u t → H.size ≤ H1.size → (∀ q : Nat, q < H.size → ¬ A1 q → H1[q]? = H[q]?) → va_S A0 H0 H1 locs1 → W p l e R s m args below meth c H1 locs1 (cells + mc) (slots + ms) Q (F0 m (pc + 3) ls (.int r :: rest))) : W p l e R s m args below meth c H locs cells slots Q (F0 m pc ls st0) := by
  intro T hT X
  rcases hr T hT X with ⟨v, st₀, t, T', L, h0, X', hL, e1, e2, ⟨⟨r, u, hv, hp, hb⟩, hF⟩, st⟩ | ⟨q, st₀, t, T', L, E, ce, h0, X', hL, e1, e2, ⟨u, hp, hb, hF⟩, hce, hcv, hcl, st⟩
  · cases hv
    obtain ⟨k1, k2, k3⟩ := vx_keep h0 e1 hS hA hf hL hF
    obtain ⟨t2, a1, b1⟩ := kk r u t T'.heap (locs ++ L) e1.symm (by rw [← e2]; exact X'.warmed.alike) hp hb k1 k2 k3 T' rfl X'
    exact ⟨t2, st t2 a1, b1⟩
  · obtain ⟨k1, k2, k3⟩ := vx_keep h0 e1 hS hAX hf hL hF
    obtain ⟨t2, a1, b1⟩ := kx E ce q u t T'.heap (locs ++ L) e1.symm (by rw [← e2]; exact X'.warmed.alike) hp hb k1 k2 k3 (by rw [e1]; exact hce) hcv hcl T' rfl X'
    exact ⟨t2, st.trans a1, b1⟩
theorem vx_calll {S SX : Type} {post : Int64 → S → Prop} {px : SX → Prop} {B : S → State → Prop} {BX : String → SX → State → Prop} {AX : Nat → Prop} (hr : vx_Run p l e R s m args below meth c H locs cells slots mc ms (F0 m pc ls st0) rest (va_Ql post B A1 a) (vx_X px BX AX) free) (hS : va_S A0 H0 H locs) (hA : ∀ q, q < H.size → A1 q → A0 q) (hf : ∀ q, free q → A0 q) (hAX : ∀ q, q < H.size → AX q → A0 q)
    (kx : ∀ (E : String) (ce : Cell) (q9 : Addr) (u : SX) (t : State) (H1 : Heap) (locs1 : List Loc), t.heap = H1 → s.vm.Alike t.vm → px u → BX E u t → H.size ≤ H1.size → (∀ q : Nat, q < H.size → ¬ AX q → H1[q]? = H[q]?) → va_S A0 H0 H1 locs1 → H1[q9]? = some ce → ce.vm = .none → s.vm.findClass E = some ce.cls → vx_W p l e R s m args below meth c H1 locs1 (cells + mc) (slots + ms) Q (F0 m pc ls rest) q9)
    (kk : ∀ (r : Int64) (u : S) (t : State) (H1 : Heap) (locs1 : List Loc), t.heap = H1 → s.vm.Alike t.vm → post r u → B u t → H.size ≤ H1.size → (∀ q : Nat, q < H.size → ¬ A1 q → H1[q]? = H[q]?) → va_S A0 H0 H1 locs1 → W p l e R s m args below meth c H1 locs1 (cells + mc) (slots + ms) Q (F0 m (pc + 3) ls (.long r :: rest))) : W p l e R s m args below meth c H locs cells slots Q (F0 m pc ls st0) := by
  intro T hT X
  rcases hr T hT X with ⟨v, st₀, t, T', L, h0, X', hL, e1, e2, ⟨⟨r, u, hv, hp, hb⟩, hF⟩, st⟩ | ⟨q, st₀, t, T', L, E, ce, h0, X', hL, e1, e2, ⟨u, hp, hb, hF⟩, hce, hcv, hcl, st⟩
  · cases hv
    obtain ⟨k1, k2, k3⟩ := vx_keep h0 e1 hS hA hf hL hF
    obtain ⟨t2, a1, b1⟩ := kk r u t T'.heap (locs ++ L) e1.symm (by rw [← e2]; exact X'.warmed.alike) hp hb k1 k2 k3 T' rfl X'
    exact ⟨t2, st t2 a1, b1⟩
  · obtain ⟨k1, k2, k3⟩ := vx_keep h0 e1 hS hAX hf hL hF
    obtain ⟨t2, a1, b1⟩ := kx E ce q u t T'.heap (locs ++ L) e1.symm (by rw [← e2]; exact X'.warmed.alike) hp hb k1 k2 k3 (by rw [e1]; exact hce) hcv hcl T' rfl X'
    exact ⟨t2, st.trans a1, b1⟩
theorem vx_callf {S SX : Type} {post : UInt32 → S → Prop} {px : SX → Prop} {B : S → State → Prop} {BX : String → SX → State → Prop} {AX : Nat → Prop} (hr : vx_Run p l e R s m args below meth c H locs cells slots mc ms (F0 m pc ls st0) rest (va_Qf post B A1 a) (vx_X px BX AX) free) (hS : va_S A0 H0 H locs) (hA : ∀ q, q < H.size → A1 q → A0 q) (hf : ∀ q, free q → A0 q) (hAX : ∀ q, q < H.size → AX q → A0 q)
    (kx : ∀ (E : String) (ce : Cell) (q9 : Addr) (u : SX) (t : State) (H1 : Heap) (locs1 : List Loc), t.heap = H1 → s.vm.Alike t.vm → px u → BX E u t → H.size ≤ H1.size → (∀ q : Nat, q < H.size → ¬ AX q → H1[q]? = H[q]?) → va_S A0 H0 H1 locs1 → H1[q9]? = some ce → ce.vm = .none → s.vm.findClass E = some ce.cls → vx_W p l e R s m args below meth c H1 locs1 (cells + mc) (slots + ms) Q (F0 m pc ls rest) q9)
    (kk : ∀ (r : UInt32) (u : S) (t : State) (H1 : Heap) (locs1 : List Loc), t.heap = H1 → s.vm.Alike t.vm → post r u → B u t → H.size ≤ H1.size → (∀ q : Nat, q < H.size → ¬ A1 q → H1[q]? = H[q]?) → va_S A0 H0 H1 locs1 → W p l e R s m args below meth c H1 locs1 (cells + mc) (slots + ms) Q (F0 m (pc + 3) ls (.float r :: rest))) : W p l e R s m args below meth c H locs cells slots Q (F0 m pc ls st0) := by
  intro T hT X
  rcases hr T hT X with ⟨v, st₀, t, T', L, h0, X', hL, e1, e2, ⟨⟨r, u, hv, hp, hb⟩, hF⟩, st⟩ | ⟨q, st₀, t, T', L, E, ce, h0, X', hL, e1, e2, ⟨u, hp, hb, hF⟩, hce, hcv, hcl, st⟩
  · cases hv
    obtain ⟨k1, k2, k3⟩ := vx_keep h0 e1 hS hA hf hL hF
    obtain ⟨t2, a1, b1⟩ := kk r u t T'.heap (locs ++ L) e1.symm (by rw [← e2]; exact X'.warmed.alike) hp hb k1 k2 k3 T' rfl X'
    exact ⟨t2, st t2 a1, b1⟩
  · obtain ⟨k1, k2, k3⟩ := vx_keep h0 e1 hS hAX hf hL hF
    obtain ⟨t2, a1, b1⟩ := kx E ce q u t T'.heap (locs ++ L) e1.symm (by rw [← e2]; exact X'.warmed.alike) hp hb k1 k2 k3 (by rw [e1]; exact hce) hcv hcl T' rfl X'
    exact ⟨t2, st.trans a1, b1⟩
theorem vx_calld {S SX : Type} {post : UInt64 → S → Prop} {px : SX → Prop} {B : S → State → Prop} {BX : String → SX → State → Prop} {AX : Nat → Prop} (hr : vx_Run p l e R s m args below meth c H locs cells slots mc ms (F0 m pc ls st0) rest (va_Qd post B A1 a) (vx_X px BX AX) free) (hS : va_S A0 H0 H locs) (hA : ∀ q, q < H.size → A1 q → A0 q) (hf : ∀ q, free q → A0 q) (hAX : ∀ q, q < H.size → AX q → A0 q)
    (kx : ∀ (E : String) (ce : Cell) (q9 : Addr) (u : SX) (t : State) (H1 : Heap) (locs1 : List Loc), t.heap = H1 → s.vm.Alike t.vm → px u → BX E u t → H.size ≤ H1.size → (∀ q : Nat, q < H.size → ¬ AX q → H1[q]? = H[q]?) → va_S A0 H0 H1 locs1 → H1[q9]? = some ce → ce.vm = .none → s.vm.findClass E = some ce.cls → vx_W p l e R s m args below meth c H1 locs1 (cells + mc) (slots + ms) Q (F0 m pc ls rest) q9)
    (kk : ∀ (r : UInt64) (u : S) (t : State) (H1 : Heap) (locs1 : List Loc), t.heap = H1 → s.vm.Alike t.vm → post r u → B u t → H.size ≤ H1.size → (∀ q : Nat, q < H.size → ¬ A1 q → H1[q]? = H[q]?) → va_S A0 H0 H1 locs1 → W p l e R s m args below meth c H1 locs1 (cells + mc) (slots + ms) Q (F0 m (pc + 3) ls (.double r :: rest))) : W p l e R s m args below meth c H locs cells slots Q (F0 m pc ls st0) := by
  intro T hT X
  rcases hr T hT X with ⟨v, st₀, t, T', L, h0, X', hL, e1, e2, ⟨⟨r, u, hv, hp, hb⟩, hF⟩, st⟩ | ⟨q, st₀, t, T', L, E, ce, h0, X', hL, e1, e2, ⟨u, hp, hb, hF⟩, hce, hcv, hcl, st⟩
  · cases hv
    obtain ⟨k1, k2, k3⟩ := vx_keep h0 e1 hS hA hf hL hF
    obtain ⟨t2, a1, b1⟩ := kk r u t T'.heap (locs ++ L) e1.symm (by rw [← e2]; exact X'.warmed.alike) hp hb k1 k2 k3 T' rfl X'
    exact ⟨t2, st t2 a1, b1⟩
  · obtain ⟨k1, k2, k3⟩ := vx_keep h0 e1 hS hAX hf hL hF
    obtain ⟨t2, a1, b1⟩ := kx E ce q u t T'.heap (locs ++ L) e1.symm (by rw [← e2]; exact X'.warmed.alike) hp hb k1 k2 k3 (by rw [e1]; exact hce) hcv hcl T' rfl X'
    exact ⟨t2, st.trans a1, b1⟩
theorem vx_callv {S SX : Type} {post : S → Prop} {px : SX → Prop} {B : S → State → Prop} {BX : String → SX → State → Prop} {AX : Nat → Prop} (hr : vx_Run p l e R s m args below meth c H locs cells slots mc ms (F0 m pc ls st0) rest (va_Qv post B A1 a) (vx_X px BX AX) free) (hS : va_S A0 H0 H locs) (hA : ∀ q, q < H.size → A1 q → A0 q) (hf : ∀ q, free q → A0 q) (hAX : ∀ q, q < H.size → AX q → A0 q)
    (kx : ∀ (E : String) (ce : Cell) (q9 : Addr) (u : SX) (t : State) (H1 : Heap) (locs1 : List Loc), t.heap = H1 → s.vm.Alike t.vm → px u → BX E u t → H.size ≤ H1.size → (∀ q : Nat, q < H.size → ¬ AX q → H1[q]? = H[q]?) → va_S A0 H0 H1 locs1 → H1[q9]? = some ce → ce.vm = .none → s.vm.findClass E = some ce.cls → vx_W p l e R s m args below meth c H1 locs1 (cells + mc) (slots + ms) Q (F0 m pc ls rest) q9)
    (kk : ∀ (u : S) (t : State) (H1 : Heap) (locs1 : List Loc), t.heap = H1 → s.vm.Alike t.vm → post u → B u t → H.size ≤ H1.size → (∀ q : Nat, q < H.size → ¬ A1 q → H1[q]? = H[q]?) → va_S A0 H0 H1 locs1 → W p l e R s m args below meth c H1 locs1 (cells + mc) (slots + ms) Q (F0 m (pc + 3) ls (rest))) : W p l e R s m args below meth c H locs cells slots Q (F0 m pc ls st0) := by
  intro T hT X
  rcases hr T hT X with ⟨v, st₀, t, T', L, h0, X', hL, e1, e2, ⟨⟨u, hv, hp, hb⟩, hF⟩, st⟩ | ⟨q, st₀, t, T', L, E, ce, h0, X', hL, e1, e2, ⟨u, hp, hb, hF⟩, hce, hcv, hcl, st⟩
  · cases hv
    obtain ⟨k1, k2, k3⟩ := vx_keep h0 e1 hS hA hf hL hF
    obtain ⟨t2, a1, b1⟩ := kk u t T'.heap (locs ++ L) e1.symm (by rw [← e2]; exact X'.warmed.alike) hp hb k1 k2 k3 T' rfl X'
    exact ⟨t2, st t2 a1, b1⟩
  · obtain ⟨k1, k2, k3⟩ := vx_keep h0 e1 hS hAX hf hL hF
    obtain ⟨t2, a1, b1⟩ := kx E ce q u t T'.heap (locs ++ L) e1.symm (by rw [← e2]; exact X'.warmed.alike) hp hb k1 k2 k3 (by rw [e1]; exact hce) hcv hcl T' rfl X'
    exact ⟨t2, st.trans a1, b1⟩
end Rows
section Ends
variable {p : Program} {l : Launch} {e : Env} {R : Room} {s : State} {m : MethodId} {args : Array Value} {below : List Frame} {meth : Method} {c : Code} {H : Heap} {locs : List Loc} {cells slots : Nat} {Q : State → Prop}
variable {mc ms : Nat} {free : Addr → Prop} {A0 A1 : Nat → Prop} {H0 : Heap} {a : Array Value} {ls : Array Slot} {st0 rest : List Value}
variable {Qc : Array Value → State → Outcome → State → Prop} {XC : String → State → State → Prop}
/-- what a body that may throw owes at its end -/
def vx_MQ (below : List Frame) (Qc : Array Value → State → Outcome → State → Prop) (XC : String → State → State → Prop) (a : Array Value) (s : State) (mc ms : Nat) (free : Addr → Prop) : State → Prop := fun t =>
  ∃ o, t.status = .running ∧ Ended t below o ∧ vx_Q Qc XC mc ms free a s o t
theorem vx_ret {g : JFrame} {mc ms : Nat} (k : W p l e R s m args below meth c H locs cells slots (MQ below Qc args s mc ms free) g) : W p l e R s m args below meth c H locs cells slots (vx_MQ below Qc XC args s mc ms free) g := by
  intro T hT X
  obtain ⟨t, a1, o, b1, b2, b3, b4⟩ := k T hT X
  exact ⟨t, a1, o, b1, b2, Or.inl ⟨b3, b4⟩⟩
/-- not caught here: it goes on to the caller -/
theorem vx_widen {g : JFrame} {q : Addr} {k n : Nat} (h1 : cells ≤ k) (h2 : slots ≤ n) (kk : vx_W p l e R s m args below meth c H locs k n Q g q) : vx_W p l e R s m args below meth c H locs cells slots Q g q := fun T hT X => kk T hT (stand_widen X h1 h2)
theorem vx_out {pc : Nat} {E : String} {ce : Cell} {q : Addr} {mc ms : Nat} (hout : ∀ x ∈ c.exceptionTable.toList, covers x pc = false) (hlocks : meth.locks = false) (hcell : H[q]? = some ce) (hv : ce.vm = .none) (hcl : s.vm.findClass E = some ce.cls)
    (hx : ∀ t : State, t.heap = H → s.vm.Alike t.vm → XC E s t) (hf : ∀ z ∈ locs, free z.base) (hc : cells ≤ mc) (hs : slots ≤ ms) :
    vx_W p l e R s m args below meth c H locs cells slots (vx_MQ below Qc XC args s mc ms free) (F0 m pc ls rest) q := by
  intro T hT X
  obtain ⟨st1, hrun, hend, hW, hsm⟩ := X.leaveThrown q (g := F0 m pc ls rest) rfl rfl rfl hout hlocks
  have hcell9 : (T.setFrames (.throwing q :: below)).heap[q]? = some ce := by
    show T.heap[q]? = some ce
    rw [hT]; exact hcell
  exact ⟨_, st1, .threw q, hrun, hend, Or.inr ⟨q, rfl, E, ce, locs, hx _ hT hW.alike, hcell9, hv, hcl, hW, hsm.mono hc hs, hf⟩⟩
theorem vx_frame {U : State} {k n : Nat} (h : s.sameButNew ({ U with vm := s.vm } : State) locs k n) : s.heap.size ≤ U.heap.size ∧ ∀ q : Nat, q < s.heap.size → (∀ z ∈ locs, z.base ≠ q) → U.heap[q]? = s.heap[q]? := by
  obtain ⟨-, h2, -, -, -, h6⟩ := h
  refine ⟨h2, fun q hq hz => ?_⟩
  obtain ⟨c9, e1, e2, e3, e4⟩ := h6 q _ (Array.getElem?_eq_getElem hq)
  have hs : c9.slots = (s.heap[q]).slots := Array.ext_getElem? fun i => e4 i fun hm => hz _ hm rfl
  have h9 : c9 = s.heap[q] := by
    rw [hs] at e2
    exact e2
  have e5 : U.heap[q]? = some c9 := e1
  rw [e5, h9, Array.getElem?_eq_getElem hq]
/-- the words of a throw but the four that speak of the heap -/
def vx_no (w : Cond) : Bool := decide (w ≠ .isRef (.static Bundle.tN "UNASSIGNED_STACK" Bundle.steD)) && decide (w ≠ .isRef (.static Bundle.tN "SUPPRESSED_SENTINEL" Bundle.listD)) && decide (w ≠ .laysStatic Bundle.tN "UNASSIGNED_STACK" Bundle.steD) && decide (w ≠ .laysStatic Bundle.tN "SUPPRESSED_SENTINEL" Bundle.listD)
def vx_at0 (own : String) (ic : Nat) (X : String) (names : List String) : List Cond := (Bundle.ownAtoms0 own ic X names).filter vx_no
def vx_atS (own : String) (ic : Nat) (X : String) (names : List String) : List Cond := (Bundle.ownAtoms own ic X names).filter vx_no
/-- a word that the tables alone decide, or a good one -/
def vx_ot (w : Cond) : Bool := w.onTables || goodWord w
theorem vx_ot_at {args a' : Array Value} {s U : State} {w : Cond} (hW : s.WarmedH U.vm) (hvm : s.vm = U.vm) (hg : vx_ot w = true) (h : w.before args s = true) : w.before a' U = true := by
  simp only [vx_ot, Bool.or_eq_true] at hg
  rcases hg with hg | hg
  · exact va_tabs hg hvm h
  · exact word_at hW (good_of_word hg) h
/-- a list's words: the good ones out of the method's own list, the others by premises of their own -/
theorem vx_hat {args : Array Value} {s : State} {L B : List Cond} (h1 : ∀ w ∈ L.filter goodWord, w.before args s = true) (h2 : ∀ w ∈ L.filter (fun w => !goodWord w), w ∈ B) (h3 : ∀ w ∈ B, w.before args s = true) : ∀ w ∈ L, w.before args s = true := by
  intro w hw
  by_cases g : goodWord w = true
  · exact h1 w (List.mem_filter.mpr ⟨hw, g⟩)
  · refine h3 w (h2 w (List.mem_filter.mpr ⟨hw, ?_⟩))
    show (!goodWord w) = true
    cases hgw : goodWord w
    · rfl
    · exact absurd hgw g
theorem vx_c {args : Array Value} {s : State} {w : Cond} {B : List Cond} (h : w.before args s = true) (t : ∀ w ∈ B, w.before args s = true) : ∀ w' ∈ w :: B, w'.before args s = true := fun w' h' => (List.mem_cons.mp h').elim (fun e => by rw [e]; exact h) (t w')
theorem vx_n {args : Array Value} {s : State} : ∀ w ∈ ([] : List Cond), w.before args s = true := fun _ h => nomatch h
theorem vx_own {args : Array Value} {s : State} {L : List Cond} (h1 : ∀ w ∈ L.filter vx_no, w.before args s = true)
    (hU : (Cond.isRef (.static Bundle.tN "UNASSIGNED_STACK" Bundle.steD)).before args s = true) (hN : (Cond.isRef (.static Bundle.tN "SUPPRESSED_SENTINEL" Bundle.listD)).before args s = true)
    (lU : (Cond.laysStatic Bundle.tN "UNASSIGNED_STACK" Bundle.steD).before args s = true) (lN : (Cond.laysStatic Bundle.tN "SUPPRESSED_SENTINEL" Bundle.listD).before args s = true) : ∀ w ∈ L, w.before args s = true := by
  intro w hw
  by_cases e1 : w = .isRef (.static Bundle.tN "UNASSIGNED_STACK" Bundle.steD)
  · rw [e1]; exact hU
  · by_cases e2 : w = .isRef (.static Bundle.tN "SUPPRESSED_SENTINEL" Bundle.listD)
    · rw [e2]; exact hN
    · by_cases e3 : w = .laysStatic Bundle.tN "UNASSIGNED_STACK" Bundle.steD
      · rw [e3]; exact lU
      · by_cases e4 : w = .laysStatic Bundle.tN "SUPPRESSED_SENTINEL" Bundle.listD
        · rw [e4]; exact lN
        · exact h1 w (List.mem_filter.mpr ⟨hw, by unfold vx_no; rw [decide_eq_true e1, decide_eq_true e2, decide_eq_true e3, decide_eq_true e4]; rfl⟩)
/-- where a static field lies, its class's statics cell in H -/
def vx_L (C n d : String) (A : Nat → Prop) (U : State) (H : Heap) : Prop := ∃ (c : ClassId) (k : Class) (i : Nat) (f : Field) (a : Nat) (cell : Cell), U.vm.findClass C = some c ∧ U.fieldFound? C n d = some (c, k, i, f) ∧ f.isStatic = true ∧ k.statics = some a ∧ H[a]? = some cell ∧ cell.vm.isStatics = true ∧ cell.cls = c ∧ f.slot < cell.slots.size ∧ k.staticTypes[f.slot]? = some f.type ∧ ¬ A a
theorem vx_L.moved {C n d : String} {A : Nat → Prop} {u U : State} {H : Heap} (hvm : u.vm.Alike U.vm) (h : vx_L C n d A u H) : vx_L C n d A U H := by
  obtain ⟨c, k, i, f, a, cell, h1, h2, h3, h4, h5, h6, h7, h8, h9, h10⟩ := h
  obtain ⟨k', hi', he⟩ := State.fieldFound?_setVm hvm h2
  exact ⟨c, k', i, f, a, cell, by rw [hvm.findClass]; exact h1, hi', h3, by rw [he]; exact h4, h5, h6, h7, h8, by rw [he]; exact h9, h10⟩
theorem vx_L.kept {C n d : String} {A : Nat → Prop} {U : State} {H H1 : Heap} (h : vx_L C n d A U H) (hq : ∀ a : Nat, a < H.size → ¬ A a → H1[a]? = H[a]?) : vx_L C n d A U H1 := by
  obtain ⟨c, k, i, f, a, cell, h1, h2, h3, h4, h5, h6, h7, h8, h9, h10⟩ := h
  exact ⟨c, k, i, f, a, cell, h1, h2, h3, h4, by rw [hq a (Array.getElem?_eq_some_iff.mp h5).1 h10]; exact h5, h6, h7, h8, h9, h10⟩
theorem vx_L.narrow {C n d : String} {A B : Nat → Prop} {U : State} {H : Heap} (h : vx_L C n d A U H) (hAB : ∀ q, B q → A q) : vx_L C n d B U H := by
  obtain ⟨c, k, i, f, a, cell, h1, h2, h3, h4, h5, h6, h7, h8, h9, h10⟩ := h
  exact ⟨c, k, i, f, a, cell, h1, h2, h3, h4, h5, h6, h7, h8, h9, fun z => h10 (hAB _ z)⟩
theorem vx_L.word {C n d : String} {A : Nat → Prop} {s : State} {args : Array Value} (h : vx_L C n d A s s.heap) : (Cond.laysStatic C n d).before args s = true := by
  obtain ⟨c, k, i, f, a, cell, h1, h2, h3, h4, h5, h6, h7, h8, h9, -⟩ := h
  show (Cond.laysStatic C n d).holds args s none s [] = true
  exact Cond.laysStatic_of h1 h2 h3 h4 h5 h6 h7 h8 h9
/-- .. and what it holds: null or some reference -/
def vx_Zq (C n d : String) (A : Nat → Prop) (U : State) (H : Heap) : Prop := va_Zq C n d A U H ∧ vx_L C n d A U H
theorem vx_Zq.moved {C n d : String} {A : Nat → Prop} {u U : State} {H : Heap} (hvm : u.vm.Alike U.vm) (h : vx_Zq C n d A u H) : vx_Zq C n d A U H := ⟨va_Zq.moved hvm h.1, vx_L.moved hvm h.2⟩
theorem vx_Zq.kept {C n d : String} {A : Nat → Prop} {U : State} {H H1 : Heap} (h : vx_Zq C n d A U H) (hq : ∀ a : Nat, a < H.size → ¬ A a → H1[a]? = H[a]?) : vx_Zq C n d A U H1 := ⟨va_Zq.kept h.1 hq, vx_L.kept h.2 hq⟩
theorem vx_Zq.narrow {C n d : String} {A B : Nat → Prop} {U : State} {H : Heap} (h : vx_Zq C n d A U H) (hAB : ∀ q, B q → A q) : vx_Zq C n d B U H := ⟨va_Zq.narrow h.1 hAB, vx_L.narrow h.2 hAB⟩
theorem vx_Zqof {args : Array Value} {s : State} {C n d : String} {A : Nat → Prop} (hl : (Cond.laysStatic C n d).before args s = true) (hini : (Cond.initialized C).before args s = true) (h : (Cond.isRef (.static C n d)).before args s = true) (hA : ∀ a : Nat, a < s.heap.size → ¬ A a) : vx_Zq C n d A s s.heap := by
  refine ⟨va_Zqof hl hini h hA, ?_⟩
  obtain ⟨c, k, i, f, a, cell, h1, h2, h3, h4, h5, h6, h7, h8, h9⟩ := Cond.laysStatic_spec hl
  exact ⟨c, k, i, f, a, cell, h1, h2, h3, h4, h5, h6, h7, h8, h9, hA a (Array.getElem?_eq_some_iff.mp h5).1⟩
theorem vx_isRef {C n d : String} {v : Value} {A : Nat → Prop} {s : State} {args : Array Value} (h : va_Z C n d v A s s.heap) (hv : v.isRef = true) : (Cond.isRef (.static C n d)).before args s = true := by
  obtain ⟨cf, kf, fi, f, a, cell, h1, h2, h3, h4, h5, h6, h7, -⟩ := h
  have he : (Term.static C n d).eval args s none [] s = some v := by
    simp [Term.eval, State.fieldNamed?, h1, h2, h4, h5, h6, h7]
  simp only [Cond.before, Cond.holds, Cond.value, he]
  cases v <;> simp_all [Value.isRef]
theorem vx_isRefq {C n d : String} {A : Nat → Prop} {s : State} {args : Array Value} (h : va_Zq C n d A s s.heap) : (Cond.isRef (.static C n d)).before args s = true := by
  rcases h with h | ⟨t, h⟩
  · exact vx_isRef h rfl
  · exact vx_isRef h rfl
/-- the same frame, seen from here: as if the method were called anew in this heap -/
theorem vx_rebase {T : State} (X : Stand p l e R s m args below meth c T locs cells slots) {R' : Room} (hf : R'.frames ≤ R.frames) (hl : R'.locals ≤ R.locals) (hc : cells + R'.cells ≤ R.cells) (hs : slots + R'.slots ≤ R.slots) :
    Stand p l e R' ((T.setVm s.vm).setFrames (.invoking m args :: below)) m args below meth c T [] 0 0 := by
  have htop : (T.setVm s.vm).topJava?.isSome := X.here.top
  have hF : ((T.setVm s.vm).setFrames (.invoking m args :: below)).frames = .invoking m args :: below := State.frames_setFrames _ (State.cur_lt_of_top htop)
  obtain ⟨g₀, hg0⟩ := Option.isSome_iff_exists.mp htop
  obtain ⟨r, hr⟩ := State.topJava?_eq_some.mp hg0
  have hl9 : e.platform.stackLimits (T.setVm s.vm).me = e.platform.stackLimits s.me := X.limits
  have hb9 : (T.setVm s.vm).me.stackBytes = s.me.stackBytes := X.bytes
  refine ⟨X.admits, X.cas, X.clock, hF, ?_, X.hears, X.method, X.code, X.here, X.tail, X.warmed, ?_, ?_, ?_⟩
  · have h := X.room
    have hU : ((T.setVm s.vm).setFrames (.invoking m args :: below)).localsInUse = s.localsInUse := by
      rw [State.localsInUse_invoking hF (meth := meth) (c := c) X.method X.code, State.localsInUse_invoking X.frames X.method X.code]
    simp only [State.hasRoom, Bool.and_eq_true, decide_eq_true_eq] at h ⊢
    obtain ⟨⟨⟨⟨h1, h2, h3, h4, h5, h6⟩, h7⟩, h8⟩, h9⟩ := h
    rw [X.frames, List.length_cons] at h2 h3
    have q1 := X.heapSize
    have q2 := X.used
    simp only [hF, hU, List.length_cons, State.stackLimits_setFrames, State.stackBytes_setFrames, hl9, hb9]
    refine ⟨⟨⟨⟨by omega, by omega, by omega, by omega, by omega, h6⟩, ?_⟩, ?_⟩, X.book⟩
    · show T.heap.size + R'.cells ≤ e.platform.maxCells
      omega
    · show T.slotsUsed + R'.slots ≤ e.platform.maxSlots
      omega
  · rw [State.stackLimits_setFrames]; rfl
  · rw [State.stackBytes_setFrames]; rfl
  · refine ⟨?_, Nat.le_refl _, Nat.le_refl _, ?_, ?_, fun a c9 h9 => ⟨c9, h9, rfl, rfl, fun _ _ => rfl⟩⟩
    · obtain ⟨t, ht, -⟩ := State.frames_cons hr
      show T.setVm s.vm = { ((T.setVm s.vm).setFrames (.invoking m args :: below)).setFrames (T.setVm s.vm).frames with heap := T.heap, slotsUsed := T.slotsUsed }
      rw [State.setFrames_setFrames, State.setFrames_self ht]
      rfl
    · show T.slotsUsed = T.slotsUsed + ((T.heap.toList.drop T.heap.size).map (·.slots.size)).sum
      rw [List.drop_eq_nil_of_le (Nat.le_of_eq Array.length_toList)]
      rfl
    · show ((T.heap.toList.drop T.heap.size).map (·.slots.size)).sum ≤ 0
      rw [List.drop_eq_nil_of_le (Nat.le_of_eq Array.length_toList)]
      exact Nat.le_refl _
/-- 'throw new E()': new; dup; invokespecial; athrow -/
theorem vx_throw0 {cc : ByteArray} {pc : Nat} (hexec : p.tables.exec = Jvm.exec) (hb : c.code = cc) (hl : l.stackTraces = false) {own cls : String} {names : List String} {ik ic mc ms : Nat} {A : Nat → Prop}
    (hown : s.vm.findClass own = some m.cls) (hcls : Bundle.fit cls = true) (hnames : ∀ n ∈ names, Bundle.fit n = true)
    (hk : (Cond.classLink own ik cls).before args s = true) (hini : (Cond.initialized cls).before args s = true) (hat : ∀ w ∈ vx_at0 own ic cls names, w.before args s = true)
    (hgood : ∀ w ∈ Cond.classLink own ik cls :: Cond.initialized cls :: vx_at0 own ic cls names, vx_ot w = true)
    (hU : vx_Zq Bundle.tN "UNASSIGNED_STACK" Bundle.steD A s s.heap) (hN : vx_Zq Bundle.tN "SUPPRESSED_SENTINEL" Bundle.listD A s s.heap) (hS : va_S A s.heap H locs) (hsize : ls.size = c.maxLocals)
    (d0 : decode cc pc = .ok (.new ik, 3)) (d3 : decode cc (pc + 3) = .ok (.dup, 1)) (d4 : decode cc (pc + 4) = .ok (.invokespecial ic, 3)) (d7 : decode cc (pc + 7) = .ok (.athrow, 1))
    (hout : ∀ x ∈ c.exceptionTable.toList, covers x (pc + 7) = false)
    (hRframes : names.length + 3 < R.frames) (hRlocals : (rest.map fun v => v.category).sum + (13 * (names.length + 1) + 42) ≤ R.locals) (hRcells : cells + 1 ≤ R.cells) (hRslots : slots + 6 ≤ R.slots) (hlocks : meth.locks = false)
    (hx : ∀ t : State, s.vm.Alike t.vm → H.size ≤ t.heap.size → (∀ q : Nat, q < H.size → t.heap[q]? = H[q]?) → XC cls s t)
    (hf : ∀ z ∈ locs, free z.base) (hc : cells + 1 ≤ mc) (hs : slots + 6 ≤ ms) :
    W p l e R s m args below meth c H locs cells slots (vx_MQ below Qc XC args s mc ms free) (F0 m pc ls rest) := by
  intro T hT X
  have htr : e.platform.stackTraces = false := (show e.platform.stackTraces = l.stackTraces by rw [X.admits.platform]).trans hl
  have Y := vx_rebase X (R' := { frames := R.frames, locals := R.locals, cells := 1, slots := 6 }) (Nat.le_refl _) (Nat.le_refl _) hRcells hRslots
  obtain ⟨s', hA⟩ : ∃ z, z = (T.setVm s.vm).setFrames (.invoking m args :: below) := ⟨_, rfl⟩
  rw [← hA] at Y
  have hvm : s'.vm = s.vm := by rw [hA]; rfl
  have hhp : s'.heap = H := by rw [hA]; exact hT
  have hW0 : s.WarmedH s'.vm := by rw [hvm]; exact State.WarmedH.refl s
  have hat' : ∀ w ∈ vx_at0 own ic cls names, w.before args s' = true := fun w hw => vx_ot_at hW0 hvm.symm (hgood w (List.mem_cons_of_mem _ (List.mem_cons_of_mem _ hw))) (hat w hw)
  have hk' : (Cond.classLink own ik cls).before args s' = true := vx_ot_at hW0 hvm.symm (hgood _ List.mem_cons_self) hk
  have hini' : (Cond.initialized cls).before args s' = true := vx_ot_at hW0 hvm.symm (hgood _ (List.mem_cons_of_mem _ List.mem_cons_self)) hini
  have hU' : vx_Zq Bundle.tN "UNASSIGNED_STACK" Bundle.steD A s' s'.heap := by rw [hhp]; exact vx_Zq.moved hW0.alike (hU.kept hS.2.1)
  have hN' : vx_Zq Bundle.tN "SUPPRESSED_SENTINEL" Bundle.listD A s' s'.heap := by rw [hhp]; exact vx_Zq.moved hW0.alike (hN.kept hS.2.1)
  have h : ∀ w ∈ Bundle.ownAtoms0 own ic cls names, w.before args s' = true := vx_own hat' (vx_isRefq hU'.1) (vx_isRefq hN'.1) hU'.2.word hN'.2.word
  have hown' : s'.vm.findClass own = some m.cls := by rw [hvm]; exact hown
  have hins : (Cond.instantiable cls 6).before args s' = true := h _ (by simp [Bundle.ownAtoms0])
  obtain ⟨vm₁, cX, kX, hfX, hkX, -, -, X₁, st1⟩ := Y.newCold hexec (own := own) (C := cls) (index := ik) (n := 6) hown' hk' hins hini'
    (g := F0 m pc ls rest) rfl (by rw [hb]; exact d0) (Nat.le_refl _) (Nat.le_refl _)
  generalize hT1 : (T.setVm vm₁).pushCell { cls := cX, slots := kX.instanceTypes.map defaultValue, vm := .none } = T1 at X₁ st1
  have hcat : (Value.ref T.heap.size).category = 1 := rfl
  have hcellA : T1.heap[T.heap.size]? = some (freshCell cX kX) := by rw [← hT1]; exact State.heap_pushCell_size _ _
  have d3' : decode c.code (pc + 3) = .ok (.dup, 1) := by rw [hb]; exact d3
  obtain ⟨U, hsteps, hrun, hend, hW, hsame, ce, hce, hO⟩ := X₁.ctorThrow0 hexec htr (own := own) (cls := cls) (names := names) (ic := ic) hown' hcls hnames h (fun x hx => nomatch hx) hfX hkX hcellA (by rw [hhp, hT]; exact Nat.le_refl _)
    (g := { method := m, pc := pc + 4, locals := ls, stack := .ref T.heap.size :: .ref T.heap.size :: rest, locked := none }) rfl hsize rfl rfl (rest := rest) rfl
    (by rw [hb]; exact d4) (by rw [hb]; exact d7) hout hRframes (by simp only [List.map_cons, List.sum_cons, hcat]; omega) hlocks
  obtain ⟨f1, f2⟩ := vx_frame hsame
  rw [hhp] at f1 f2
  have hWs : s.WarmedH U.vm := State.WarmedH.trans hW0 hW
  have hcl : s.vm.findClass cls = some ce.cls := by
    have h9 := hO.cls
    rw [hvm] at h9
    exact h9
  have hall : s.sameButNew ({ U with vm := s.vm } : State) locs mc ms := by
    subst hA
    obtain ⟨e1, e2⟩ := hsame
    rw [State.setFrames_setFrames] at e1
    have h2 : (T.setVm s.vm).sameButNew ({ U with vm := s.vm } : State) [] (0 + 1) (0 + 6) := ⟨e1, e2⟩
    have h3 := X.same.trans h2
    rw [List.append_nil] at h3
    exact h3.mono hc hs
  refine ⟨U, ?_, .threw T.heap.size, hrun, hend, Or.inr ⟨T.heap.size, rfl, cls, ce, locs, hx U hWs.alike f1 (fun q hq => f2 q hq (fun z hz => nomatch hz)), hce, hO.vm, hcl, hWs, hall, hf⟩⟩
  refine st1 _ ?_
  show Steps p.tables e below (T1.setTop { method := m, pc := pc + 3, locals := ls, stack := .ref T.heap.size :: rest, locked := none }) _
  jvm_step X₁.here [X₁.here.top, hexec, d3', Value.category]
  exact hsteps
/-- 'throw new E("text")': new; dup; ldc; invokespecial; athrow -/
theorem vx_throwS {cc : ByteArray} {pc : Nat} (hexec : p.tables.exec = Jvm.exec) (hb : c.code = cc) (hl : l.stackTraces = false) {own cls text : String} {names : List String} {ik is ic mc ms sa : Nat} {A : Nat → Prop}
    (hown : s.vm.findClass own = some m.cls) (hcls : Bundle.fit cls = true) (hnames : ∀ n ∈ names, Bundle.fit n = true)
    (hk : (Cond.classLink own ik cls).before args s = true) (hini : (Cond.initialized cls).before args s = true) (hstr : vk_R own is text sa s) (hat : ∀ w ∈ vx_atS own ic cls names, w.before args s = true)
    (hgood : ∀ w ∈ Cond.classLink own ik cls :: Cond.initialized cls :: vx_atS own ic cls names, vx_ot w = true)
    (hU : vx_Zq Bundle.tN "UNASSIGNED_STACK" Bundle.steD A s s.heap) (hN : vx_Zq Bundle.tN "SUPPRESSED_SENTINEL" Bundle.listD A s s.heap) (hS : va_S A s.heap H locs) (hsize : ls.size = c.maxLocals)
    (d0 : decode cc pc = .ok (.new ik, 3)) (d3 : decode cc (pc + 3) = .ok (.dup, 1)) (d4 : decode cc (pc + 4) = .ok (.ldc is, 2)) (d6 : decode cc (pc + 6) = .ok (.invokespecial ic, 3)) (d9 : decode cc (pc + 9) = .ok (.athrow, 1))
    (hout : ∀ x ∈ c.exceptionTable.toList, covers x (pc + 9) = false)
    (hRframes : names.length + 3 < R.frames) (hRlocals : (rest.map fun v => v.category).sum + (13 * (names.length + 1) + 43) ≤ R.locals) (hRcells : cells + 1 ≤ R.cells) (hRslots : slots + 6 ≤ R.slots) (hlocks : meth.locks = false)
    (hx : ∀ t : State, s.vm.Alike t.vm → H.size ≤ t.heap.size → (∀ q : Nat, q < H.size → t.heap[q]? = H[q]?) → XC cls s t)
    (hf : ∀ z ∈ locs, free z.base) (hc : cells + 1 ≤ mc) (hs : slots + 6 ≤ ms) :
    W p l e R s m args below meth c H locs cells slots (vx_MQ below Qc XC args s mc ms free) (F0 m pc ls rest) := by
  intro T hT X
  have htr : e.platform.stackTraces = false := (show e.platform.stackTraces = l.stackTraces by rw [X.admits.platform]).trans hl
  have Y := vx_rebase X (R' := { frames := R.frames, locals := R.locals, cells := 1, slots := 6 }) (Nat.le_refl _) (Nat.le_refl _) hRcells hRslots
  obtain ⟨s', hA⟩ : ∃ z, z = (T.setVm s.vm).setFrames (.invoking m args :: below) := ⟨_, rfl⟩
  rw [← hA] at Y
  have hvm : s'.vm = s.vm := by rw [hA]; rfl
  have hhp : s'.heap = H := by rw [hA]; exact hT
  have hW0 : s.WarmedH s'.vm := by rw [hvm]; exact State.WarmedH.refl s
  have hat' : ∀ w ∈ vx_atS own ic cls names, w.before args s' = true := fun w hw => vx_ot_at hW0 hvm.symm (hgood w (List.mem_cons_of_mem _ (List.mem_cons_of_mem _ hw))) (hat w hw)
  have hk' : (Cond.classLink own ik cls).before args s' = true := vx_ot_at hW0 hvm.symm (hgood _ List.mem_cons_self) hk
  have hini' : (Cond.initialized cls).before args s' = true := vx_ot_at hW0 hvm.symm (hgood _ (List.mem_cons_of_mem _ List.mem_cons_self)) hini
  have hU' : vx_Zq Bundle.tN "UNASSIGNED_STACK" Bundle.steD A s' s'.heap := by rw [hhp]; exact vx_Zq.moved hW0.alike (hU.kept hS.2.1)
  have hN' : vx_Zq Bundle.tN "SUPPRESSED_SENTINEL" Bundle.listD A s' s'.heap := by rw [hhp]; exact vx_Zq.moved hW0.alike (hN.kept hS.2.1)
  have h : ∀ w ∈ Bundle.ownAtoms own ic cls names, w.before args s' = true := vx_own hat' (vx_isRefq hU'.1) (vx_isRefq hN'.1) hU'.2.word hN'.2.word
  have hown' : s'.vm.findClass own = some m.cls := by rw [hvm]; exact hown
  have hins : (Cond.instantiable cls 6).before args s' = true := h _ (by simp [Bundle.ownAtoms])
  obtain ⟨vm₁, cX, kX, hfX, hkX, -, -, X₁, st1⟩ := Y.newCold hexec (own := own) (C := cls) (index := ik) (n := 6) hown' hk' hins hini'
    (g := F0 m pc ls rest) rfl (by rw [hb]; exact d0) (Nat.le_refl _) (Nat.le_refl _)
  generalize hT1 : (T.setVm vm₁).pushCell { cls := cX, slots := kX.instanceTypes.map defaultValue, vm := .none } = T1 at X₁ st1
  have hcat : (Value.ref T.heap.size).category = 1 := rfl
  have hcellA : T1.heap[T.heap.size]? = some (freshCell cX kX) := by rw [← hT1]; exact State.heap_pushCell_size _ _
  have d3' : decode c.code (pc + 3) = .ok (.dup, 1) := by rw [hb]; exact d3
  have d4' : decode c.code (pc + 4) = .ok (.ldc is, 2) := by rw [hb]; exact d4
  have hstr' : vk_R own is text sa s' := vk_R.warm hW0 hstr
  obtain ⟨U, hsteps, hrun, hend, hW, hsame, ce, hce, hO⟩ := X₁.ctorThrowS hexec htr (own := own) (cls := cls) (names := names) (ic := ic) hown' hcls hnames h (fun x hx => nomatch hx) hfX hkX hcellA (by rw [hhp, hT]; exact Nat.le_refl _) (msg := .ref sa) rfl
    (g := { method := m, pc := pc + 6, locals := ls, stack := .ref sa :: .ref T.heap.size :: .ref T.heap.size :: rest, locked := none }) rfl hsize rfl rfl (rest := rest) rfl
    (by rw [hb]; exact d6) (by rw [hb]; exact d9) hout hRframes (by simp only [List.map_cons, List.sum_cons, hcat]; omega) hlocks
  obtain ⟨f1, f2⟩ := vx_frame hsame
  rw [hhp] at f1 f2
  have hWs : s.WarmedH U.vm := State.WarmedH.trans hW0 hW
  have hcl : s.vm.findClass cls = some ce.cls := by
    have h9 := hO.cls
    rw [hvm] at h9
    exact h9
  have hall : s.sameButNew ({ U with vm := s.vm } : State) locs mc ms := by
    subst hA
    obtain ⟨e1, e2⟩ := hsame
    rw [State.setFrames_setFrames] at e1
    have h2 : (T.setVm s.vm).sameButNew ({ U with vm := s.vm } : State) [] (0 + 1) (0 + 6) := ⟨e1, e2⟩
    have h3 := X.same.trans h2
    rw [List.append_nil] at h3
    exact h3.mono hc hs
  refine ⟨U, ?_, .threw T.heap.size, hrun, hend, Or.inr ⟨T.heap.size, rfl, cls, ce, locs, hx U hWs.alike f1 (fun q hq => f2 q hq (fun z hz => nomatch hz)), hce, hO.vm, hcl, hWs, hall, hf⟩⟩
  refine st1 _ ?_
  show Steps p.tables e below (T1.setTop { method := m, pc := pc + 3, locals := ls, stack := .ref T.heap.size :: rest, locked := none }) _
  jvm_step X₁.here [X₁.here.top, hexec, d3', Value.category]
  exact X₁.ldcString hexec (own := own) (text := text) (index := is) (a := sa) hown' hstr'.1 hstr'.2
    (g := { method := m, pc := pc + 4, locals := ls, stack := .ref T.heap.size :: .ref T.heap.size :: rest, locked := none }) rfl d4' _ hsteps
/-- 'throw new E("text")', the text by a wide index -/
theorem vx_throwSW {cc : ByteArray} {pc : Nat} (hexec : p.tables.exec = Jvm.exec) (hb : c.code = cc) (hl : l.stackTraces = false) {own cls text : String} {names : List String} {ik is ic mc ms sa : Nat} {A : Nat → Prop}
    (hown : s.vm.findClass own = some m.cls) (hcls : Bundle.fit cls = true) (hnames : ∀ n ∈ names, Bundle.fit n = true)
    (hk : (Cond.classLink own ik cls).before args s = true) (hini : (Cond.initialized cls).before args s = true) (hstr : vk_R own is text sa s) (hat : ∀ w ∈ vx_atS own ic cls names, w.before args s = true)
    (hgood : ∀ w ∈ Cond.classLink own ik cls :: Cond.initialized cls :: vx_atS own ic cls names, vx_ot w = true)
    (hU : vx_Zq Bundle.tN "UNASSIGNED_STACK" Bundle.steD A s s.heap) (hN : vx_Zq Bundle.tN "SUPPRESSED_SENTINEL" Bundle.listD A s s.heap) (hS : va_S A s.heap H locs) (hsize : ls.size = c.maxLocals)
    (d0 : decode cc pc = .ok (.new ik, 3)) (d3 : decode cc (pc + 3) = .ok (.dup, 1)) (d4 : decode cc (pc + 4) = .ok (.ldc_w is, 3)) (d7 : decode cc (pc + 7) = .ok (.invokespecial ic, 3)) (d10 : decode cc (pc + 10) = .ok (.athrow, 1))
    (hout : ∀ x ∈ c.exceptionTable.toList, covers x (pc + 10) = false)
    (hRframes : names.length + 3 < R.frames) (hRlocals : (rest.map fun v => v.category).sum + (13 * (names.length + 1) + 43) ≤ R.locals) (hRcells : cells + 1 ≤ R.cells) (hRslots : slots + 6 ≤ R.slots) (hlocks : meth.locks = false)
    (hx : ∀ t : State, s.vm.Alike t.vm → H.size ≤ t.heap.size → (∀ q : Nat, q < H.size → t.heap[q]? = H[q]?) → XC cls s t)
    (hf : ∀ z ∈ locs, free z.base) (hc : cells + 1 ≤ mc) (hs : slots + 6 ≤ ms) :
    W p l e R s m args below meth c H locs cells slots (vx_MQ below Qc XC args s mc ms free) (F0 m pc ls rest) := by
  intro T hT X
  have htr : e.platform.stackTraces = false := (show e.platform.stackTraces = l.stackTraces by rw [X.admits.platform]).trans hl
  have Y := vx_rebase X (R' := { frames := R.frames, locals := R.locals, cells := 1, slots := 6 }) (Nat.le_refl _) (Nat.le_refl _) hRcells hRslots
  obtain ⟨s', hA⟩ : ∃ z, z = (T.setVm s.vm).setFrames (.invoking m args :: below) := ⟨_, rfl⟩
  rw [← hA] at Y
  have hvm : s'.vm = s.vm := by rw [hA]; rfl
  have hhp : s'.heap = H := by rw [hA]; exact hT
  have hW0 : s.WarmedH s'.vm := by rw [hvm]; exact State.WarmedH.refl s
  have hat' : ∀ w ∈ vx_atS own ic cls names, w.before args s' = true := fun w hw => vx_ot_at hW0 hvm.symm (hgood w (List.mem_cons_of_mem _ (List.mem_cons_of_mem _ hw))) (hat w hw)
  have hk' : (Cond.classLink own ik cls).before args s' = true := vx_ot_at hW0 hvm.symm (hgood _ List.mem_cons_self) hk
  have hini' : (Cond.initialized cls).before args s' = true := vx_ot_at hW0 hvm.symm (hgood _ (List.mem_cons_of_mem _ List.mem_cons_self)) hini
  have hU' : vx_Zq Bundle.tN "UNASSIGNED_STACK" Bundle.steD A s' s'.heap := by rw [hhp]; exact vx_Zq.moved hW0.alike (hU.kept hS.2.1)
  have hN' : vx_Zq Bundle.tN "SUPPRESSED_SENTINEL" Bundle.listD A s' s'.heap := by rw [hhp]; exact vx_Zq.moved hW0.alike (hN.kept hS.2.1)
  have h : ∀ w ∈ Bundle.ownAtoms own ic cls names, w.before args s' = true := vx_own hat' (vx_isRefq hU'.1) (vx_isRefq hN'.1) hU'.2.word hN'.2.word
  have hown' : s'.vm.findClass own = some m.cls := by rw [hvm]; exact hown
  have hins : (Cond.instantiable cls 6).before args s' = true := h _ (by simp [Bundle.ownAtoms])
  obtain ⟨vm₁, cX, kX, hfX, hkX, -, -, X₁, st1⟩ := Y.newCold hexec (own := own) (C := cls) (index := ik) (n := 6) hown' hk' hins hini'
    (g := F0 m pc ls rest) rfl (by rw [hb]; exact d0) (Nat.le_refl _) (Nat.le_refl _)
  generalize hT1 : (T.setVm vm₁).pushCell { cls := cX, slots := kX.instanceTypes.map defaultValue, vm := .none } = T1 at X₁ st1
  have hcat : (Value.ref T.heap.size).category = 1 := rfl
  have hcellA : T1.heap[T.heap.size]? = some (freshCell cX kX) := by rw [← hT1]; exact State.heap_pushCell_size _ _
  have d3' : decode c.code (pc + 3) = .ok (.dup, 1) := by rw [hb]; exact d3
  have d4' : decode c.code (pc + 4) = .ok (.ldc_w is, 3) := by rw [hb]; exact d4
  have hstr' : vk_R own is text sa s' := vk_R.warm hW0 hstr
  obtain ⟨U, hsteps, hrun, hend, hW, hsame, ce, hce, hO⟩ := X₁.ctorThrowS hexec htr (own := own) (cls := cls) (names := names) (ic := ic) hown' hcls hnames h (fun x hx => nomatch hx) hfX hkX hcellA (by rw [hhp, hT]; exact Nat.le_refl _) (msg := .ref sa) rfl
    (g := { method := m, pc := pc + 7, locals := ls, stack := .ref sa :: .ref T.heap.size :: .ref T.heap.size :: rest, locked := none }) rfl hsize rfl rfl (rest := rest) rfl
    (by rw [hb]; exact d7) (by rw [hb]; exact d10) hout hRframes (by simp only [List.map_cons, List.sum_cons, hcat]; omega) hlocks
  obtain ⟨f1, f2⟩ := vx_frame hsame
  rw [hhp] at f1 f2
  have hWs : s.WarmedH U.vm := State.WarmedH.trans hW0 hW
  have hcl : s.vm.findClass cls = some ce.cls := by
    have h9 := hO.cls
    rw [hvm] at h9
    exact h9
  have hall : s.sameButNew ({ U with vm := s.vm } : State) locs mc ms := by
    subst hA
    obtain ⟨e1, e2⟩ := hsame
    rw [State.setFrames_setFrames] at e1
    have h2 : (T.setVm s.vm).sameButNew ({ U with vm := s.vm } : State) [] (0 + 1) (0 + 6) := ⟨e1, e2⟩
    have h3 := X.same.trans h2
    rw [List.append_nil] at h3
    exact h3.mono hc hs
  refine ⟨U, ?_, .threw T.heap.size, hrun, hend, Or.inr ⟨T.heap.size, rfl, cls, ce, locs, hx U hWs.alike f1 (fun q hq => f2 q hq (fun z hz => nomatch hz)), hce, hO.vm, hcl, hWs, hall, hf⟩⟩
  refine st1 _ ?_
  show Steps p.tables e below (T1.setTop { method := m, pc := pc + 3, locals := ls, stack := .ref T.heap.size :: rest, locked := none }) _
  jvm_step X₁.here [X₁.here.top, hexec, d3', Value.category]
  exact X₁.ldcStringW hexec (own := own) (text := text) (index := is) (a := sa) hown' hstr'.1 hstr'.2
    (g := { method := m, pc := pc + 4, locals := ls, stack := .ref T.heap.size :: .ref T.heap.size :: rest, locked := none }) rfl d4' _ hsteps
end Ends
section Bodies
variable {l : Launch}
theorem vx_ofW {y : MethodName} {ws ws' : List Cond} {rm : Room} {Pc : Array Value → State → Prop} {Qc : Array Value → State → Outcome → State → Prop} {XC : String → State → State → Prop} {mc ms : Nat} {free : Addr → Prop} {cc : ByteArray} {maxL : Nat} {ret : Option FieldType}
    (hy : plainName y.cls = true) (hw : ws = Cond.code y cc maxL ret :: ws')
    (body : ∀ p e s m args below meth c s₁, BodyLoose p l y (headSpec ws rm) cc maxL ret e s m args below meth c s₁ → c.maxLocals = maxL → (∀ x ∈ c.exceptionTable.toList, False) → Pc args s →
      W p l e (headSpec ws rm).room s m args below meth c s.heap [] 0 0 (vx_MQ below Qc XC args s mc ms free) (entryFrame m args maxL)) : vx_Met l y ws rm Pc Qc XC mc ms free := by
  refine MetFree.of_bodyS (code := cc) (maxLocals := maxL) (ret := ret) hy ?_ ?_
  · intro args s m h hn
    obtain ⟨meth, c, h1, h2, h3, h4, h5, h6, -, -⟩ := Cond.code_spec hn (atoms_spec (ws := ws) h _ (by rw [hw]; exact List.mem_cons_self))
    exact ⟨meth, c, h1, h2, h3, h4, h5, h6⟩
  · intro p e s m args below meth c s₁ B hml hP _
    have hh0 : s₁.heap = s.heap := by rw [B.state]; rfl
    have ht : ∀ x ∈ c.exceptionTable.toList, False := by
      obtain ⟨meth9, c9, h1, h2, -, -, -, -, h7, -⟩ := Cond.code_spec B.named (atoms_spec (ws := ws) B.pre _ (by rw [hw]; exact List.mem_cons_self))
      cases Option.some.inj (h1.symm.trans B.method)
      cases Option.some.inj (h2.symm.trans (Stand.of_body B).code)
      intro x hx
      rw [Array.isEmpty_iff.mp h7] at hx
      cases hx
    obtain ⟨t, a1, o, b1, b2, b3⟩ := body p e s m args below meth c s₁ B hml ht hP s₁ hh0 (Stand.of_body B)
    exact ⟨t, o, a1, b1, b2, b3⟩
/-- the table of a body with handlers -/
theorem vx_table {p : Program} {x y : MethodName} {S : Spec} {cc bytes : ByteArray} {maxL maxL' : Nat} {ret ret' : Option FieldType} {e : Env} {s s₁ : State} {m : MethodId} {args : Array Value} {below : List Frame} {meth : Method} {c : Code} {hh : List (Nat × Nat × Nat × Nat)}
    (B : BodyLoose p l y S cc maxL ret e s m args below meth c s₁) (h : (Cond.codeWith y bytes maxL' ret' hh).before args s = true) : c.exceptionTable.toList = tableOf hh := by
  obtain ⟨m9, meth9, c9, hn9, h1, h2, -, -, h6, -⟩ := Cond.codeWith_spec h
  cases Option.some.inj (hn9.symm.trans B.named)
  cases Option.some.inj (h1.symm.trans B.method)
  cases Option.some.inj (h2.symm.trans (Stand.of_body B).code)
  rw [← h6, table_eq]
end Bodies
end VXA
/-! ===== END ===== -/
/-! ===== BEGIN a static call of a method with an exception table ===== -/
section VXS
variable {p : Program} {l : Launch} {e : Env} {R : Room} {s : State} {m : MethodId} {args : Array Value} {below : List Frame} {meth : Method} {c : Code} {T : State} {H : Heap} {locs : List Loc} {cells slots : Nat}
abbrev vx_CSW (R : Room) (s : State) (args : Array Value) (own : String) (index : Nat) (y : MethodName) (bytes : ByteArray) (maxL : Nat) (ret : Option FieldType) (hh : List (Nat × Nat × Nat × Nat)) (ws : List Cond) (rm : Room) (mc ms n : Nat) : Prop :=
  (rm.cells = mc ∧ rm.slots = ms ∧ rm.frames + 1 ≤ R.frames ∧ 8 + (maxL + 11) + rm.locals ≤ R.locals ∧ (∀ w ∈ ws, ∀ (a' : Array Value) (U : State), s.WarmedH U.vm → w.before a' U = true) ∧ Cond.codeWith y bytes maxL ret hh ∈ ws) ∧
  (Cond.codeWith y bytes maxL ret hh).before args s = true ∧ (Cond.initialized y.cls).before args s = true ∧ (y.cls ≠ "java/lang/invoke/MethodHandle" ∧ y.cls ≠ "java/lang/invoke/VarHandle") ∧
  (∀ sig, parseMethodDescriptor y.desc = some sig → n = sig.parameters.length) ∧ (Cond.methodLink own index y).before args s = true ∧ (Cond.static y).before args s = true
theorem vx_cwSW {own : String} {index maxL mc ms : Nat} {y : MethodName} {bytes : ByteArray} {ret : Option FieldType} {hh : List (Nat × Nat × Nat × Nat)} {Ts ws ws' : List Cond} {rm : Room} (n : Nat) (ht : ∀ w ∈ Ts, w.before args s = true) (hT : GoodIn Ts (va_wsS own index y ws)) (hw : ws = Cond.codeWith y bytes maxL ret hh :: ws') (hrc : rm.cells = mc) (hrs : rm.slots = ms)
    (hd : y.cls ≠ "java/lang/invoke/MethodHandle" ∧ y.cls ≠ "java/lang/invoke/VarHandle" ∧ (parseMethodDescriptor y.desc).map (fun d => d.parameters.length) = some n) (hR : rm.frames + 1 ≤ R.frames ∧ 8 + (maxL + 11) + rm.locals ≤ R.locals) :
    vx_CSW R s args own index y bytes maxL ret hh ws rm mc ms n := by
  have ok : ∀ w ∈ va_wsS own index y ws, w.before args s = true := fun w h => ht w (hT w h).1
  have hG : GoodIn Ts ws := fun w h => hT w (by unfold va_wsS; exact List.mem_append_right _ h)
  have hc : Cond.codeWith y bytes maxL ret hh ∈ ws := by rw [hw]; exact List.mem_cons_self
  refine ⟨⟨hrc, hrs, hR.1, hR.2, pay_in ht hG, hc⟩, ht _ (hG _ hc).1, ok _ (by simp [va_wsS]), ⟨hd.1, hd.2.1⟩, fun sig h => ?_, ok _ (by simp [va_wsS]), ok _ (by simp [va_wsS])⟩
  have h2 := hd.2.2
  rw [h] at h2
  exact (Option.some.inj h2).symm
theorem vx_callSW (X : Stand p l e R s m args below meth c T locs cells slots) (hexec : p.tables.exec = Jvm.exec) {own : String} {index : Nat} {y : MethodName} {bytes : ByteArray} {maxL : Nat} {ret : Option FieldType} {hh : List (Nat × Nat × Nat × Nat)}
    (hown : s.vm.findClass own = some m.cls) (hlink : (Cond.methodLink own index y).before args s = true) (hstat : (Cond.static y).before args s = true) (hinit : (Cond.initialized y.cls).before args s = true)
    (hcode : (Cond.codeWith y bytes maxL ret hh).before args s = true) (hy : y.cls ≠ "java/lang/invoke/MethodHandle" ∧ y.cls ≠ "java/lang/invoke/VarHandle")
    {W9 : Nat} {Pre : Pt → Array Value → Prop} {Post : Pt → Array Value → Option Value → Pt → Prop} (hK : Back l R p e below s args y 3 W9 Pre Post)
    {g : JFrame} (hg : g.method = m) (hsize : g.locals.size = c.maxLocals) {argsL rest : List Value} (hlen : ∀ sig, parseMethodDescriptor y.desc = some sig → argsL.length = sig.parameters.length)
    (hstack : g.stack = argsL.reverse ++ rest) (hW : 2 * g.monitorRoom + (rest.map fun v => v.category).sum ≤ W9) (hdg : decode c.code g.pc = .ok (.invokestatic index, 3))
    (hpre : ∀ vm₁, s.WarmedH vm₁ → Pre ⟨T.setVm vm₁, locs, cells, slots⟩ argsL.toArray) :
    ∃ (v : Option Value) (vm₁ : Vm) (B : Pt), s.WarmedH vm₁ ∧ Stand p l e R s m args below meth c B.U B.locs B.cells B.slots ∧ Post ⟨T.setVm vm₁, locs, cells, slots⟩ argsL.toArray v B ∧
      ∀ target, Steps p.tables e below (B.U.setTop { g with pc := g.pc + 3, stack := v.toList ++ rest }) target → Steps p.tables e below (T.setTop g) target := by
  obtain ⟨mk, methM, cM, hnamed, hmethM, -, -, -, -, -, -, hsigM⟩ := Cond.codeWith_spec hcode
  have hstatic : methM.isStatic = true := Cond.static_spec hnamed hmethM hstat
  obtain ⟨kP, hkP, -⟩ := className_of_methodNamed hnamed
  have hinitP : kP.init = .initialized := Cond.initialized_spec (findClass_of_methodNamed hnamed) hkP hinit
  obtain ⟨vm₁, X₁, hstep₁⟩ := X.invokestatic hexec hown hlink hnamed hmethM hstatic hkP hinitP hy (g := g) hg (argsL := argsL) (rest := rest) (hlen _ hsigM) hstack hdg
  obtain ⟨v, B, X', hpost, hsteps⟩ := hK m meth c ⟨T.setVm vm₁, locs, cells, slots⟩ { g with stack := rest } (.invokestatic index) mk argsL.toArray X₁ hg hsize hdg hW (X₁.named hnamed) (hpre vm₁ X₁.warmed)
  exact ⟨v, vm₁, B, X₁.warmed, X', hpost, fun target h => hstep₁ _ fun acts => by rw [doInvoke_state]; exact hsteps.trans h⟩
theorem vx_runSW {y : MethodName} {bytes cc : ByteArray} {maxL nL mc ms n index : Nat} {ret : Option FieldType} {hh : List (Nat × Nat × Nat × Nat)} {ws : List Cond} {rm : Room} {Pc : Array Value → State → Prop} {Qc : Array Value → State → Outcome → State → Prop} {free : Addr → Prop} {Ts : List Cond} {own : String} {As rest : List Value} {g : JFrame}
    (S : CallFix p m c cc nL s args Ts own) (hM : Met l y ws rm Pc Qc mc ms free) (cw : vx_CSW R s args own index y bytes maxL ret hh ws rm mc ms n) (hp : PreS s H Pc As)
    (hg : g.method = m) (hn : As.length = n) (hsize : g.locals.size = nL) (hstack : g.stack = As.reverse ++ rest) (hW : 2 * g.monitorRoom + (rest.map fun v => v.category).sum ≤ 8) (hdg : decode cc g.pc = .ok (.invokestatic index, 3)) (hf : cells + mc ≤ R.cells ∧ slots + ms ≤ R.slots) :
    va_Run p l e R s m args below meth c H locs cells slots mc ms g rest (Qc As.toArray) (free) := by
  obtain ⟨⟨hrc, hrs, hfr, hlo, hws, hcw⟩, hcode, hini, hy, hlen, hl, hstt⟩ := cw
  have hK : Back l R p e below s args y 3 8 (PreOf R mc ms Pc) (PostOf Qc mc ms free) := va_backW (hh := hh) (bytes := bytes) (maxL := maxL) (ret := ret) hM hp.1 hrc hrs hfr hlo hws hcw (fun a' U hW => word_at hW (Or.inl (by first | rfl | simp [Cond.onTables, Cond.keeps, Cond.steady])) hini)
  obtain ⟨hx, hb, hml, ho, -⟩ := S
  intro T hT X
  obtain ⟨v, vm₁, ⟨U', l2, c2, s2⟩, hW₁, X', ⟨g', mk, t, L, e1, e2, hq, h1, hL, h2, h3⟩, st⟩ := vx_callSW X hx (hh := hh) (bytes := bytes) (maxL := maxL) (ret := ret) ho hl hstt hini hcode hy hK hg (hsize.trans hml.symm) (argsL := As) (rest := rest) (fun sig h => hn.trans (hlen sig h)) hstack hW (by rw [hb]; exact hdg)
    (fun vm₁ hW₁ => ⟨hf.1, hf.2, hp.2 (T.setVm vm₁) hT hW₁⟩)
  dsimp only [Pt.U, Pt.locs, Pt.cells, Pt.slots] at X' e1 e2 h1 h2 h3 st
  subst h1; subst h2; subst h3
  exact ⟨v, (T.setVm vm₁).calling g' mk As.toArray, t, U', L, hT, X', hL, e1, e2, hq, st⟩
/-- a thing of a world lies in the heap -/
theorem vx_lt {D : va_G} {cl : List vw_C} {ws : va_W} {H1 : Heap} (h : va_P D cl ws H1) {k : Nat} {q : Nat × va_E} (hk : ws[k]? = some q) : q.1 < H1.size := (h k q hk).lt
end VXS
/-! ===== END ===== -/
/-! ===== BEGIN methods with a table of their own: called by a name, returning or throwing ===== -/
section VXH
/-! vx_backW, vx_callVX, vx_callSX, vx_callVW, vx_runVW, vx_runVX, vx_runSX, vx_ofWH follow the same proofs as their sisters above (Free/Laws.lean, Shelf42/LK1.lean); vx_outP calls Shelf42/NT130.lean (outThrough). -/
section
variable {l : Launch} {R : Room} {p : Program} {e : Env} {below : List Frame} {s : State} {sargs : Array Value} {y : MethodName} {len W9 : Nat}
theorem vx_backW {ws : List Cond} {rm : Room} {Pc : Array Value → State → Prop} {Qc : Array Value → State → Outcome → State → Prop} {XC : String → State → State → Prop} {mc ms : Nat} {free : Addr → Prop} {bytes : ByteArray} {maxL : Nat} {ret : Option FieldType} {hh : List (Nat × Nat × Nat × Nat)}
    (hM : vx_Met l y ws rm Pc Qc XC mc ms free) (hblind : FrameBlind Pc) (hrc : rm.cells = mc) (hrs : rm.slots = ms)
    (hframes : rm.frames + 1 ≤ R.frames) (hlocals : W9 + (maxL + 11) + rm.locals ≤ R.locals)
    (hws : ∀ w ∈ ws, ∀ a' U, s.WarmedH U.vm → w.before a' U = true) (hcode : Cond.codeWith y bytes maxL ret hh ∈ ws) (hinit : ∀ a' U, s.WarmedH U.vm → (Cond.initialized y.cls).before a' U = true) :
    vx_Back l R p e below s sargs y len W9 (PreOf R mc ms Pc) (PostOf Qc mc ms free) (vx_Post XC mc ms free) := by
  intro m meth c A g ig mk a X hg hsize hdg hW hn hp
  have h1 : (headSpec ws rm).pre.before a A.U = true := atoms_intro fun w hw => hws w hw _ _ X.warmed
  have h2 : (Cond.codeWith y bytes maxL ret hh).before a A.U = true := hws _ hcode _ _ X.warmed
  have h3 : (Cond.initialized y.cls).before a A.U = true := hinit _ _ X.warmed
  have h4 : A.cells + (headSpec ws rm).room.cells ≤ R.cells := by rw [show (headSpec ws rm).room.cells = mc from hrc]; exact hp.1
  have h5 : A.slots + (headSpec ws rm).room.slots ≤ R.slots := by rw [show (headSpec ws rm).room.slots = ms from hrs]; exact hp.2.1
  have hPc : Pc a (A.U.calling g mk a) := hblind _ _ _ _ hp.2.2
  obtain ⟨U, Ls, c0, s0⟩ := A
  dsimp only [Pt.U, Pt.locs, Pt.cells, Pt.slots] at h1 h2 h3 h4 h5 X hn hPc ⊢
  obtain ⟨m9, methY, cY, hn9, hmY, hcY, -, hlY, -⟩ := Cond.codeWith_spec h2
  cases Option.some.inj (hn9.symm.trans hn)
  obtain ⟨kY, hkY, -⟩ := className_of_methodNamed hn
  have hinitY : kY.init = .initialized := Cond.initialized_spec (findClass_of_methodNamed hn) hkY h3
  have h : At U g.method c below := by rw [hg]; exact X.here
  have hlocals9 : W9 + (maxL + 11) + (headSpec ws rm).room.locals ≤ R.locals := hlocals
  have happ : (headSpec ws rm).appliesLoose y e.platform (U.calling g mk a) = true :=
    Spec.appliesLoose_calling (g := g) h hdg hn hkY hinitY
      (X.room_calling (g := g) (R' := (headSpec ws rm).room) hsize hmY hcY hframes (by rw [hlY]; omega) h4 h5) h1
  obtain ⟨mid, hmid⟩ := h.above
  have hfr : (U.setTop g).frames = (.java g :: mid) ++ below := by rw [State.frames_setTop' g h.top, hmid]; rfl
  obtain ⟨o, s₂, hsteps, -, hend, hq⟩ := Steps.callFree hM p X.admits X.cas X.clock (acts := []) hfr happ hPc trivial
  have hq' : vx_Q Qc XC mc ms free a (U.calling g mk a) o s₂ := hq
  rw [State.frames_setTop' g h.top] at hend
  obtain ⟨g₀, hg0⟩ := Option.isSome_iff_exists.mp h.top
  obtain ⟨r, hr⟩ := State.topJava?_eq_some.mp hg0
  have hr' : (({ U with heap := s₂.heap, slotsUsed := s₂.slotsUsed } : State).setVm s₂.vm).frames = .java g₀ :: r := hr
  rcases hq' with ⟨hqc, L, hfe, hL⟩ | ⟨q, rfl, E, ce, L, hx, hce, hcv, hcl, hW₂, hsm, hL⟩
  · obtain ⟨⟨v, rfl⟩, hW₂, e2, q2, q3, q4, q5, q6⟩ := id hfe
    have e3 : s₂ = ({ (U.calling g mk a).setFrames s₂.frames with heap := s₂.heap, slotsUsed := s₂.slotsUsed } : State).setVm s₂.vm := by
      have : s₂ = ({ s₂ with vm := (U.calling g mk a).vm } : State).setVm s₂.vm := rfl
      rw [e2] at this
      exact this
    obtain ⟨c₂, i₂, len₂, hc₂, hd₂, hf₂⟩ := hend
    have hW' : U.WarmedH s₂.vm := hW₂
    have hcc : c₂ = c := by
      have h1 : s₂.code? g.method = U.code? g.method := by
        rw [State.code?_eq, State.code?_eq, hW'.alike.method?]
      exact Option.some.inj (hc₂.symm.trans (h1.trans h.code))
    subst hcc
    have hlen : len₂ = len := by rw [hdg] at hd₂; cases hd₂; rfl
    subst hlen
    have hs₂ : s₂ = (({ U with heap := s₂.heap, slotsUsed := s₂.slotsUsed } : State).setVm s₂.vm).setTop { g with pc := g.pc + len₂, stack := v.toList ++ g.stack } := by
      refine e3.trans ?_
      rw [hf₂, State.calling_eq h.top, State.setFrames_setFrames, State.setTop_of_frames _ hr', hr]
      rfl
    have hsame : U.sameButNew ({ U with heap := s₂.heap, slotsUsed := s₂.slotsUsed } : State) L mc ms := by
      refine ⟨?_, q2, q3, q4, q5, q6⟩
      obtain ⟨t, ht, -⟩ := State.frames_cons hr
      show ({ U with heap := s₂.heap, slotsUsed := s₂.slotsUsed } : State) = { U.setFrames U.frames with heap := s₂.heap, slotsUsed := s₂.slotsUsed }
      rw [State.setFrames_self ht]
    subst hg
    refine Or.inl ⟨v, ⟨(({ U with heap := s₂.heap, slotsUsed := s₂.slotsUsed } : State).setVm s₂.vm), Ls ++ L, c0 + mc, s0 + ms⟩,
      ⟨X.admits, X.cas, X.clock, X.frames, X.room, X.hears, X.method, X.code, (X.here.setHeapUsed s₂.heap s₂.slotsUsed).setVm hW'.alike, X.tail, State.WarmedH.trans X.warmed hW', X.limits, X.bytes, X.same.trans (hsame.setVm s.vm)⟩,
      ⟨g, mk, s₂, L, rfl, rfl, hqc, rfl, hL, rfl, rfl⟩, ?_⟩
    show Steps p.tables e below _ ((({ U with heap := s₂.heap, slotsUsed := s₂.slotsUsed } : State).setVm s₂.vm).setTop { g with pc := g.pc + len₂, stack := v.toList ++ g.stack })
    rw [← hs₂]
    exact hsteps
  · obtain ⟨e2, q2, q3, q4, q5, q6⟩ := id hsm
    have e3 : s₂ = ({ (U.calling g mk a).setFrames s₂.frames with heap := s₂.heap, slotsUsed := s₂.slotsUsed } : State).setVm s₂.vm := by
      have : s₂ = ({ s₂ with vm := (U.calling g mk a).vm } : State).setVm s₂.vm := rfl
      rw [e2] at this
      exact this
    have hf₂ : s₂.frames = .throwing q :: .java g :: U.frames.tail := hend
    have hW' : U.WarmedH s₂.vm := hW₂
    have hs₂ : s₂ = ((({ U with heap := s₂.heap, slotsUsed := s₂.slotsUsed } : State).setVm s₂.vm).setTop g).pushFrame (.throwing q) := by
      refine e3.trans ?_
      rw [hf₂, State.calling_eq h.top, State.setFrames_setFrames, State.pushFrame, State.frames_setTop _ hr', State.setTop_of_frames _ hr', State.setFrames_setFrames, hr]
      rfl
    have hsame : U.sameButNew ({ U with heap := s₂.heap, slotsUsed := s₂.slotsUsed } : State) L mc ms := by
      refine ⟨?_, q2, q3, q4, q5, q6⟩
      obtain ⟨t, ht, -⟩ := State.frames_cons hr
      show ({ U with heap := s₂.heap, slotsUsed := s₂.slotsUsed } : State) = { U.setFrames U.frames with heap := s₂.heap, slotsUsed := s₂.slotsUsed }
      rw [State.setFrames_self ht]
    subst hg
    refine Or.inr ⟨q, ⟨(({ U with heap := s₂.heap, slotsUsed := s₂.slotsUsed } : State).setVm s₂.vm), Ls ++ L, c0 + mc, s0 + ms⟩,
      ⟨X.admits, X.cas, X.clock, X.frames, X.room, X.hears, X.method, X.code, (X.here.setHeapUsed s₂.heap s₂.slotsUsed).setVm hW'.alike, X.tail, State.WarmedH.trans X.warmed hW', X.limits, X.bytes, X.same.trans (hsame.setVm s.vm)⟩,
      ⟨g, mk, s₂, L, E, ce, rfl, rfl, hx, hce, hcv, hcl, rfl, hL, rfl, rfl⟩, ?_⟩
    show Steps p.tables e below _ (((({ U with heap := s₂.heap, slotsUsed := s₂.slotsUsed } : State).setVm s₂.vm).setTop g).pushFrame (.throwing q))
    rw [← hs₂]
    exact hsteps
end
variable {p : Program} {l : Launch} {e : Env} {R : Room} {s : State} {m : MethodId} {args : Array Value} {below : List Frame} {meth : Method} {c : Code} {T : State} {H : Heap} {locs : List Loc} {cells slots : Nat}
theorem vx_callVX (X : Stand p l e R s m args below meth c T locs cells slots) (hexec : p.tables.exec = Jvm.exec) {own C : String} {index : Nat} {y : MethodName} {bytes : ByteArray} {maxL : Nat} {ret : Option FieldType} {hh : List (Nat × Nat × Nat × Nat)}
    (hown : s.vm.findClass own = some m.cls) (hlink : (Cond.methodLink own index y).before args s = true) (hinst : (Cond.instanceMethod y).before args s = true) (hsel : (Cond.selects C y y).before args s = true)
    (hcode : (Cond.codeWith y bytes maxL ret hh).before args s = true) (hy : y.cls ≠ "java/lang/invoke/MethodHandle" ∧ y.cls ≠ "java/lang/invoke/VarHandle")
    {W9 : Nat} {Pre : Pt → Array Value → Prop} {Post : Pt → Array Value → Option Value → Pt → Prop} {PostX : Pt → Array Value → Addr → Pt → Prop} (hK : vx_Back l R p e below s args y 3 W9 Pre Post PostX)
    {b : Addr} {cellB : Cell} (hcell : T.heap[b]? = some cellB) (hobj : cellB.vm.isStatics = false) (hcls : s.vm.findClass C = some cellB.cls)
    {g : JFrame} (hg : g.method = m) (hsize : g.locals.size = c.maxLocals) {argsL rest : List Value} (hlen : ∀ sig, parseMethodDescriptor y.desc = some sig → argsL.length = sig.parameters.length)
    (hstack : g.stack = argsL.reverse ++ .ref b :: rest) (hW : 2 * g.monitorRoom + (rest.map fun v => v.category).sum ≤ W9) (hdg : decode c.code g.pc = .ok (.invokevirtual index, 3))
    (hpre : ∀ vm₁, s.WarmedH vm₁ → Pre ⟨T.setVm vm₁, locs, cells, slots⟩ (Value.ref b :: argsL).toArray) :
    (∃ (v : Option Value) (vm₁ : Vm) (B : Pt), s.WarmedH vm₁ ∧ Stand p l e R s m args below meth c B.U B.locs B.cells B.slots ∧ Post ⟨T.setVm vm₁, locs, cells, slots⟩ (Value.ref b :: argsL).toArray v B ∧
      ∀ target, Steps p.tables e below (B.U.setTop { g with pc := g.pc + 3, stack := v.toList ++ rest }) target → Steps p.tables e below (T.setTop g) target) ∨
    (∃ (q : Addr) (vm₁ : Vm) (B : Pt), s.WarmedH vm₁ ∧ Stand p l e R s m args below meth c B.U B.locs B.cells B.slots ∧ PostX ⟨T.setVm vm₁, locs, cells, slots⟩ (Value.ref b :: argsL).toArray q B ∧
      Steps p.tables e below (T.setTop g) ((B.U.setTop { g with stack := rest }).pushFrame (.throwing q))) := by
  obtain ⟨mk, methM, hnamed, hmethM, hstM, habM⟩ := Cond.instanceMethod_spec hinst
  obtain ⟨m8, methM', cM, hn8, hmethM', -, -, -, -, -, -, hsigM⟩ := Cond.codeWith_spec hcode
  cases Option.some.inj (hn8.symm.trans hnamed)
  cases hmethM.symm.trans hmethM'
  obtain ⟨c2, r2, m2, q1, q2, q3, q4, kP, hkP, hkPi⟩ := Cond.selects_spec hsel
  cases hcls.symm.trans q1
  cases (State.methodFound?_of_named hnamed hy).symm.trans q2
  cases hnamed.symm.trans q3
  have hselP : selectMethod e.platform s.vm cellB.cls mk = .method mk := by rw [Launch.admits_selectMethod X.admits]; exact q4
  obtain ⟨vm₁, X₁, hstep₁⟩ := X.invokevirtual hexec hown hlink hnamed hmethM hstM hkP hkPi hy (a := b) (cell := cellB) hcell
    (fun z h => by rw [h] at hobj; cases hobj) hselP hmethM habM hkP hkPi (g := g) hg (argsL := argsL) (rest := rest) (hlen _ hsigM) hstack hdg
  rcases hK m meth c ⟨T.setVm vm₁, locs, cells, slots⟩ { g with stack := rest } (.invokevirtual index) mk (Value.ref b :: argsL).toArray X₁ hg hsize hdg hW (X₁.named hnamed) (hpre vm₁ X₁.warmed) with ⟨v, B, X', hpost, hsteps⟩ | ⟨q, B, X', hpost, hsteps⟩
  · exact Or.inl ⟨v, vm₁, B, X₁.warmed, X', hpost, fun target h => hstep₁ _ fun acts => by rw [doInvoke_state]; exact hsteps.trans h⟩
  · exact Or.inr ⟨q, vm₁, B, X₁.warmed, X', hpost, hstep₁ _ fun acts => by rw [doInvoke_state]; exact hsteps⟩
theorem vx_callSX (X : Stand p l e R s m args below meth c T locs cells slots) (hexec : p.tables.exec = Jvm.exec) {own : String} {index : Nat} {y : MethodName} {bytes : ByteArray} {maxL : Nat} {ret : Option FieldType} {hh : List (Nat × Nat × Nat × Nat)}
    (hown : s.vm.findClass own = some m.cls) (hlink : (Cond.methodLink own index y).before args s = true) (hstat : (Cond.static y).before args s = true) (hinit : (Cond.initialized y.cls).before args s = true)
    (hcode : (Cond.codeWith y bytes maxL ret hh).before args s = true) (hy : y.cls ≠ "java/lang/invoke/MethodHandle" ∧ y.cls ≠ "java/lang/invoke/VarHandle")
    {W9 : Nat} {Pre : Pt → Array Value → Prop} {Post : Pt → Array Value → Option Value → Pt → Prop} {PostX : Pt → Array Value → Addr → Pt → Prop} (hK : vx_Back l R p e below s args y 3 W9 Pre Post PostX)
    {g : JFrame} (hg : g.method = m) (hsize : g.locals.size = c.maxLocals) {argsL rest : List Value} (hlen : ∀ sig, parseMethodDescriptor y.desc = some sig → argsL.length = sig.parameters.length)
    (hstack : g.stack = argsL.reverse ++ rest) (hW : 2 * g.monitorRoom + (rest.map fun v => v.category).sum ≤ W9) (hdg : decode c.code g.pc = .ok (.invokestatic index, 3))
    (hpre : ∀ vm₁, s.WarmedH vm₁ → Pre ⟨T.setVm vm₁, locs, cells, slots⟩ argsL.toArray) :
    (∃ (v : Option Value) (vm₁ : Vm) (B : Pt), s.WarmedH vm₁ ∧ Stand p l e R s m args below meth c B.U B.locs B.cells B.slots ∧ Post ⟨T.setVm vm₁, locs, cells, slots⟩ argsL.toArray v B ∧
      ∀ target, Steps p.tables e below (B.U.setTop { g with pc := g.pc + 3, stack := v.toList ++ rest }) target → Steps p.tables e below (T.setTop g) target) ∨
    (∃ (q : Addr) (vm₁ : Vm) (B : Pt), s.WarmedH vm₁ ∧ Stand p l e R s m args below meth c B.U B.locs B.cells B.slots ∧ PostX ⟨T.setVm vm₁, locs, cells, slots⟩ argsL.toArray q B ∧
      Steps p.tables e below (T.setTop g) ((B.U.setTop { g with stack := rest }).pushFrame (.throwing q))) := by
  obtain ⟨mk, methM, cM, hnamed, hmethM, -, -, -, -, -, -, hsigM⟩ := Cond.codeWith_spec hcode
  have hstatic : methM.isStatic = true := Cond.static_spec hnamed hmethM hstat
  obtain ⟨kP, hkP, -⟩ := className_of_methodNamed hnamed
  have hinitP : kP.init = .initialized := Cond.initialized_spec (findClass_of_methodNamed hnamed) hkP hinit
  obtain ⟨vm₁, X₁, hstep₁⟩ := X.invokestatic hexec hown hlink hnamed hmethM hstatic hkP hinitP hy (g := g) hg (argsL := argsL) (rest := rest) (hlen _ hsigM) hstack hdg
  rcases hK m meth c ⟨T.setVm vm₁, locs, cells, slots⟩ { g with stack := rest } (.invokestatic index) mk argsL.toArray X₁ hg hsize hdg hW (X₁.named hnamed) (hpre vm₁ X₁.warmed) with ⟨v, B, X', hpost, hsteps⟩ | ⟨q, B, X', hpost, hsteps⟩
  · exact Or.inl ⟨v, vm₁, B, X₁.warmed, X', hpost, fun target h => hstep₁ _ fun acts => by rw [doInvoke_state]; exact hsteps.trans h⟩
  · exact Or.inr ⟨q, vm₁, B, X₁.warmed, X', hpost, hstep₁ _ fun acts => by rw [doInvoke_state]; exact hsteps⟩
theorem vx_callVW (X : Stand p l e R s m args below meth c T locs cells slots) (hexec : p.tables.exec = Jvm.exec) {own C : String} {index : Nat} {y : MethodName} {bytes : ByteArray} {maxL : Nat} {ret : Option FieldType} {hh : List (Nat × Nat × Nat × Nat)}
    (hown : s.vm.findClass own = some m.cls) (hlink : (Cond.methodLink own index y).before args s = true) (hinst : (Cond.instanceMethod y).before args s = true) (hsel : (Cond.selects C y y).before args s = true)
    (hcode : (Cond.codeWith y bytes maxL ret hh).before args s = true) (hy : y.cls ≠ "java/lang/invoke/MethodHandle" ∧ y.cls ≠ "java/lang/invoke/VarHandle")
    {W9 : Nat} {Pre : Pt → Array Value → Prop} {Post : Pt → Array Value → Option Value → Pt → Prop} (hK : Back l R p e below s args y 3 W9 Pre Post)
    {b : Addr} {cellB : Cell} (hcell : T.heap[b]? = some cellB) (hobj : cellB.vm.isStatics = false) (hcls : s.vm.findClass C = some cellB.cls)
    {g : JFrame} (hg : g.method = m) (hsize : g.locals.size = c.maxLocals) {argsL rest : List Value} (hlen : ∀ sig, parseMethodDescriptor y.desc = some sig → argsL.length = sig.parameters.length)
    (hstack : g.stack = argsL.reverse ++ .ref b :: rest) (hW : 2 * g.monitorRoom + (rest.map fun v => v.category).sum ≤ W9) (hdg : decode c.code g.pc = .ok (.invokevirtual index, 3))
    (hpre : ∀ vm₁, s.WarmedH vm₁ → Pre ⟨T.setVm vm₁, locs, cells, slots⟩ (Value.ref b :: argsL).toArray) :
    ∃ (v : Option Value) (vm₁ : Vm) (B : Pt), s.WarmedH vm₁ ∧ Stand p l e R s m args below meth c B.U B.locs B.cells B.slots ∧ Post ⟨T.setVm vm₁, locs, cells, slots⟩ (Value.ref b :: argsL).toArray v B ∧
      ∀ target, Steps p.tables e below (B.U.setTop { g with pc := g.pc + 3, stack := v.toList ++ rest }) target → Steps p.tables e below (T.setTop g) target := by
  obtain ⟨mk, methM, hnamed, hmethM, hstM, habM⟩ := Cond.instanceMethod_spec hinst
  obtain ⟨m8, methM', cM, hn8, hmethM', -, -, -, -, -, -, hsigM⟩ := Cond.codeWith_spec hcode
  cases Option.some.inj (hn8.symm.trans hnamed)
  cases hmethM.symm.trans hmethM'
  obtain ⟨c2, r2, m2, q1, q2, q3, q4, kP, hkP, hkPi⟩ := Cond.selects_spec hsel
  cases hcls.symm.trans q1
  cases (State.methodFound?_of_named hnamed hy).symm.trans q2
  cases hnamed.symm.trans q3
  have hselP : selectMethod e.platform s.vm cellB.cls mk = .method mk := by rw [Launch.admits_selectMethod X.admits]; exact q4
  obtain ⟨vm₁, X₁, hstep₁⟩ := X.invokevirtual hexec hown hlink hnamed hmethM hstM hkP hkPi hy (a := b) (cell := cellB) hcell
    (fun z h => by rw [h] at hobj; cases hobj) hselP hmethM habM hkP hkPi (g := g) hg (argsL := argsL) (rest := rest) (hlen _ hsigM) hstack hdg
  obtain ⟨v, B, X', hpost, hsteps⟩ := hK m meth c ⟨T.setVm vm₁, locs, cells, slots⟩ { g with stack := rest } (.invokevirtual index) mk (Value.ref b :: argsL).toArray X₁ hg hsize hdg hW (X₁.named hnamed) (hpre vm₁ X₁.warmed)
  exact ⟨v, vm₁, B, X₁.warmed, X', hpost, fun target h => hstep₁ _ fun acts => by rw [doInvoke_state]; exact hsteps.trans h⟩
abbrev vx_CVW (R : Room) (s : State) (args : Array Value) (own C : String) (index : Nat) (y : MethodName) (bytes : ByteArray) (maxL : Nat) (ret : Option FieldType) (hh : List (Nat × Nat × Nat × Nat)) (ws : List Cond) (rm : Room) (mc ms n : Nat) : Prop :=
  (rm.cells = mc ∧ rm.slots = ms ∧ rm.frames + 1 ≤ R.frames ∧ 8 + (maxL + 11) + rm.locals ≤ R.locals ∧ (∀ w ∈ ws, ∀ (a' : Array Value) (U : State), s.WarmedH U.vm → w.before a' U = true) ∧ Cond.codeWith y bytes maxL ret hh ∈ ws) ∧
  (Cond.codeWith y bytes maxL ret hh).before args s = true ∧ (Cond.initialized y.cls).before args s = true ∧ (y.cls ≠ "java/lang/invoke/MethodHandle" ∧ y.cls ≠ "java/lang/invoke/VarHandle") ∧
  (∀ sig, parseMethodDescriptor y.desc = some sig → n = sig.parameters.length) ∧ (Cond.methodLink own index y).before args s = true ∧ (Cond.instanceMethod y).before args s = true ∧ (Cond.selects C y y).before args s = true
theorem vx_cwVW {own C : String} {index maxL mc ms : Nat} {y : MethodName} {bytes : ByteArray} {ret : Option FieldType} {hh : List (Nat × Nat × Nat × Nat)} {Ts ws ws' : List Cond} {rm : Room} (n : Nat) (ht : ∀ w ∈ Ts, w.before args s = true) (hT : GoodIn Ts (wsV own index C y ws)) (hw : ws = Cond.codeWith y bytes maxL ret hh :: ws') (hrc : rm.cells = mc) (hrs : rm.slots = ms)
    (hd : y.cls = C ∧ y.cls ≠ "java/lang/invoke/MethodHandle" ∧ y.cls ≠ "java/lang/invoke/VarHandle" ∧ (parseMethodDescriptor y.desc).map (fun d => d.parameters.length) = some n) (hR : rm.frames + 1 ≤ R.frames ∧ 8 + (maxL + 11) + rm.locals ≤ R.locals) :
    vx_CVW R s args own C index y bytes maxL ret hh ws rm mc ms n := by
  obtain ⟨hC, hd⟩ := hd
  subst hC
  have ok : ∀ w ∈ wsV own index y.cls y ws, w.before args s = true := fun w h => ht w (hT w h).1
  have hG : GoodIn Ts ws := fun w h => hT w (by unfold wsV; exact List.mem_append_right _ h)
  have hc : Cond.codeWith y bytes maxL ret hh ∈ ws := by rw [hw]; exact List.mem_cons_self
  refine ⟨⟨hrc, hrs, hR.1, hR.2, pay_in ht hG, hc⟩, ht _ (hG _ hc).1, ok _ (by simp [wsV]), ⟨hd.1, hd.2.1⟩, fun sig h => ?_, ok _ (by simp [wsV]), ok _ (by simp [wsV]), ok _ (by simp [wsV])⟩
  have h2 := hd.2.2
  rw [h] at h2
  exact (Option.some.inj h2).symm
theorem vx_runVW {y : MethodName} {bytes cc : ByteArray} {maxL nL mc ms n index : Nat} {ret : Option FieldType} {hh : List (Nat × Nat × Nat × Nat)} {ws : List Cond} {rm : Room} {Pc : Array Value → State → Prop} {Qc : Array Value → State → Outcome → State → Prop} {free : Addr → Prop} {Ts : List Cond} {own C : String} {b : Addr} {As rest : List Value} {g : JFrame}
    (S : CallFix p m c cc nL s args Ts own) (hM : Met l y ws rm Pc Qc mc ms free) (cw : vx_CVW R s args own C index y bytes maxL ret hh ws rm mc ms n) (hp : PreV s H C b Pc As)
    (hg : g.method = m) (hn : As.length = n) (hsize : g.locals.size = nL) (hstack : g.stack = As.reverse ++ .ref b :: rest) (hW : 2 * g.monitorRoom + (rest.map fun v => v.category).sum ≤ 8) (hdg : decode cc g.pc = .ok (.invokevirtual index, 3)) (hf : cells + mc ≤ R.cells ∧ slots + ms ≤ R.slots) :
    va_Run p l e R s m args below meth c H locs cells slots mc ms g rest (Qc (Value.ref b :: As).toArray) free := by
  obtain ⟨⟨hrc, hrs, hfr, hlo, hws, hcw⟩, hcode, hini, hy, hlen, hl, hin, hse⟩ := cw
  have hK : Back l R p e below s args y 3 8 (PreOf R mc ms Pc) (PostOf Qc mc ms free) := va_backW (hh := hh) (bytes := bytes) (maxL := maxL) (ret := ret) hM hp.1 hrc hrs hfr hlo hws hcw (fun a' U hW => word_at hW (Or.inl (by first | rfl | simp [Cond.onTables, Cond.keeps, Cond.steady])) hini)
  obtain ⟨hx, hb, hml, ho, -⟩ := S
  obtain ⟨-, ⟨cellB, hcB, hoB, hclB⟩, hPc⟩ := hp
  intro T hT X
  obtain ⟨v, vm₁, ⟨U', l2, c2, s2⟩, hW₁, X', ⟨g', mk, t, L, e1, e2, hq, h1, hL, h2, h3⟩, st⟩ := vx_callVW X hx (C := C) (hh := hh) (bytes := bytes) (maxL := maxL) (ret := ret) ho hl hin hse hcode hy hK (by rw [hT]; exact hcB) hoB hclB hg (hsize.trans hml.symm) (argsL := As) (rest := rest) (fun sig h => hn.trans (hlen sig h)) hstack hW (by rw [hb]; exact hdg)
    (fun vm₁ hW₁ => ⟨hf.1, hf.2, hPc (T.setVm vm₁) hT hW₁⟩)
  dsimp only [Pt.U, Pt.locs, Pt.cells, Pt.slots] at X' e1 e2 h1 h2 h3 st
  subst h1; subst h2; subst h3
  exact ⟨v, (T.setVm vm₁).calling g' mk (Value.ref b :: As).toArray, t, U', L, hT, X', hL, e1, e2, hq, st⟩
section
variable {y : MethodName} {bytes cc : ByteArray} {maxL nL mc ms n index : Nat} {ret : Option FieldType} {ws : List Cond} {rm : Room} {Pc : Array Value → State → Prop} {Qc : Array Value → State → Outcome → State → Prop} {XC : String → State → State → Prop} {free : Addr → Prop} {Ts : List Cond} {own C : String} {b : Addr} {As rest : List Value} {g : JFrame}
theorem vx_runVX {hh : List (Nat × Nat × Nat × Nat)} (S : CallFix p m c cc nL s args Ts own) (hM : vx_Met l y ws rm Pc Qc XC mc ms free) (cw : vx_CVW R s args own C index y bytes maxL ret hh ws rm mc ms n) (hp : PreV s H C b Pc As)
    (hg : g.method = m) (hn : As.length = n) (hsize : g.locals.size = nL) (hstack : g.stack = As.reverse ++ .ref b :: rest) (hW : 2 * g.monitorRoom + (rest.map fun v => v.category).sum ≤ 8) (hdg : decode cc g.pc = .ok (.invokevirtual index, 3)) (hf : cells + mc ≤ R.cells ∧ slots + ms ≤ R.slots) :
    vx_Run p l e R s m args below meth c H locs cells slots mc ms g rest (Qc (Value.ref b :: As).toArray) XC free := by
  obtain ⟨⟨hrc, hrs, hfr, hlo, hws, hcw⟩, hcode, hini, hy, hlen, hl, hin, hse⟩ := cw
  have hK : vx_Back l R p e below s args y 3 8 (PreOf R mc ms Pc) (PostOf Qc mc ms free) (vx_Post XC mc ms free) := vx_backW (hh := hh) (bytes := bytes) (maxL := maxL) (ret := ret) hM hp.1 hrc hrs hfr hlo hws hcw (fun a' U hW => word_at hW (Or.inl (by first | rfl | simp [Cond.onTables, Cond.keeps, Cond.steady])) hini)
  obtain ⟨hx, hb, hml, ho, -⟩ := S
  obtain ⟨-, ⟨cellB, hcB, hoB, hclB⟩, hPc⟩ := hp
  intro T hT X
  rcases vx_callVX X hx (C := C) (hh := hh) (bytes := bytes) (maxL := maxL) (ret := ret) ho hl hin hse hcode hy hK (by rw [hT]; exact hcB) hoB hclB hg (hsize.trans hml.symm) (argsL := As) (rest := rest) (fun sig h => hn.trans (hlen sig h)) hstack hW (by rw [hb]; exact hdg)
    (fun vm₁ hW₁ => ⟨hf.1, hf.2, hPc (T.setVm vm₁) hT hW₁⟩) with ⟨v, vm₁, ⟨U', l2, c2, s2⟩, hW₁, X', ⟨g', mk, t, L, e1, e2, hq, h1, hL, h2, h3⟩, st⟩ | ⟨q, vm₁, ⟨U', l2, c2, s2⟩, hW₁, X', ⟨g', mk, t, L, E, ce, e1, e2, hq, hce, hcv, hcl, h1, hL, h2, h3⟩, st⟩
  · dsimp only [Pt.U, Pt.locs, Pt.cells, Pt.slots] at X' e1 e2 h1 h2 h3 st
    subst h1; subst h2; subst h3
    exact Or.inl ⟨v, (T.setVm vm₁).calling g' mk (Value.ref b :: As).toArray, t, U', L, hT, X', hL, e1, e2, hq, st⟩
  · dsimp only [Pt.U, Pt.locs, Pt.cells, Pt.slots] at X' e1 e2 h1 h2 h3 st hcl
    subst h1; subst h2; subst h3
    exact Or.inr ⟨q, (T.setVm vm₁).calling g' mk (Value.ref b :: As).toArray, t, U', L, E, ce, hT, X', hL, e1, e2, hq, hce, hcv, vx_cls hW₁ hcl, st⟩
theorem vx_runSX {hh : List (Nat × Nat × Nat × Nat)} (S : CallFix p m c cc nL s args Ts own) (hM : vx_Met l y ws rm Pc Qc XC mc ms free) (cw : vx_CSW R s args own index y bytes maxL ret hh ws rm mc ms n) (hp : PreS s H Pc As)
    (hg : g.method = m) (hn : As.length = n) (hsize : g.locals.size = nL) (hstack : g.stack = As.reverse ++ rest) (hW : 2 * g.monitorRoom + (rest.map fun v => v.category).sum ≤ 8) (hdg : decode cc g.pc = .ok (.invokestatic index, 3)) (hf : cells + mc ≤ R.cells ∧ slots + ms ≤ R.slots) :
    vx_Run p l e R s m args below meth c H locs cells slots mc ms g rest (Qc As.toArray) XC free := by
  obtain ⟨⟨hrc, hrs, hfr, hlo, hws, hcw⟩, hcode, hini, hy, hlen, hl, hstt⟩ := cw
  have hK : vx_Back l R p e below s args y 3 8 (PreOf R mc ms Pc) (PostOf Qc mc ms free) (vx_Post XC mc ms free) := vx_backW (hh := hh) (bytes := bytes) (maxL := maxL) (ret := ret) hM hp.1 hrc hrs hfr hlo hws hcw (fun a' U hW => word_at hW (Or.inl (by first | rfl | simp [Cond.onTables, Cond.keeps, Cond.steady])) hini)
  obtain ⟨hx, hb, hml, ho, -⟩ := S
  intro T hT X
  rcases vx_callSX X hx (hh := hh) (bytes := bytes) (maxL := maxL) (ret := ret) ho hl hstt hini hcode hy hK hg (hsize.trans hml.symm) (argsL := As) (rest := rest) (fun sig h => hn.trans (hlen sig h)) hstack hW (by rw [hb]; exact hdg)
    (fun vm₁ hW₁ => ⟨hf.1, hf.2, hp.2 (T.setVm vm₁) hT hW₁⟩) with ⟨v, vm₁, ⟨U', l2, c2, s2⟩, hW₁, X', ⟨g', mk, t, L, e1, e2, hq, h1, hL, h2, h3⟩, st⟩ | ⟨q, vm₁, ⟨U', l2, c2, s2⟩, hW₁, X', ⟨g', mk, t, L, E, ce, e1, e2, hq, hce, hcv, hcl, h1, hL, h2, h3⟩, st⟩
  · dsimp only [Pt.U, Pt.locs, Pt.cells, Pt.slots] at X' e1 e2 h1 h2 h3 st
    subst h1; subst h2; subst h3
    exact Or.inl ⟨v, (T.setVm vm₁).calling g' mk As.toArray, t, U', L, hT, X', hL, e1, e2, hq, st⟩
  · dsimp only [Pt.U, Pt.locs, Pt.cells, Pt.slots] at X' e1 e2 h1 h2 h3 st hcl
    subst h1; subst h2; subst h3
    exact Or.inr ⟨q, (T.setVm vm₁).calling g' mk As.toArray, t, U', L, E, ce, hT, X', hL, e1, e2, hq, hce, hcv, vx_cls hW₁ hcl, st⟩
end
end VXH
theorem vx_ofWH {l : Launch} {y : MethodName} {ws ws' : List Cond} {rm : Room} {Pc : Array Value → State → Prop} {Qc : Array Value → State → Outcome → State → Prop} {XC : String → State → State → Prop} {mc ms : Nat} {free : Addr → Prop} {cc : ByteArray} {maxL : Nat} {ret : Option FieldType} {hh : List (Nat × Nat × Nat × Nat)}
    (hy : plainName y.cls = true) (hw : ws = Cond.codeWith y cc maxL ret hh :: ws')
    (body : ∀ p e s m args below meth c s₁, BodyLoose p l y (headSpec ws rm) cc maxL ret e s m args below meth c s₁ → c.maxLocals = maxL → Pc args s →
      W p l e (headSpec ws rm).room s m args below meth c s.heap [] 0 0 (vx_MQ below Qc XC args s mc ms free) (entryFrame m args maxL)) : vx_Met l y ws rm Pc Qc XC mc ms free := by
  refine MetFree.of_bodyS (code := cc) (maxLocals := maxL) (ret := ret) hy ?_ ?_
  · intro args s m h hn
    obtain ⟨m9, meth, c, hn9, h1, h2, h3, h4, -, h5, h6, -⟩ := Cond.codeWith_spec (atoms_spec (ws := ws) h _ (by rw [hw]; exact List.mem_cons_self))
    cases hn.symm.trans hn9
    exact ⟨meth, c, h1, h2, h3, h4, h5, h6⟩
  · intro p e s m args below meth c s₁ B hml hP _
    have hh0 : s₁.heap = s.heap := by rw [B.state]; rfl
    obtain ⟨t, a1, o, b1, b2, b3⟩ := body p e s m args below meth c s₁ B hml hP s₁ hh0 (Stand.of_body B)
    exact ⟨t, o, a1, b1, b2, b3⟩
/-! ===== END ===== -/
end
section
/-! ===== BEGIN printed: names, fields, word lists, decode rows ===== -/
def RX0 : String := "FountainDesk$Block"
def TX0 : u_T := fun k => match k with
  | 0 => ("FountainDesk$Block", "innerBytes", "[[I", true)
  | 1 => ("FountainDesk$Block", "symbols", "I", false)
  | 2 => ("FountainDesk$Block", "bytes", "I", false)
  | _ => ("FountainDesk$Block", "turn", "I", false)
def tyX0 : Nat → FieldType := fun k => match k with
  | 0 => .array (.array .int)
  | 1 => .int
  | 2 => .int
  | _ => .int
abbrev wsX00 : List Cond := u_ws RX0 TX0 4
theorem nmX0 : ∀ a, a < 4 → ∀ b, b < 4 → a ≠ b → (TX0 a).2.1 ≠ (TX0 b).2.1 := by decide +kernel
theorem tyX0_ok : ∀ k, k < 4 → parseFieldDescriptor (TX0 k).2.2.1 = some (tyX0 k) := by decide +kernel
abbrev cX0_init : ByteArray := prog_2_method_1_code
def yX0_init : MethodName := ⟨RX0, "<init>", "()V"⟩
abbrev cX0_load : ByteArray := prog_2_method_2_code
def yX0_load : MethodName := ⟨RX0, "load", "(LFountainDesk$Equations;II)V"⟩
abbrev cX0_valueOf : ByteArray := prog_2_method_3_code
def yX0_valueOf : MethodName := ⟨RX0, "valueOf", "(LFountainDesk$PacketRow;I)I"⟩
def RX1 : String := "FountainDesk$Catcher"
def TX1 : u_T := fun k => match k with
  | 0 => ("FountainDesk$Catcher", "equations", "LFountainDesk$Equations;", true)
  | 1 => ("FountainDesk$Catcher", "symbols", "I", false)
  | 2 => ("FountainDesk$Catcher", "bytes", "I", false)
  | 3 => ("FountainDesk$Catcher", "turn", "I", false)
  | _ => ("FountainDesk$Catcher", "caught", "I", false)
def tyX1 : Nat → FieldType := fun k => match k with
  | 0 => .object "FountainDesk$Equations"
  | 1 => .int
  | 2 => .int
  | 3 => .int
  | _ => .int
abbrev wsX10 : List Cond := u_ws RX1 TX1 5
theorem nmX1 : ∀ a, a < 5 → ∀ b, b < 5 → a ≠ b → (TX1 a).2.1 ≠ (TX1 b).2.1 := by decide +kernel
theorem tyX1_ok : ∀ k, k < 5 → parseFieldDescriptor (TX1 k).2.2.1 = some (tyX1 k) := by decide +kernel
abbrev cX1_init : ByteArray := prog_3_method_1_code
def yX1_init : MethodName := ⟨RX1, "<init>", "(LFountainDesk$Field;)V"⟩
abbrev cX1_begin : ByteArray := prog_3_method_2_code
def yX1_begin : MethodName := ⟨RX1, "begin", "(III)V"⟩
abbrev cX1_catchLine : ByteArray := prog_3_method_3_code
def yX1_catchLine : MethodName := ⟨RX1, "catchLine", "()I"⟩
def RX2 : String := "FountainDesk$Equations"
def TX2 : u_T := fun k => match k with
  | 0 => ("FountainDesk$Equations", "field", "LFountainDesk$Field;", true)
  | 1 => ("FountainDesk$Equations", "rows", "[[I", true)
  | 2 => ("FountainDesk$Equations", "leads", "[Z", true)
  | 3 => ("FountainDesk$Equations", "line", "[I", true)
  | 4 => ("FountainDesk$Equations", "inner", "I", false)
  | 5 => ("FountainDesk$Equations", "bytes", "I", false)
  | _ => ("FountainDesk$Equations", "rank", "I", false)
def tyX2 : Nat → FieldType := fun k => match k with
  | 0 => .object "FountainDesk$Field"
  | 1 => .array (.array .int)
  | 2 => .array .boolean
  | 3 => .array .int
  | 4 => .int
  | 5 => .int
  | _ => .int
abbrev wsX20 : List Cond := u_ws RX2 TX2 7
theorem nmX2 : ∀ a, a < 7 → ∀ b, b < 7 → a ≠ b → (TX2 a).2.1 ≠ (TX2 b).2.1 := by decide +kernel
theorem tyX2_ok : ∀ k, k < 7 → parseFieldDescriptor (TX2 k).2.2.1 = some (tyX2 k) := by decide +kernel
abbrev cX2_init : ByteArray := prog_4_method_1_code
def yX2_init : MethodName := ⟨RX2, "<init>", "(LFountainDesk$Field;)V"⟩
abbrev cX2_start : ByteArray := prog_4_method_2_code
def yX2_start : MethodName := ⟨RX2, "start", "(II)V"⟩
abbrev cX2_setLine : ByteArray := prog_4_method_3_code
def yX2_setLine : MethodName := ⟨RX2, "setLine", "(LFountainDesk$PacketRow;)V"⟩
abbrev cX2_setValue : ByteArray := prog_4_method_4_code
def yX2_setValue : MethodName := ⟨RX2, "setValue", "(II)V"⟩
abbrev cX2_learn : ByteArray := prog_4_method_5_code
def yX2_learn : MethodName := ⟨RX2, "learn", "()I"⟩
abbrev cX2_derive : ByteArray := prog_4_method_6_code
def yX2_derive : MethodName := ⟨RX2, "derive", "(LFountainDesk$PacketRow;)Z"⟩
abbrev cX2_derivedValue : ByteArray := prog_4_method_7_code
def yX2_derivedValue : MethodName := ⟨RX2, "derivedValue", "(I)I"⟩
abbrev cX2_setSumLine : ByteArray := prog_4_method_8_code
def yX2_setSumLine : MethodName := ⟨RX2, "setSumLine", "(II)V"⟩
abbrev cX2_setPowerLine : ByteArray := prog_4_method_9_code
def yX2_setPowerLine : MethodName := ⟨RX2, "setPowerLine", "(II)V"⟩
abbrev cX2_reduceLine : ByteArray := prog_4_method_10_code
def yX2_reduceLine : MethodName := ⟨RX2, "reduceLine", "()V"⟩
abbrev cX2_lineLead : ByteArray := prog_4_method_11_code
def yX2_lineLead : MethodName := ⟨RX2, "lineLead", "()I"⟩
abbrev cX2_hasValueLeft : ByteArray := prog_4_method_12_code
def yX2_hasValueLeft : MethodName := ⟨RX2, "hasValueLeft", "()Z"⟩
abbrev cX2_keepLine : ByteArray := prog_4_method_13_code
def yX2_keepLine : MethodName := ⟨RX2, "keepLine", "(I)V"⟩
def RX3 : String := "FountainDesk$Field"
def TX3 : u_T := fun k => match k with
  | 0 => ("FountainDesk$Field", "power", "[I", true)
  | _ => ("FountainDesk$Field", "exponent", "[I", true)
def tyX3 : Nat → FieldType := fun k => match k with
  | 0 => .array .int
  | _ => .array .int
abbrev wsX30 : List Cond := u_ws RX3 TX3 2
theorem nmX3 : ∀ a, a < 2 → ∀ b, b < 2 → a ≠ b → (TX3 a).2.1 ≠ (TX3 b).2.1 := by decide +kernel
theorem tyX3_ok : ∀ k, k < 2 → parseFieldDescriptor (TX3 k).2.2.1 = some (tyX3 k) := by decide +kernel
abbrev cX3_init : ByteArray := prog_5_method_1_code
def yX3_init : MethodName := ⟨RX3, "<init>", "()V"⟩
abbrev cX3_times : ByteArray := prog_5_method_2_code
def yX3_times : MethodName := ⟨RX3, "times", "(II)I"⟩
abbrev cX3_inverse : ByteArray := prog_5_method_3_code
def yX3_inverse : MethodName := ⟨RX3, "inverse", "(I)I"⟩
abbrev cX3_powerOfTwo : ByteArray := prog_5_method_4_code
def yX3_powerOfTwo : MethodName := ⟨RX3, "powerOfTwo", "(I)I"⟩
abbrev cX3_addTimes : ByteArray := prog_5_method_5_code
def yX3_addTimes : MethodName := ⟨RX3, "addTimes", "([I[III)V"⟩
def RX4 : String := "FountainDesk$PacketRow"
def TX4 : u_T := fun k => match k with
  | 0 => ("FountainDesk$PacketRow", "places", "[I", true)
  | _ => ("FountainDesk$PacketRow", "size", "I", false)
def tyX4 : Nat → FieldType := fun k => match k with
  | 0 => .array .int
  | _ => .int
abbrev wsX40 : List Cond := u_ws RX4 TX4 2
theorem nmX4 : ∀ a, a < 2 → ∀ b, b < 2 → a ≠ b → (TX4 a).2.1 ≠ (TX4 b).2.1 := by decide +kernel
theorem tyX4_ok : ∀ k, k < 2 → parseFieldDescriptor (TX4 k).2.2.1 = some (tyX4 k) := by decide +kernel
abbrev cX4_init : ByteArray := prog_6_method_1_code
def yX4_init : MethodName := ⟨RX4, "<init>", "()V"⟩
abbrev cX4_find : ByteArray := prog_6_method_2_code
def yX4_find : MethodName := ⟨RX4, "find", "(III)V"⟩
abbrev cX4_greatest : ByteArray := prog_6_method_3_code
def yX4_greatest : MethodName := ⟨RX4, "greatest", "()I"⟩
abbrev cX4_sizeFor : ByteArray := prog_6_method_4_code
def yX4_sizeFor : MethodName := ⟨RX4, "sizeFor", "(I)I"⟩
abbrev cX4_chance : ByteArray := prog_6_method_5_code
def yX4_chance : MethodName := ⟨RX4, "chance", "(JII)I"⟩
abbrev cX4_mix : ByteArray := prog_6_method_6_code
def yX4_mix : MethodName := ⟨RX4, "mix", "(JI)J"⟩
abbrev cX4_leastPrimeFrom : ByteArray := prog_6_method_7_code
def yX4_leastPrimeFrom : MethodName := ⟨RX4, "leastPrimeFrom", "(I)I"⟩
abbrev cX4_isPrime : ByteArray := prog_6_method_8_code
def yX4_isPrime : MethodName := ⟨RX4, "isPrime", "(I)Z"⟩
def RX5 : String := "FountainDesk$Tape"
def TX5 : u_T := fun k => match k with
  | 0 => ("FountainDesk$Tape", "held", "[I", true)
  | _ => ("FountainDesk$Tape", "length", "I", false)
def tyX5 : Nat → FieldType := fun k => match k with
  | 0 => .array .int
  | _ => .int
abbrev wsX50 : List Cond := u_ws RX5 TX5 2
theorem nmX5 : ∀ a, a < 2 → ∀ b, b < 2 → a ≠ b → (TX5 a).2.1 ≠ (TX5 b).2.1 := by decide +kernel
theorem tyX5_ok : ∀ k, k < 2 → parseFieldDescriptor (TX5 k).2.2.1 = some (tyX5 k) := by decide +kernel
abbrev cX5_init : ByteArray := prog_7_method_1_code
def yX5_init : MethodName := ⟨RX5, "<init>", "()V"⟩
abbrev cX5_hasRoom : ByteArray := prog_7_method_2_code
def yX5_hasRoom : MethodName := ⟨RX5, "hasRoom", "(I)Z"⟩
abbrev cX5_append : ByteArray := prog_7_method_3_code
def yX5_append : MethodName := ⟨RX5, "append", "(I)V"⟩
def RX6 : String := "FountainDesk$Turns"
def TX6 : u_T := fun k => match k with
  | 0 => ("FountainDesk$Turns", "work", "LFountainDesk$Equations;", true)
  | 1 => ("FountainDesk$Turns", "packet", "LFountainDesk$PacketRow;", true)
  | _ => ("FountainDesk$Turns", "found", "[I", true)
def tyX6 : Nat → FieldType := fun k => match k with
  | 0 => .object "FountainDesk$Equations"
  | 1 => .object "FountainDesk$PacketRow"
  | _ => .array .int
abbrev wsX60 : List Cond := u_ws RX6 TX6 3
theorem nmX6 : ∀ a, a < 3 → ∀ b, b < 3 → a ≠ b → (TX6 a).2.1 ≠ (TX6 b).2.1 := by decide +kernel
theorem tyX6_ok : ∀ k, k < 3 → parseFieldDescriptor (TX6 k).2.2.1 = some (tyX6 k) := by decide +kernel
abbrev cX6_init : ByteArray := prog_8_method_1_code
def yX6_init : MethodName := ⟨RX6, "<init>", "(LFountainDesk$Equations;LFountainDesk$PacketRow;)V"⟩
abbrev cX6_of : ByteArray := prog_8_method_2_code
def yX6_of : MethodName := ⟨RX6, "of", "(I)I"⟩
abbrev cX6_fillsRank : ByteArray := prog_8_method_3_code
def yX6_fillsRank : MethodName := ⟨RX6, "fillsRank", "(II)Z"⟩
def RX7 : String := "FountainDesk"
def TX7 : u_T := fun k => match k with
  | 0 => ("FountainDesk", "field", "LFountainDesk$Field;", true)
  | 1 => ("FountainDesk", "tape", "LFountainDesk$Tape;", true)
  | 2 => ("FountainDesk", "packet", "LFountainDesk$PacketRow;", true)
  | 3 => ("FountainDesk", "work", "LFountainDesk$Equations;", true)
  | 4 => ("FountainDesk", "turns", "LFountainDesk$Turns;", true)
  | 5 => ("FountainDesk", "block", "LFountainDesk$Block;", true)
  | _ => ("FountainDesk", "catcher", "LFountainDesk$Catcher;", true)
def tyX7 : Nat → FieldType := fun k => match k with
  | 0 => .object "FountainDesk$Field"
  | 1 => .object "FountainDesk$Tape"
  | 2 => .object "FountainDesk$PacketRow"
  | 3 => .object "FountainDesk$Equations"
  | 4 => .object "FountainDesk$Turns"
  | 5 => .object "FountainDesk$Block"
  | _ => .object "FountainDesk$Catcher"
abbrev wsX70 : List Cond := u_ws RX7 TX7 7
theorem nmX7 : ∀ a, a < 7 → ∀ b, b < 7 → a ≠ b → (TX7 a).2.1 ≠ (TX7 b).2.1 := by decide +kernel
theorem tyX7_ok : ∀ k, k < 7 → parseFieldDescriptor (TX7 k).2.2.1 = some (tyX7 k) := by decide +kernel
abbrev cX7_init : ByteArray := prog_1_method_1_code
def yX7_init : MethodName := ⟨RX7, "<init>", "()V"⟩
abbrev cX7_feed : ByteArray := prog_1_method_2_code
def yX7_feed : MethodName := ⟨RX7, "feed", "(IIIII)I"⟩
abbrev cX7_end : ByteArray := prog_1_method_3_code
def yX7_end : MethodName := ⟨RX7, "end", "(I)V"⟩
abbrev cX7_turn : ByteArray := prog_1_method_4_code
def yX7_turn : MethodName := ⟨RX7, "turn", "(I)I"⟩
abbrev cX7_block : ByteArray := prog_1_method_5_code
def yX7_block : MethodName := ⟨RX7, "block", "(II)V"⟩
abbrev cX7_byteAt : ByteArray := prog_1_method_6_code
def yX7_byteAt : MethodName := ⟨RX7, "byteAt", "(II)I"⟩
abbrev cX7_row : ByteArray := prog_1_method_7_code
def yX7_row : MethodName := ⟨RX7, "row", "(IIZ)I"⟩
abbrev cX7_open : ByteArray := prog_1_method_8_code
def yX7_open : MethodName := ⟨RX7, "open", "(II)V"⟩
abbrev cX7_take : ByteArray := prog_1_method_9_code
def yX7_take : MethodName := ⟨RX7, "take", "(I)Z"⟩
abbrev cX7_takeAll : ByteArray := prog_1_method_10_code
def yX7_takeAll : MethodName := ⟨RX7, "takeAll", "(III)I"⟩
abbrev cX7_give : ByteArray := prog_1_method_11_code
def yX7_give : MethodName := ⟨RX7, "give", "(I)Z"⟩
abbrev cX7_rank : ByteArray := prog_1_method_12_code
def yX7_rank : MethodName := ⟨RX7, "rank", "()I"⟩
abbrev cX7_follows : ByteArray := prog_1_method_13_code
def yX7_follows : MethodName := ⟨RX7, "follows", "(I)Z"⟩
abbrev cX7_known : ByteArray := prog_1_method_14_code
def yX7_known : MethodName := ⟨RX7, "known", "(II)I"⟩
abbrev cX7_product : ByteArray := prog_1_method_15_code
def yX7_product : MethodName := ⟨RX7, "product", "(II)I"⟩
abbrev cX7_count : ByteArray := prog_1_method_16_code
def yX7_count : MethodName := ⟨RX7, "count", "(I)I"⟩
abbrev cX7_isSymbolCount : ByteArray := prog_1_method_17_code
def yX7_isSymbolCount : MethodName := ⟨RX7, "isSymbolCount", "(I)Z"⟩
abbrev cX7_isByteCount : ByteArray := prog_1_method_18_code
def yX7_isByteCount : MethodName := ⟨RX7, "isByteCount", "(I)Z"⟩
abbrev cX7_isPacket : ByteArray := prog_1_method_19_code
def yX7_isPacket : MethodName := ⟨RX7, "isPacket", "(I)Z"⟩
abbrev cX7_blockFitsCatcher : ByteArray := prog_1_method_20_code
def yX7_blockFitsCatcher : MethodName := ⟨RX7, "blockFitsCatcher", "()Z"⟩
abbrev cX7_solveTape : ByteArray := prog_1_method_21_code
def yX7_solveTape : MethodName := ⟨RX7, "solveTape", "(III)V"⟩
abbrev cX7_catchFromBlock : ByteArray := prog_1_method_22_code
def yX7_catchFromBlock : MethodName := ⟨RX7, "catchFromBlock", "(I)I"⟩
abbrev cX7_catchFromTape : ByteArray := prog_1_method_23_code
def yX7_catchFromTape : MethodName := ⟨RX7, "catchFromTape", "(I)I"⟩
abbrev cX7_catcherDerives : ByteArray := prog_1_method_24_code
def yX7_catcherDerives : MethodName := ⟨RX7, "catcherDerives", "(I)Z"⟩
abbrev cX7_symbolsThatFollow : ByteArray := prog_1_method_25_code
def yX7_symbolsThatFollow : MethodName := ⟨RX7, "symbolsThatFollow", "()I"⟩
def RX8 : String := "FountainDeskModel"
def TX8 : u_T := fun k => match k with
  | 0 => ("FountainDeskModel", "code", "I", false)
  | 1 => ("FountainDeskModel", "tape", "[B", true)
  | 2 => ("FountainDeskModel", "length", "I", false)
  | 3 => ("FountainDeskModel", "turns", "[I", true)
  | 4 => ("FountainDeskModel", "blockK", "I", false)
  | 5 => ("FountainDeskModel", "blockT", "I", false)
  | 6 => ("FountainDeskModel", "inner", "[I", true)
  | 7 => ("FountainDeskModel", "catchK", "I", false)
  | 8 => ("FountainDeskModel", "catchT", "I", false)
  | 9 => ("FountainDeskModel", "caught", "[I", true)
  | 10 => ("FountainDeskModel", "caughts", "I", false)
  | 11 => ("FountainDeskModel", "packets", "I", false)
  | 12 => ("FountainDeskModel", "cells", "[I", true)
  | 13 => ("FountainDeskModel", "pivots", "[I", true)
  | 14 => ("FountainDeskModel", "rows", "I", false)
  | 15 => ("FountainDeskModel", "row", "[I", true)
  | 16 => ("FountainDeskModel", "powers", "[I", true)
  | 17 => ("FountainDeskModel", "gathered", "Z", false)
  | _ => ("FountainDeskModel", "bytes", "[I", true)
def tyX8 : Nat → FieldType := fun k => match k with
  | 0 => .int
  | 1 => .array .byte
  | 2 => .int
  | 3 => .array .int
  | 4 => .int
  | 5 => .int
  | 6 => .array .int
  | 7 => .int
  | 8 => .int
  | 9 => .array .int
  | 10 => .int
  | 11 => .int
  | 12 => .array .int
  | 13 => .array .int
  | 14 => .int
  | 15 => .array .int
  | 16 => .array .int
  | 17 => .boolean
  | _ => .array .int
abbrev wsX80 : List Cond := u_ws RX8 TX8 19
theorem nmX8 : ∀ a, a < 19 → ∀ b, b < 19 → a ≠ b → (TX8 a).2.1 ≠ (TX8 b).2.1 := by decide +kernel
theorem tyX8_ok : ∀ k, k < 19 → parseFieldDescriptor (TX8 k).2.2.1 = some (tyX8 k) := by decide +kernel
abbrev cX8_init : ByteArray := prog_10_method_1_code
def yX8_init : MethodName := ⟨RX8, "<init>", "()V"⟩
abbrev cX8_thrown : ByteArray := prog_10_method_2_code
def yX8_thrown : MethodName := ⟨RX8, "thrown", "()I"⟩
abbrev cX8_feed : ByteArray := prog_10_method_3_code
def yX8_feed : MethodName := ⟨RX8, "feed", "(IIIII)I"⟩
abbrev cX8_end : ByteArray := prog_10_method_4_code
def yX8_end : MethodName := ⟨RX8, "end", "(I)V"⟩
abbrev cX8_times : ByteArray := prog_10_method_5_code
def yX8_times : MethodName := ⟨RX8, "times", "(II)I"⟩
abbrev cX8_inverse : ByteArray := prog_10_method_6_code
def yX8_inverse : MethodName := ⟨RX8, "inverse", "(I)I"⟩
abbrev cX8_power : ByteArray := prog_10_method_7_code
def yX8_power : MethodName := ⟨RX8, "power", "(I)I"⟩
abbrev cX8_chance : ByteArray := prog_10_method_8_code
def yX8_chance : MethodName := ⟨RX8, "chance", "(JII)I"⟩
abbrev cX8_blank : ByteArray := prog_10_method_9_code
def yX8_blank : MethodName := ⟨RX8, "blank", "()V"⟩
abbrev cX8_fixed : ByteArray := prog_10_method_10_code
def yX8_fixed : MethodName := ⟨RX8, "fixed", "(II)V"⟩
abbrev cX8_prime : ByteArray := prog_10_method_11_code
def yX8_prime : MethodName := ⟨RX8, "prime", "(I)I"⟩
abbrev cX8_degree : ByteArray := prog_10_method_12_code
def yX8_degree : MethodName := ⟨RX8, "degree", "(I)I"⟩
abbrev cX8_packet : ByteArray := prog_10_method_13_code
def yX8_packet : MethodName := ⟨RX8, "packet", "(III)I"⟩
abbrev cX8_isReduced : ByteArray := prog_10_method_14_code
def yX8_isReduced : MethodName := ⟨RX8, "isReduced", "(I)Z"⟩
abbrev cX8_isAdded : ByteArray := prog_10_method_15_code
def yX8_isAdded : MethodName := ⟨RX8, "isAdded", "(I)Z"⟩
abbrev cX8_start : ByteArray := prog_10_method_16_code
def yX8_start : MethodName := ⟨RX8, "start", "(I)V"⟩
abbrev cX8_isK : ByteArray := prog_10_method_17_code
def yX8_isK : MethodName := ⟨RX8, "isK", "(I)Z"⟩
abbrev cX8_isT : ByteArray := prog_10_method_18_code
def yX8_isT : MethodName := ⟨RX8, "isT", "(I)Z"⟩
abbrev cX8_isFull : ByteArray := prog_10_method_19_code
def yX8_isFull : MethodName := ⟨RX8, "isFull", "(II)Z"⟩
abbrev cX8_turnOf : ByteArray := prog_10_method_20_code
def yX8_turnOf : MethodName := ⟨RX8, "turnOf", "(I)I"⟩
abbrev cX8_turn : ByteArray := prog_10_method_21_code
def yX8_turn : MethodName := ⟨RX8, "turn", "(I)I"⟩
abbrev cX8_block : ByteArray := prog_10_method_22_code
def yX8_block : MethodName := ⟨RX8, "block", "(II)V"⟩
abbrev cX8_isPacket : ByteArray := prog_10_method_23_code
def yX8_isPacket : MethodName := ⟨RX8, "isPacket", "(I)Z"⟩
abbrev cX8_summed : ByteArray := prog_10_method_24_code
def yX8_summed : MethodName := ⟨RX8, "summed", "(I)I"⟩
abbrev cX8_byteAt : ByteArray := prog_10_method_25_code
def yX8_byteAt : MethodName := ⟨RX8, "byteAt", "(II)I"⟩
abbrev cX8_row : ByteArray := prog_10_method_26_code
def yX8_row : MethodName := ⟨RX8, "row", "(IIZ)I"⟩
abbrev cX8_open : ByteArray := prog_10_method_27_code
def yX8_open : MethodName := ⟨RX8, "open", "(II)V"⟩
abbrev cX8_gather : ByteArray := prog_10_method_28_code
def yX8_gather : MethodName := ⟨RX8, "gather", "()V"⟩
abbrev cX8_comes : ByteArray := prog_10_method_29_code
def yX8_comes : MethodName := ⟨RX8, "comes", "(I)I"⟩
abbrev cX8_taken : ByteArray := prog_10_method_30_code
def yX8_taken : MethodName := ⟨RX8, "taken", "(I)I"⟩
abbrev cX8_isSame : ByteArray := prog_10_method_31_code
def yX8_isSame : MethodName := ⟨RX8, "isSame", "()Z"⟩
abbrev cX8_take : ByteArray := prog_10_method_32_code
def yX8_take : MethodName := ⟨RX8, "take", "(I)Z"⟩
abbrev cX8_takeAll : ByteArray := prog_10_method_33_code
def yX8_takeAll : MethodName := ⟨RX8, "takeAll", "(III)I"⟩
abbrev cX8_give : ByteArray := prog_10_method_34_code
def yX8_give : MethodName := ⟨RX8, "give", "(I)Z"⟩
abbrev cX8_rank : ByteArray := prog_10_method_35_code
def yX8_rank : MethodName := ⟨RX8, "rank", "()I"⟩
abbrev cX8_isKnown : ByteArray := prog_10_method_36_code
def yX8_isKnown : MethodName := ⟨RX8, "isKnown", "(I)Z"⟩
abbrev cX8_follows : ByteArray := prog_10_method_37_code
def yX8_follows : MethodName := ⟨RX8, "follows", "(I)Z"⟩
abbrev cX8_known : ByteArray := prog_10_method_38_code
def yX8_known : MethodName := ⟨RX8, "known", "(II)I"⟩
abbrev cX8_product : ByteArray := prog_10_method_39_code
def yX8_product : MethodName := ⟨RX8, "product", "(II)I"⟩
abbrev cX8_count : ByteArray := prog_10_method_40_code
def yX8_count : MethodName := ⟨RX8, "count", "(I)I"⟩
def RJ9 : String := "java/lang/Math"
def TJ9 : u_T := fun k => match k with
  | _ => ("", "", "", false)
def tyJ9 : Nat → FieldType := fun k => match k with
  | _ => .int
abbrev wsJ90 : List Cond := u_ws RJ9 TJ9 0
theorem nmJ9 : ∀ a, a < 0 → ∀ b, b < 0 → a ≠ b → (TJ9 a).2.1 ≠ (TJ9 b).2.1 := by decide +kernel
theorem tyJ9_ok : ∀ k, k < 0 → parseFieldDescriptor (TJ9 k).2.2.1 = some (tyJ9 k) := by decide +kernel
abbrev cJ9_floorMod_7cf53 : ByteArray := prog_15_method_50_code
def yJ9_floorMod_7cf53 : MethodName := ⟨RJ9, "floorMod", "(II)I"⟩
abbrev cJ9_max_7cf53 : ByteArray := prog_15_method_65_code
def yJ9_max_7cf53 : MethodName := ⟨RJ9, "max", "(II)I"⟩
abbrev cJ9_min_7cf53 : ByteArray := prog_15_method_69_code
def yJ9_min_7cf53 : MethodName := ⟨RJ9, "min", "(II)I"⟩
def RJ10 : String := "java/lang/System"
def TJ10 : u_T := fun k => match k with
  | _ => ("", "", "", false)
def tyJ10 : Nat → FieldType := fun k => match k with
  | _ => .int
abbrev wsJ100 : List Cond := u_ws RJ10 TJ10 0
theorem nmJ10 : ∀ a, a < 0 → ∀ b, b < 0 → a ≠ b → (TJ10 a).2.1 ≠ (TJ10 b).2.1 := by decide +kernel
theorem tyJ10_ok : ∀ k, k < 0 → parseFieldDescriptor (TJ10 k).2.2.1 = some (tyJ10 k) := by decide +kernel
def RJ7 : String := "java/util/Arrays"
def TJ7 : u_T := fun k => match k with
  | _ => ("", "", "", false)
def tyJ7 : Nat → FieldType := fun k => match k with
  | _ => .int
abbrev wsJ70 : List Cond := u_ws RJ7 TJ7 0
theorem nmJ7 : ∀ a, a < 0 → ∀ b, b < 0 → a ≠ b → (TJ7 a).2.1 ≠ (TJ7 b).2.1 := by decide +kernel
theorem tyJ7_ok : ∀ k, k < 0 → parseFieldDescriptor (TJ7 k).2.2.1 = some (tyJ7 k) := by decide +kernel
abbrev cJ7_fill_53178 : ByteArray := prog_20_method_103_code
def yJ7_fill_53178 : MethodName := ⟨RJ7, "fill", "([II)V"⟩
def RL : String := "FountainDeskLaw"
abbrev cL_feed : ByteArray := method_3_code
def yL_feed : MethodName := ⟨RL, "feed", "(LFountainDesk;IIIII[J)I"⟩
abbrev cL_end : ByteArray := method_4_code
def yL_end : MethodName := ⟨RL, "end", "(LFountainDesk;I)I"⟩
abbrev cL_turn : ByteArray := method_5_code
def yL_turn : MethodName := ⟨RL, "turn", "(LFountainDesk;I[J)I"⟩
abbrev cL_block : ByteArray := method_6_code
def yL_block : MethodName := ⟨RL, "block", "(LFountainDesk;II)I"⟩
abbrev cL_byteAt : ByteArray := method_7_code
def yL_byteAt : MethodName := ⟨RL, "byteAt", "(LFountainDesk;II[J)I"⟩
abbrev cL_row : ByteArray := method_8_code
def yL_row : MethodName := ⟨RL, "row", "(LFountainDesk;IIZ[J)I"⟩
abbrev cL_open : ByteArray := method_9_code
def yL_open : MethodName := ⟨RL, "open", "(LFountainDesk;II)I"⟩
abbrev cL_take : ByteArray := method_10_code
def yL_take : MethodName := ⟨RL, "take", "(LFountainDesk;I[J)I"⟩
abbrev cL_takeAll : ByteArray := method_11_code
def yL_takeAll : MethodName := ⟨RL, "takeAll", "(LFountainDesk;III[J)I"⟩
abbrev cL_give : ByteArray := method_12_code
def yL_give : MethodName := ⟨RL, "give", "(LFountainDesk;I[J)I"⟩
abbrev cL_rank : ByteArray := method_13_code
def yL_rank : MethodName := ⟨RL, "rank", "(LFountainDesk;[J)I"⟩
abbrev cL_follows : ByteArray := method_14_code
def yL_follows : MethodName := ⟨RL, "follows", "(LFountainDesk;I[J)I"⟩
abbrev cL_known : ByteArray := method_15_code
def yL_known : MethodName := ⟨RL, "known", "(LFountainDesk;II[J)I"⟩
abbrev cL_count : ByteArray := method_16_code
def yL_count : MethodName := ⟨RL, "count", "(LFountainDesk;I[J)I"⟩
abbrev cL_law : ByteArray := code
def yL_law : MethodName := ⟨RL, "law", "([I)Z"⟩
abbrev vwCl : List vw_C := [(RX0, TX0, 4), (RX1, TX1, 5), (RX2, TX2, 7), (RX3, TX3, 2), (RX4, TX4, 2), (RX5, TX5, 2), (RX6, TX6, 3), (RX7, TX7, 7), (RX8, TX8, 19)]
end
section
theorem dX0_init_0 : decode cX0_init 0 = .ok (.aload_n 0, 1) := by decide +kernel
theorem dX0_init_1 : decode cX0_init 1 = .ok (.invokespecial 3, 3) := by decide +kernel
theorem dX0_init_4 : decode cX0_init 4 = .ok (.aload_n 0, 1) := by decide +kernel
theorem dX0_init_5 : decode cX0_init 5 = .ok (.bipush 59, 2) := by decide +kernel
theorem dX0_init_7 : decode cX0_init 7 = .ok (.bipush 16, 2) := by decide +kernel
theorem dX0_init_9 : decode cX0_init 9 = .ok (.multianewarray 9 2, 4) := by decide +kernel
theorem dX0_init_13 : decode cX0_init 13 = .ok (.putfield 11, 3) := by decide +kernel
theorem dX0_init_16 : decode cX0_init 16 = .ok (.aload_n 0, 1) := by decide +kernel
theorem dX0_init_17 : decode cX0_init 17 = .ok (.iconst 0, 1) := by decide +kernel
theorem dX0_init_18 : decode cX0_init 18 = .ok (.putfield 16, 3) := by decide +kernel
theorem dX0_init_21 : decode cX0_init 21 = .ok (.aload_n 0, 1) := by decide +kernel
theorem dX0_init_22 : decode cX0_init 22 = .ok (.iconst 0, 1) := by decide +kernel
theorem dX0_init_23 : decode cX0_init 23 = .ok (.putfield 20, 3) := by decide +kernel
theorem dX0_init_26 : decode cX0_init 26 = .ok (.aload_n 0, 1) := by decide +kernel
theorem dX0_init_27 : decode cX0_init 27 = .ok (.iconst 0, 1) := by decide +kernel
theorem dX0_init_28 : decode cX0_init 28 = .ok (.putfield 23, 3) := by decide +kernel
theorem dX0_init_31 : decode cX0_init 31 = .ok (.return_, 1) := by decide +kernel
theorem dX0_load_0 : decode cX0_load 0 = .ok (.aload_n 0, 1) := by decide +kernel
theorem dX0_load_1 : decode cX0_load 1 = .ok (.iload_n 2, 1) := by decide +kernel
theorem dX0_load_2 : decode cX0_load 2 = .ok (.putfield 16, 3) := by decide +kernel
theorem dX0_load_5 : decode cX0_load 5 = .ok (.aload_n 0, 1) := by decide +kernel
theorem dX0_load_6 : decode cX0_load 6 = .ok (.iload_n 3, 1) := by decide +kernel
theorem dX0_load_7 : decode cX0_load 7 = .ok (.putfield 23, 3) := by decide +kernel
theorem dX0_load_10 : decode cX0_load 10 = .ok (.aload_n 0, 1) := by decide +kernel
theorem dX0_load_11 : decode cX0_load 11 = .ok (.aload_n 1, 1) := by decide +kernel
theorem dX0_load_12 : decode cX0_load 12 = .ok (.getfield 26, 3) := by decide +kernel
theorem dX0_load_15 : decode cX0_load 15 = .ok (.putfield 20, 3) := by decide +kernel
theorem dX0_load_18 : decode cX0_load 18 = .ok (.iconst 0, 1) := by decide +kernel
theorem dX0_load_19 : decode cX0_load 19 = .ok (.istore 4, 2) := by decide +kernel
theorem dX0_load_21 : decode cX0_load 21 = .ok (.iload 4, 2) := by decide +kernel
theorem dX0_load_23 : decode cX0_load 23 = .ok (.aload_n 1, 1) := by decide +kernel
theorem dX0_load_24 : decode cX0_load 24 = .ok (.getfield 29, 3) := by decide +kernel
theorem dX0_load_27 : decode cX0_load 27 = .ok (.if_icmp .ge 32, 3) := by decide +kernel
theorem dX0_load_30 : decode cX0_load 30 = .ok (.aload_n 1, 1) := by decide +kernel
theorem dX0_load_31 : decode cX0_load 31 = .ok (.getfield 32, 3) := by decide +kernel
theorem dX0_load_34 : decode cX0_load 34 = .ok (.iload 4, 2) := by decide +kernel
theorem dX0_load_36 : decode cX0_load 36 = .ok (.aaload, 1) := by decide +kernel
theorem dX0_load_37 : decode cX0_load 37 = .ok (.iconst 0, 1) := by decide +kernel
theorem dX0_load_38 : decode cX0_load 38 = .ok (.aload_n 0, 1) := by decide +kernel
theorem dX0_load_39 : decode cX0_load 39 = .ok (.getfield 11, 3) := by decide +kernel
theorem dX0_load_42 : decode cX0_load 42 = .ok (.iload 4, 2) := by decide +kernel
theorem dX0_load_44 : decode cX0_load 44 = .ok (.aaload, 1) := by decide +kernel
theorem dX0_load_45 : decode cX0_load 45 = .ok (.iconst 0, 1) := by decide +kernel
theorem dX0_load_46 : decode cX0_load 46 = .ok (.aload_n 0, 1) := by decide +kernel
theorem dX0_load_47 : decode cX0_load 47 = .ok (.getfield 20, 3) := by decide +kernel
theorem dX0_load_50 : decode cX0_load 50 = .ok (.invokestatic 35, 3) := by decide +kernel
theorem dX0_load_53 : decode cX0_load 53 = .ok (.iinc 4 1, 3) := by decide +kernel
theorem dX0_load_56 : decode cX0_load 56 = .ok (.goto (-35), 3) := by decide +kernel
theorem dX0_load_59 : decode cX0_load 59 = .ok (.return_, 1) := by decide +kernel
theorem dX0_valueOf_0 : decode cX0_valueOf 0 = .ok (.iconst 0, 1) := by decide +kernel
theorem dX0_valueOf_1 : decode cX0_valueOf 1 = .ok (.istore_n 3, 1) := by decide +kernel
theorem dX0_valueOf_2 : decode cX0_valueOf 2 = .ok (.iconst 0, 1) := by decide +kernel
theorem dX0_valueOf_3 : decode cX0_valueOf 3 = .ok (.istore 4, 2) := by decide +kernel
theorem dX0_valueOf_5 : decode cX0_valueOf 5 = .ok (.iload 4, 2) := by decide +kernel
theorem dX0_valueOf_7 : decode cX0_valueOf 7 = .ok (.aload_n 1, 1) := by decide +kernel
theorem dX0_valueOf_8 : decode cX0_valueOf 8 = .ok (.getfield 41, 3) := by decide +kernel
theorem dX0_valueOf_11 : decode cX0_valueOf 11 = .ok (.if_icmp .ge 26, 3) := by decide +kernel
theorem dX0_valueOf_14 : decode cX0_valueOf 14 = .ok (.iload_n 3, 1) := by decide +kernel
theorem dX0_valueOf_15 : decode cX0_valueOf 15 = .ok (.aload_n 0, 1) := by decide +kernel
theorem dX0_valueOf_16 : decode cX0_valueOf 16 = .ok (.getfield 11, 3) := by decide +kernel
theorem dX0_valueOf_19 : decode cX0_valueOf 19 = .ok (.aload_n 1, 1) := by decide +kernel
theorem dX0_valueOf_20 : decode cX0_valueOf 20 = .ok (.getfield 46, 3) := by decide +kernel
theorem dX0_valueOf_23 : decode cX0_valueOf 23 = .ok (.iload 4, 2) := by decide +kernel
theorem dX0_valueOf_25 : decode cX0_valueOf 25 = .ok (.iaload, 1) := by decide +kernel
theorem dX0_valueOf_26 : decode cX0_valueOf 26 = .ok (.aaload, 1) := by decide +kernel
theorem dX0_valueOf_27 : decode cX0_valueOf 27 = .ok (.iload_n 2, 1) := by decide +kernel
theorem dX0_valueOf_28 : decode cX0_valueOf 28 = .ok (.iaload, 1) := by decide +kernel
theorem dX0_valueOf_29 : decode cX0_valueOf 29 = .ok (.ixor, 1) := by decide +kernel
theorem dX0_valueOf_30 : decode cX0_valueOf 30 = .ok (.istore_n 3, 1) := by decide +kernel
theorem dX0_valueOf_31 : decode cX0_valueOf 31 = .ok (.iinc 4 1, 3) := by decide +kernel
theorem dX0_valueOf_34 : decode cX0_valueOf 34 = .ok (.goto (-29), 3) := by decide +kernel
theorem dX0_valueOf_37 : decode cX0_valueOf 37 = .ok (.iload_n 3, 1) := by decide +kernel
theorem dX0_valueOf_38 : decode cX0_valueOf 38 = .ok (.ireturn, 1) := by decide +kernel
theorem dX1_init_0 : decode cX1_init 0 = .ok (.aload_n 0, 1) := by decide +kernel
theorem dX1_init_1 : decode cX1_init 1 = .ok (.invokespecial 3, 3) := by decide +kernel
theorem dX1_init_4 : decode cX1_init 4 = .ok (.aload_n 0, 1) := by decide +kernel
theorem dX1_init_5 : decode cX1_init 5 = .ok (.new 9, 3) := by decide +kernel
theorem dX1_init_8 : decode cX1_init 8 = .ok (.dup, 1) := by decide +kernel
theorem dX1_init_9 : decode cX1_init 9 = .ok (.aload_n 1, 1) := by decide +kernel
theorem dX1_init_10 : decode cX1_init 10 = .ok (.invokespecial 11, 3) := by decide +kernel
theorem dX1_init_13 : decode cX1_init 13 = .ok (.putfield 14, 3) := by decide +kernel
theorem dX1_init_16 : decode cX1_init 16 = .ok (.aload_n 0, 1) := by decide +kernel
theorem dX1_init_17 : decode cX1_init 17 = .ok (.iconst 0, 1) := by decide +kernel
theorem dX1_init_18 : decode cX1_init 18 = .ok (.putfield 20, 3) := by decide +kernel
theorem dX1_init_21 : decode cX1_init 21 = .ok (.aload_n 0, 1) := by decide +kernel
theorem dX1_init_22 : decode cX1_init 22 = .ok (.iconst 0, 1) := by decide +kernel
theorem dX1_init_23 : decode cX1_init 23 = .ok (.putfield 24, 3) := by decide +kernel
theorem dX1_init_26 : decode cX1_init 26 = .ok (.aload_n 0, 1) := by decide +kernel
theorem dX1_init_27 : decode cX1_init 27 = .ok (.iconst 0, 1) := by decide +kernel
theorem dX1_init_28 : decode cX1_init 28 = .ok (.putfield 27, 3) := by decide +kernel
theorem dX1_init_31 : decode cX1_init 31 = .ok (.aload_n 0, 1) := by decide +kernel
theorem dX1_init_32 : decode cX1_init 32 = .ok (.iconst 0, 1) := by decide +kernel
theorem dX1_init_33 : decode cX1_init 33 = .ok (.putfield 30, 3) := by decide +kernel
theorem dX1_init_36 : decode cX1_init 36 = .ok (.return_, 1) := by decide +kernel
theorem dX1_begin_0 : decode cX1_begin 0 = .ok (.aload_n 0, 1) := by decide +kernel
theorem dX1_begin_1 : decode cX1_begin 1 = .ok (.iload_n 1, 1) := by decide +kernel
theorem dX1_begin_2 : decode cX1_begin 2 = .ok (.putfield 20, 3) := by decide +kernel
theorem dX1_begin_5 : decode cX1_begin 5 = .ok (.aload_n 0, 1) := by decide +kernel
theorem dX1_begin_6 : decode cX1_begin 6 = .ok (.iload_n 2, 1) := by decide +kernel
theorem dX1_begin_7 : decode cX1_begin 7 = .ok (.putfield 24, 3) := by decide +kernel
theorem dX1_begin_10 : decode cX1_begin 10 = .ok (.aload_n 0, 1) := by decide +kernel
theorem dX1_begin_11 : decode cX1_begin 11 = .ok (.iload_n 3, 1) := by decide +kernel
theorem dX1_begin_12 : decode cX1_begin 12 = .ok (.putfield 27, 3) := by decide +kernel
theorem dX1_begin_15 : decode cX1_begin 15 = .ok (.aload_n 0, 1) := by decide +kernel
theorem dX1_begin_16 : decode cX1_begin 16 = .ok (.iconst 0, 1) := by decide +kernel
theorem dX1_begin_17 : decode cX1_begin 17 = .ok (.putfield 30, 3) := by decide +kernel
theorem dX1_begin_20 : decode cX1_begin 20 = .ok (.aload_n 0, 1) := by decide +kernel
theorem dX1_begin_21 : decode cX1_begin 21 = .ok (.getfield 14, 3) := by decide +kernel
theorem dX1_begin_24 : decode cX1_begin 24 = .ok (.iload_n 1, 1) := by decide +kernel
theorem dX1_begin_25 : decode cX1_begin 25 = .ok (.iload_n 2, 1) := by decide +kernel
theorem dX1_begin_26 : decode cX1_begin 26 = .ok (.invokevirtual 33, 3) := by decide +kernel
theorem dX1_begin_29 : decode cX1_begin 29 = .ok (.return_, 1) := by decide +kernel
theorem dX1_catchLine_0 : decode cX1_catchLine 0 = .ok (.aload_n 0, 1) := by decide +kernel
theorem dX1_catchLine_1 : decode cX1_catchLine 1 = .ok (.getfield 14, 3) := by decide +kernel
theorem dX1_catchLine_4 : decode cX1_catchLine 4 = .ok (.invokevirtual 37, 3) := by decide +kernel
theorem dX1_catchLine_7 : decode cX1_catchLine 7 = .ok (.istore_n 1, 1) := by decide +kernel
theorem dX1_catchLine_8 : decode cX1_catchLine 8 = .ok (.iload_n 1, 1) := by decide +kernel
theorem dX1_catchLine_9 : decode cX1_catchLine 9 = .ok (.iconst (-1), 1) := by decide +kernel
theorem dX1_catchLine_10 : decode cX1_catchLine 10 = .ok (.if_icmp .eq 13, 3) := by decide +kernel
theorem dX1_catchLine_13 : decode cX1_catchLine 13 = .ok (.aload_n 0, 1) := by decide +kernel
theorem dX1_catchLine_14 : decode cX1_catchLine 14 = .ok (.dup, 1) := by decide +kernel
theorem dX1_catchLine_15 : decode cX1_catchLine 15 = .ok (.getfield 30, 3) := by decide +kernel
theorem dX1_catchLine_18 : decode cX1_catchLine 18 = .ok (.iconst 1, 1) := by decide +kernel
theorem dX1_catchLine_19 : decode cX1_catchLine 19 = .ok (.iadd, 1) := by decide +kernel
theorem dX1_catchLine_20 : decode cX1_catchLine 20 = .ok (.putfield 30, 3) := by decide +kernel
theorem dX1_catchLine_23 : decode cX1_catchLine 23 = .ok (.iload_n 1, 1) := by decide +kernel
theorem dX1_catchLine_24 : decode cX1_catchLine 24 = .ok (.ireturn, 1) := by decide +kernel
theorem dX2_init_0 : decode cX2_init 0 = .ok (.aload_n 0, 1) := by decide +kernel
theorem dX2_init_1 : decode cX2_init 1 = .ok (.invokespecial 3, 3) := by decide +kernel
theorem dX2_init_4 : decode cX2_init 4 = .ok (.aload_n 0, 1) := by decide +kernel
theorem dX2_init_5 : decode cX2_init 5 = .ok (.aload_n 1, 1) := by decide +kernel
theorem dX2_init_6 : decode cX2_init 6 = .ok (.putfield 9, 3) := by decide +kernel
theorem dX2_init_9 : decode cX2_init 9 = .ok (.aload_n 0, 1) := by decide +kernel
theorem dX2_init_10 : decode cX2_init 10 = .ok (.bipush 59, 2) := by decide +kernel
theorem dX2_init_12 : decode cX2_init 12 = .ok (.bipush 75, 2) := by decide +kernel
theorem dX2_init_14 : decode cX2_init 14 = .ok (.multianewarray 15 2, 4) := by decide +kernel
theorem dX2_init_18 : decode cX2_init 18 = .ok (.putfield 17, 3) := by decide +kernel
theorem dX2_init_21 : decode cX2_init 21 = .ok (.aload_n 0, 1) := by decide +kernel
theorem dX2_init_22 : decode cX2_init 22 = .ok (.bipush 59, 2) := by decide +kernel
theorem dX2_init_24 : decode cX2_init 24 = .ok (.newarray .boolean, 2) := by decide +kernel
theorem dX2_init_26 : decode cX2_init 26 = .ok (.putfield 20, 3) := by decide +kernel
theorem dX2_init_29 : decode cX2_init 29 = .ok (.aload_n 0, 1) := by decide +kernel
theorem dX2_init_30 : decode cX2_init 30 = .ok (.bipush 75, 2) := by decide +kernel
theorem dX2_init_32 : decode cX2_init 32 = .ok (.newarray .int, 2) := by decide +kernel
theorem dX2_init_34 : decode cX2_init 34 = .ok (.putfield 24, 3) := by decide +kernel
theorem dX2_init_37 : decode cX2_init 37 = .ok (.aload_n 0, 1) := by decide +kernel
theorem dX2_init_38 : decode cX2_init 38 = .ok (.iconst 0, 1) := by decide +kernel
theorem dX2_init_39 : decode cX2_init 39 = .ok (.putfield 28, 3) := by decide +kernel
theorem dX2_init_42 : decode cX2_init 42 = .ok (.aload_n 0, 1) := by decide +kernel
theorem dX2_init_43 : decode cX2_init 43 = .ok (.iconst 0, 1) := by decide +kernel
theorem dX2_init_44 : decode cX2_init 44 = .ok (.putfield 32, 3) := by decide +kernel
theorem dX2_init_47 : decode cX2_init 47 = .ok (.aload_n 0, 1) := by decide +kernel
theorem dX2_init_48 : decode cX2_init 48 = .ok (.iconst 0, 1) := by decide +kernel
theorem dX2_init_49 : decode cX2_init 49 = .ok (.putfield 35, 3) := by decide +kernel
theorem dX2_init_52 : decode cX2_init 52 = .ok (.return_, 1) := by decide +kernel
theorem dX2_start_0 : decode cX2_start 0 = .ok (.aload_n 0, 1) := by decide +kernel
theorem dX2_start_1 : decode cX2_start 1 = .ok (.iload_n 1, 1) := by decide +kernel
theorem dX2_start_2 : decode cX2_start 2 = .ok (.bipush 11, 2) := by decide +kernel
theorem dX2_start_4 : decode cX2_start 4 = .ok (.iadd, 1) := by decide +kernel
theorem dX2_start_5 : decode cX2_start 5 = .ok (.putfield 28, 3) := by decide +kernel
theorem dX2_start_8 : decode cX2_start 8 = .ok (.aload_n 0, 1) := by decide +kernel
theorem dX2_start_9 : decode cX2_start 9 = .ok (.iload_n 2, 1) := by decide +kernel
theorem dX2_start_10 : decode cX2_start 10 = .ok (.putfield 32, 3) := by decide +kernel
theorem dX2_start_13 : decode cX2_start 13 = .ok (.aload_n 0, 1) := by decide +kernel
theorem dX2_start_14 : decode cX2_start 14 = .ok (.iconst 0, 1) := by decide +kernel
theorem dX2_start_15 : decode cX2_start 15 = .ok (.putfield 35, 3) := by decide +kernel
theorem dX2_start_18 : decode cX2_start 18 = .ok (.iconst 0, 1) := by decide +kernel
theorem dX2_start_19 : decode cX2_start 19 = .ok (.istore_n 3, 1) := by decide +kernel
theorem dX2_start_20 : decode cX2_start 20 = .ok (.iload_n 3, 1) := by decide +kernel
theorem dX2_start_21 : decode cX2_start 21 = .ok (.bipush 59, 2) := by decide +kernel
theorem dX2_start_23 : decode cX2_start 23 = .ok (.if_icmp .ge 16, 3) := by decide +kernel
theorem dX2_start_26 : decode cX2_start 26 = .ok (.aload_n 0, 1) := by decide +kernel
theorem dX2_start_27 : decode cX2_start 27 = .ok (.getfield 20, 3) := by decide +kernel
theorem dX2_start_30 : decode cX2_start 30 = .ok (.iload_n 3, 1) := by decide +kernel
theorem dX2_start_31 : decode cX2_start 31 = .ok (.iconst 0, 1) := by decide +kernel
theorem dX2_start_32 : decode cX2_start 32 = .ok (.bastore, 1) := by decide +kernel
theorem dX2_start_33 : decode cX2_start 33 = .ok (.iinc 3 1, 3) := by decide +kernel
theorem dX2_start_36 : decode cX2_start 36 = .ok (.goto (-16), 3) := by decide +kernel
theorem dX2_start_39 : decode cX2_start 39 = .ok (.iconst 0, 1) := by decide +kernel
theorem dX2_start_40 : decode cX2_start 40 = .ok (.istore_n 3, 1) := by decide +kernel
theorem dX2_start_41 : decode cX2_start 41 = .ok (.iload_n 3, 1) := by decide +kernel
theorem dX2_start_42 : decode cX2_start 42 = .ok (.bipush 7, 2) := by decide +kernel
theorem dX2_start_44 : decode cX2_start 44 = .ok (.if_icmp .ge 20, 3) := by decide +kernel
theorem dX2_start_47 : decode cX2_start 47 = .ok (.aload_n 0, 1) := by decide +kernel
theorem dX2_start_48 : decode cX2_start 48 = .ok (.iload_n 1, 1) := by decide +kernel
theorem dX2_start_49 : decode cX2_start 49 = .ok (.iload_n 3, 1) := by decide +kernel
theorem dX2_start_50 : decode cX2_start 50 = .ok (.invokevirtual 38, 3) := by decide +kernel
theorem dX2_start_53 : decode cX2_start 53 = .ok (.aload_n 0, 1) := by decide +kernel
theorem dX2_start_54 : decode cX2_start 54 = .ok (.invokevirtual 42, 3) := by decide +kernel
theorem dX2_start_57 : decode cX2_start 57 = .ok (.pop, 1) := by decide +kernel
theorem dX2_start_58 : decode cX2_start 58 = .ok (.iinc 3 1, 3) := by decide +kernel
theorem dX2_start_61 : decode cX2_start 61 = .ok (.goto (-20), 3) := by decide +kernel
theorem dX2_start_64 : decode cX2_start 64 = .ok (.iconst 0, 1) := by decide +kernel
theorem dX2_start_65 : decode cX2_start 65 = .ok (.istore_n 3, 1) := by decide +kernel
theorem dX2_start_66 : decode cX2_start 66 = .ok (.iload_n 3, 1) := by decide +kernel
theorem dX2_start_67 : decode cX2_start 67 = .ok (.iconst 4, 1) := by decide +kernel
theorem dX2_start_68 : decode cX2_start 68 = .ok (.if_icmp .ge 20, 3) := by decide +kernel
theorem dX2_start_71 : decode cX2_start 71 = .ok (.aload_n 0, 1) := by decide +kernel
theorem dX2_start_72 : decode cX2_start 72 = .ok (.iload_n 1, 1) := by decide +kernel
theorem dX2_start_73 : decode cX2_start 73 = .ok (.iload_n 3, 1) := by decide +kernel
theorem dX2_start_74 : decode cX2_start 74 = .ok (.invokevirtual 46, 3) := by decide +kernel
theorem dX2_start_77 : decode cX2_start 77 = .ok (.aload_n 0, 1) := by decide +kernel
theorem dX2_start_78 : decode cX2_start 78 = .ok (.invokevirtual 42, 3) := by decide +kernel
theorem dX2_start_81 : decode cX2_start 81 = .ok (.pop, 1) := by decide +kernel
theorem dX2_start_82 : decode cX2_start 82 = .ok (.iinc 3 1, 3) := by decide +kernel
theorem dX2_start_85 : decode cX2_start 85 = .ok (.goto (-19), 3) := by decide +kernel
theorem dX2_start_88 : decode cX2_start 88 = .ok (.return_, 1) := by decide +kernel
theorem dX2_setLine_0 : decode cX2_setLine 0 = .ok (.aload_n 0, 1) := by decide +kernel
theorem dX2_setLine_1 : decode cX2_setLine 1 = .ok (.getfield 24, 3) := by decide +kernel
theorem dX2_setLine_4 : decode cX2_setLine 4 = .ok (.iconst 0, 1) := by decide +kernel
theorem dX2_setLine_5 : decode cX2_setLine 5 = .ok (.invokestatic 49, 3) := by decide +kernel
theorem dX2_setLine_8 : decode cX2_setLine 8 = .ok (.iconst 0, 1) := by decide +kernel
theorem dX2_setLine_9 : decode cX2_setLine 9 = .ok (.istore_n 2, 1) := by decide +kernel
theorem dX2_setLine_10 : decode cX2_setLine 10 = .ok (.iload_n 2, 1) := by decide +kernel
theorem dX2_setLine_11 : decode cX2_setLine 11 = .ok (.aload_n 1, 1) := by decide +kernel
theorem dX2_setLine_12 : decode cX2_setLine 12 = .ok (.getfield 55, 3) := by decide +kernel
theorem dX2_setLine_15 : decode cX2_setLine 15 = .ok (.if_icmp .ge 26, 3) := by decide +kernel
theorem dX2_setLine_18 : decode cX2_setLine 18 = .ok (.aload_n 0, 1) := by decide +kernel
theorem dX2_setLine_19 : decode cX2_setLine 19 = .ok (.getfield 24, 3) := by decide +kernel
theorem dX2_setLine_22 : decode cX2_setLine 22 = .ok (.aload_n 0, 1) := by decide +kernel
theorem dX2_setLine_23 : decode cX2_setLine 23 = .ok (.getfield 32, 3) := by decide +kernel
theorem dX2_setLine_26 : decode cX2_setLine 26 = .ok (.aload_n 1, 1) := by decide +kernel
theorem dX2_setLine_27 : decode cX2_setLine 27 = .ok (.getfield 60, 3) := by decide +kernel
theorem dX2_setLine_30 : decode cX2_setLine 30 = .ok (.iload_n 2, 1) := by decide +kernel
theorem dX2_setLine_31 : decode cX2_setLine 31 = .ok (.iaload, 1) := by decide +kernel
theorem dX2_setLine_32 : decode cX2_setLine 32 = .ok (.iadd, 1) := by decide +kernel
theorem dX2_setLine_33 : decode cX2_setLine 33 = .ok (.iconst 1, 1) := by decide +kernel
theorem dX2_setLine_34 : decode cX2_setLine 34 = .ok (.iastore, 1) := by decide +kernel
theorem dX2_setLine_35 : decode cX2_setLine 35 = .ok (.iinc 2 1, 3) := by decide +kernel
theorem dX2_setLine_38 : decode cX2_setLine 38 = .ok (.goto (-28), 3) := by decide +kernel
theorem dX2_setLine_41 : decode cX2_setLine 41 = .ok (.return_, 1) := by decide +kernel
theorem dX2_setValue_0 : decode cX2_setValue 0 = .ok (.aload_n 0, 1) := by decide +kernel
theorem dX2_setValue_1 : decode cX2_setValue 1 = .ok (.getfield 24, 3) := by decide +kernel
theorem dX2_setValue_4 : decode cX2_setValue 4 = .ok (.iload_n 1, 1) := by decide +kernel
theorem dX2_setValue_5 : decode cX2_setValue 5 = .ok (.iload_n 2, 1) := by decide +kernel
theorem dX2_setValue_6 : decode cX2_setValue 6 = .ok (.iastore, 1) := by decide +kernel
theorem dX2_setValue_7 : decode cX2_setValue 7 = .ok (.return_, 1) := by decide +kernel
theorem dX2_learn_0 : decode cX2_learn 0 = .ok (.aload_n 0, 1) := by decide +kernel
theorem dX2_learn_1 : decode cX2_learn 1 = .ok (.invokevirtual 63, 3) := by decide +kernel
theorem dX2_learn_4 : decode cX2_learn 4 = .ok (.aload_n 0, 1) := by decide +kernel
theorem dX2_learn_5 : decode cX2_learn 5 = .ok (.invokevirtual 66, 3) := by decide +kernel
theorem dX2_learn_8 : decode cX2_learn 8 = .ok (.istore_n 1, 1) := by decide +kernel
theorem dX2_learn_9 : decode cX2_learn 9 = .ok (.iload_n 1, 1) := by decide +kernel
theorem dX2_learn_10 : decode cX2_learn 10 = .ok (.iconst (-1), 1) := by decide +kernel
theorem dX2_learn_11 : decode cX2_learn 11 = .ok (.if_icmp .ne 16, 3) := by decide +kernel
theorem dX2_learn_14 : decode cX2_learn 14 = .ok (.aload_n 0, 1) := by decide +kernel
theorem dX2_learn_15 : decode cX2_learn 15 = .ok (.invokevirtual 69, 3) := by decide +kernel
theorem dX2_learn_18 : decode cX2_learn 18 = .ok (.ifCond .eq 7, 3) := by decide +kernel
theorem dX2_learn_21 : decode cX2_learn 21 = .ok (.iconst (-1), 1) := by decide +kernel
theorem dX2_learn_22 : decode cX2_learn 22 = .ok (.goto 4, 3) := by decide +kernel
theorem dX2_learn_25 : decode cX2_learn 25 = .ok (.iconst 0, 1) := by decide +kernel
theorem dX2_learn_26 : decode cX2_learn 26 = .ok (.ireturn, 1) := by decide +kernel
theorem dX2_learn_27 : decode cX2_learn 27 = .ok (.aload_n 0, 1) := by decide +kernel
theorem dX2_learn_28 : decode cX2_learn 28 = .ok (.iload_n 1, 1) := by decide +kernel
theorem dX2_learn_29 : decode cX2_learn 29 = .ok (.invokevirtual 73, 3) := by decide +kernel
theorem dX2_learn_32 : decode cX2_learn 32 = .ok (.iconst 1, 1) := by decide +kernel
theorem dX2_learn_33 : decode cX2_learn 33 = .ok (.ireturn, 1) := by decide +kernel
theorem dX2_derive_0 : decode cX2_derive 0 = .ok (.aload_n 0, 1) := by decide +kernel
theorem dX2_derive_1 : decode cX2_derive 1 = .ok (.aload_n 1, 1) := by decide +kernel
theorem dX2_derive_2 : decode cX2_derive 2 = .ok (.invokevirtual 77, 3) := by decide +kernel
theorem dX2_derive_5 : decode cX2_derive 5 = .ok (.aload_n 0, 1) := by decide +kernel
theorem dX2_derive_6 : decode cX2_derive 6 = .ok (.invokevirtual 63, 3) := by decide +kernel
theorem dX2_derive_9 : decode cX2_derive 9 = .ok (.aload_n 0, 1) := by decide +kernel
theorem dX2_derive_10 : decode cX2_derive 10 = .ok (.invokevirtual 66, 3) := by decide +kernel
theorem dX2_derive_13 : decode cX2_derive 13 = .ok (.iconst (-1), 1) := by decide +kernel
theorem dX2_derive_14 : decode cX2_derive 14 = .ok (.if_icmp .ne 7, 3) := by decide +kernel
theorem dX2_derive_17 : decode cX2_derive 17 = .ok (.iconst 1, 1) := by decide +kernel
theorem dX2_derive_18 : decode cX2_derive 18 = .ok (.goto 4, 3) := by decide +kernel
theorem dX2_derive_21 : decode cX2_derive 21 = .ok (.iconst 0, 1) := by decide +kernel
theorem dX2_derive_22 : decode cX2_derive 22 = .ok (.ireturn, 1) := by decide +kernel
theorem dX2_derivedValue_0 : decode cX2_derivedValue 0 = .ok (.aload_n 0, 1) := by decide +kernel
theorem dX2_derivedValue_1 : decode cX2_derivedValue 1 = .ok (.getfield 24, 3) := by decide +kernel
theorem dX2_derivedValue_4 : decode cX2_derivedValue 4 = .ok (.iload_n 1, 1) := by decide +kernel
theorem dX2_derivedValue_5 : decode cX2_derivedValue 5 = .ok (.iaload, 1) := by decide +kernel
theorem dX2_derivedValue_6 : decode cX2_derivedValue 6 = .ok (.ireturn, 1) := by decide +kernel
theorem dX2_setSumLine_0 : decode cX2_setSumLine 0 = .ok (.aload_n 0, 1) := by decide +kernel
theorem dX2_setSumLine_1 : decode cX2_setSumLine 1 = .ok (.getfield 24, 3) := by decide +kernel
theorem dX2_setSumLine_4 : decode cX2_setSumLine 4 = .ok (.iconst 0, 1) := by decide +kernel
theorem dX2_setSumLine_5 : decode cX2_setSumLine 5 = .ok (.invokestatic 49, 3) := by decide +kernel
theorem dX2_setSumLine_8 : decode cX2_setSumLine 8 = .ok (.iconst 0, 1) := by decide +kernel
theorem dX2_setSumLine_9 : decode cX2_setSumLine 9 = .ok (.istore_n 3, 1) := by decide +kernel
theorem dX2_setSumLine_10 : decode cX2_setSumLine 10 = .ok (.iload_n 3, 1) := by decide +kernel
theorem dX2_setSumLine_11 : decode cX2_setSumLine 11 = .ok (.iload_n 1, 1) := by decide +kernel
theorem dX2_setSumLine_12 : decode cX2_setSumLine 12 = .ok (.if_icmp .ge 64, 3) := by decide +kernel
theorem dX2_setSumLine_15 : decode cX2_setSumLine 15 = .ok (.iconst 1, 1) := by decide +kernel
theorem dX2_setSumLine_16 : decode cX2_setSumLine 16 = .ok (.iload_n 3, 1) := by decide +kernel
theorem dX2_setSumLine_17 : decode cX2_setSumLine 17 = .ok (.bipush 7, 2) := by decide +kernel
theorem dX2_setSumLine_19 : decode cX2_setSumLine 19 = .ok (.idiv, 1) := by decide +kernel
theorem dX2_setSumLine_20 : decode cX2_setSumLine 20 = .ok (.bipush 6, 2) := by decide +kernel
theorem dX2_setSumLine_22 : decode cX2_setSumLine 22 = .ok (.irem, 1) := by decide +kernel
theorem dX2_setSumLine_23 : decode cX2_setSumLine 23 = .ok (.iadd, 1) := by decide +kernel
theorem dX2_setSumLine_24 : decode cX2_setSumLine 24 = .ok (.istore 4, 2) := by decide +kernel
theorem dX2_setSumLine_26 : decode cX2_setSumLine 26 = .ok (.iload_n 3, 1) := by decide +kernel
theorem dX2_setSumLine_27 : decode cX2_setSumLine 27 = .ok (.bipush 7, 2) := by decide +kernel
theorem dX2_setSumLine_29 : decode cX2_setSumLine 29 = .ok (.irem, 1) := by decide +kernel
theorem dX2_setSumLine_30 : decode cX2_setSumLine 30 = .ok (.iload_n 2, 1) := by decide +kernel
theorem dX2_setSumLine_31 : decode cX2_setSumLine 31 = .ok (.if_icmp .eq 27, 3) := by decide +kernel
theorem dX2_setSumLine_34 : decode cX2_setSumLine 34 = .ok (.iload_n 3, 1) := by decide +kernel
theorem dX2_setSumLine_35 : decode cX2_setSumLine 35 = .ok (.iload 4, 2) := by decide +kernel
theorem dX2_setSumLine_37 : decode cX2_setSumLine 37 = .ok (.iadd, 1) := by decide +kernel
theorem dX2_setSumLine_38 : decode cX2_setSumLine 38 = .ok (.bipush 7, 2) := by decide +kernel
theorem dX2_setSumLine_40 : decode cX2_setSumLine 40 = .ok (.irem, 1) := by decide +kernel
theorem dX2_setSumLine_41 : decode cX2_setSumLine 41 = .ok (.iload_n 2, 1) := by decide +kernel
theorem dX2_setSumLine_42 : decode cX2_setSumLine 42 = .ok (.if_icmp .eq 16, 3) := by decide +kernel
theorem dX2_setSumLine_45 : decode cX2_setSumLine 45 = .ok (.iload_n 3, 1) := by decide +kernel
theorem dX2_setSumLine_46 : decode cX2_setSumLine 46 = .ok (.iconst 2, 1) := by decide +kernel
theorem dX2_setSumLine_47 : decode cX2_setSumLine 47 = .ok (.iload 4, 2) := by decide +kernel
theorem dX2_setSumLine_49 : decode cX2_setSumLine 49 = .ok (.imul, 1) := by decide +kernel
theorem dX2_setSumLine_50 : decode cX2_setSumLine 50 = .ok (.iadd, 1) := by decide +kernel
theorem dX2_setSumLine_51 : decode cX2_setSumLine 51 = .ok (.bipush 7, 2) := by decide +kernel
theorem dX2_setSumLine_53 : decode cX2_setSumLine 53 = .ok (.irem, 1) := by decide +kernel
theorem dX2_setSumLine_54 : decode cX2_setSumLine 54 = .ok (.iload_n 2, 1) := by decide +kernel
theorem dX2_setSumLine_55 : decode cX2_setSumLine 55 = .ok (.if_icmp .ne 15, 3) := by decide +kernel
theorem dX2_setSumLine_58 : decode cX2_setSumLine 58 = .ok (.aload_n 0, 1) := by decide +kernel
theorem dX2_setSumLine_59 : decode cX2_setSumLine 59 = .ok (.getfield 24, 3) := by decide +kernel
theorem dX2_setSumLine_62 : decode cX2_setSumLine 62 = .ok (.aload_n 0, 1) := by decide +kernel
theorem dX2_setSumLine_63 : decode cX2_setSumLine 63 = .ok (.getfield 32, 3) := by decide +kernel
theorem dX2_setSumLine_66 : decode cX2_setSumLine 66 = .ok (.iload_n 3, 1) := by decide +kernel
theorem dX2_setSumLine_67 : decode cX2_setSumLine 67 = .ok (.iadd, 1) := by decide +kernel
theorem dX2_setSumLine_68 : decode cX2_setSumLine 68 = .ok (.iconst 1, 1) := by decide +kernel
theorem dX2_setSumLine_69 : decode cX2_setSumLine 69 = .ok (.iastore, 1) := by decide +kernel
theorem dX2_setSumLine_70 : decode cX2_setSumLine 70 = .ok (.iinc 3 1, 3) := by decide +kernel
theorem dX2_setSumLine_73 : decode cX2_setSumLine 73 = .ok (.goto (-63), 3) := by decide +kernel
theorem dX2_setSumLine_76 : decode cX2_setSumLine 76 = .ok (.aload_n 0, 1) := by decide +kernel
theorem dX2_setSumLine_77 : decode cX2_setSumLine 77 = .ok (.getfield 24, 3) := by decide +kernel
theorem dX2_setSumLine_80 : decode cX2_setSumLine 80 = .ok (.aload_n 0, 1) := by decide +kernel
theorem dX2_setSumLine_81 : decode cX2_setSumLine 81 = .ok (.getfield 32, 3) := by decide +kernel
theorem dX2_setSumLine_84 : decode cX2_setSumLine 84 = .ok (.iload_n 1, 1) := by decide +kernel
theorem dX2_setSumLine_85 : decode cX2_setSumLine 85 = .ok (.iadd, 1) := by decide +kernel
theorem dX2_setSumLine_86 : decode cX2_setSumLine 86 = .ok (.iload_n 2, 1) := by decide +kernel
theorem dX2_setSumLine_87 : decode cX2_setSumLine 87 = .ok (.iadd, 1) := by decide +kernel
theorem dX2_setSumLine_88 : decode cX2_setSumLine 88 = .ok (.iconst 1, 1) := by decide +kernel
theorem dX2_setSumLine_89 : decode cX2_setSumLine 89 = .ok (.iastore, 1) := by decide +kernel
theorem dX2_setSumLine_90 : decode cX2_setSumLine 90 = .ok (.return_, 1) := by decide +kernel
theorem dX2_setPowerLine_0 : decode cX2_setPowerLine 0 = .ok (.aload_n 0, 1) := by decide +kernel
theorem dX2_setPowerLine_1 : decode cX2_setPowerLine 1 = .ok (.getfield 24, 3) := by decide +kernel
theorem dX2_setPowerLine_4 : decode cX2_setPowerLine 4 = .ok (.iconst 0, 1) := by decide +kernel
theorem dX2_setPowerLine_5 : decode cX2_setPowerLine 5 = .ok (.invokestatic 49, 3) := by decide +kernel
theorem dX2_setPowerLine_8 : decode cX2_setPowerLine 8 = .ok (.iconst 0, 1) := by decide +kernel
theorem dX2_setPowerLine_9 : decode cX2_setPowerLine 9 = .ok (.istore_n 3, 1) := by decide +kernel
theorem dX2_setPowerLine_10 : decode cX2_setPowerLine 10 = .ok (.iload_n 3, 1) := by decide +kernel
theorem dX2_setPowerLine_11 : decode cX2_setPowerLine 11 = .ok (.iload_n 1, 1) := by decide +kernel
theorem dX2_setPowerLine_12 : decode cX2_setPowerLine 12 = .ok (.bipush 7, 2) := by decide +kernel
theorem dX2_setPowerLine_14 : decode cX2_setPowerLine 14 = .ok (.iadd, 1) := by decide +kernel
theorem dX2_setPowerLine_15 : decode cX2_setPowerLine 15 = .ok (.if_icmp .ge 32, 3) := by decide +kernel
theorem dX2_setPowerLine_18 : decode cX2_setPowerLine 18 = .ok (.aload_n 0, 1) := by decide +kernel
theorem dX2_setPowerLine_19 : decode cX2_setPowerLine 19 = .ok (.getfield 24, 3) := by decide +kernel
theorem dX2_setPowerLine_22 : decode cX2_setPowerLine 22 = .ok (.aload_n 0, 1) := by decide +kernel
theorem dX2_setPowerLine_23 : decode cX2_setPowerLine 23 = .ok (.getfield 32, 3) := by decide +kernel
theorem dX2_setPowerLine_26 : decode cX2_setPowerLine 26 = .ok (.iload_n 3, 1) := by decide +kernel
theorem dX2_setPowerLine_27 : decode cX2_setPowerLine 27 = .ok (.iadd, 1) := by decide +kernel
theorem dX2_setPowerLine_28 : decode cX2_setPowerLine 28 = .ok (.aload_n 0, 1) := by decide +kernel
theorem dX2_setPowerLine_29 : decode cX2_setPowerLine 29 = .ok (.getfield 9, 3) := by decide +kernel
theorem dX2_setPowerLine_32 : decode cX2_setPowerLine 32 = .ok (.iload_n 3, 1) := by decide +kernel
theorem dX2_setPowerLine_33 : decode cX2_setPowerLine 33 = .ok (.iload_n 2, 1) := by decide +kernel
theorem dX2_setPowerLine_34 : decode cX2_setPowerLine 34 = .ok (.iconst 1, 1) := by decide +kernel
theorem dX2_setPowerLine_35 : decode cX2_setPowerLine 35 = .ok (.iadd, 1) := by decide +kernel
theorem dX2_setPowerLine_36 : decode cX2_setPowerLine 36 = .ok (.imul, 1) := by decide +kernel
theorem dX2_setPowerLine_37 : decode cX2_setPowerLine 37 = .ok (.invokevirtual 81, 3) := by decide +kernel
theorem dX2_setPowerLine_40 : decode cX2_setPowerLine 40 = .ok (.iastore, 1) := by decide +kernel
theorem dX2_setPowerLine_41 : decode cX2_setPowerLine 41 = .ok (.iinc 3 1, 3) := by decide +kernel
theorem dX2_setPowerLine_44 : decode cX2_setPowerLine 44 = .ok (.goto (-34), 3) := by decide +kernel
theorem dX2_setPowerLine_47 : decode cX2_setPowerLine 47 = .ok (.aload_n 0, 1) := by decide +kernel
theorem dX2_setPowerLine_48 : decode cX2_setPowerLine 48 = .ok (.getfield 24, 3) := by decide +kernel
theorem dX2_setPowerLine_51 : decode cX2_setPowerLine 51 = .ok (.aload_n 0, 1) := by decide +kernel
theorem dX2_setPowerLine_52 : decode cX2_setPowerLine 52 = .ok (.getfield 32, 3) := by decide +kernel
theorem dX2_setPowerLine_55 : decode cX2_setPowerLine 55 = .ok (.iload_n 1, 1) := by decide +kernel
theorem dX2_setPowerLine_56 : decode cX2_setPowerLine 56 = .ok (.iadd, 1) := by decide +kernel
theorem dX2_setPowerLine_57 : decode cX2_setPowerLine 57 = .ok (.bipush 7, 2) := by decide +kernel
theorem dX2_setPowerLine_59 : decode cX2_setPowerLine 59 = .ok (.iadd, 1) := by decide +kernel
theorem dX2_setPowerLine_60 : decode cX2_setPowerLine 60 = .ok (.iload_n 2, 1) := by decide +kernel
theorem dX2_setPowerLine_61 : decode cX2_setPowerLine 61 = .ok (.iadd, 1) := by decide +kernel
theorem dX2_setPowerLine_62 : decode cX2_setPowerLine 62 = .ok (.iconst 1, 1) := by decide +kernel
theorem dX2_setPowerLine_63 : decode cX2_setPowerLine 63 = .ok (.iastore, 1) := by decide +kernel
theorem dX2_setPowerLine_64 : decode cX2_setPowerLine 64 = .ok (.return_, 1) := by decide +kernel
theorem dX2_reduceLine_0 : decode cX2_reduceLine 0 = .ok (.iconst 0, 1) := by decide +kernel
theorem dX2_reduceLine_1 : decode cX2_reduceLine 1 = .ok (.istore_n 1, 1) := by decide +kernel
theorem dX2_reduceLine_2 : decode cX2_reduceLine 2 = .ok (.iload_n 1, 1) := by decide +kernel
theorem dX2_reduceLine_3 : decode cX2_reduceLine 3 = .ok (.aload_n 0, 1) := by decide +kernel
theorem dX2_reduceLine_4 : decode cX2_reduceLine 4 = .ok (.getfield 28, 3) := by decide +kernel
theorem dX2_reduceLine_7 : decode cX2_reduceLine 7 = .ok (.if_icmp .ge 60, 3) := by decide +kernel
theorem dX2_reduceLine_10 : decode cX2_reduceLine 10 = .ok (.aload_n 0, 1) := by decide +kernel
theorem dX2_reduceLine_11 : decode cX2_reduceLine 11 = .ok (.getfield 24, 3) := by decide +kernel
theorem dX2_reduceLine_14 : decode cX2_reduceLine 14 = .ok (.aload_n 0, 1) := by decide +kernel
theorem dX2_reduceLine_15 : decode cX2_reduceLine 15 = .ok (.getfield 32, 3) := by decide +kernel
theorem dX2_reduceLine_18 : decode cX2_reduceLine 18 = .ok (.iload_n 1, 1) := by decide +kernel
theorem dX2_reduceLine_19 : decode cX2_reduceLine 19 = .ok (.iadd, 1) := by decide +kernel
theorem dX2_reduceLine_20 : decode cX2_reduceLine 20 = .ok (.iaload, 1) := by decide +kernel
theorem dX2_reduceLine_21 : decode cX2_reduceLine 21 = .ok (.istore_n 2, 1) := by decide +kernel
theorem dX2_reduceLine_22 : decode cX2_reduceLine 22 = .ok (.iload_n 2, 1) := by decide +kernel
theorem dX2_reduceLine_23 : decode cX2_reduceLine 23 = .ok (.ifCond .eq 38, 3) := by decide +kernel
theorem dX2_reduceLine_26 : decode cX2_reduceLine 26 = .ok (.aload_n 0, 1) := by decide +kernel
theorem dX2_reduceLine_27 : decode cX2_reduceLine 27 = .ok (.getfield 20, 3) := by decide +kernel
theorem dX2_reduceLine_30 : decode cX2_reduceLine 30 = .ok (.iload_n 1, 1) := by decide +kernel
theorem dX2_reduceLine_31 : decode cX2_reduceLine 31 = .ok (.baload, 1) := by decide +kernel
theorem dX2_reduceLine_32 : decode cX2_reduceLine 32 = .ok (.ifCond .eq 29, 3) := by decide +kernel
theorem dX2_reduceLine_35 : decode cX2_reduceLine 35 = .ok (.aload_n 0, 1) := by decide +kernel
theorem dX2_reduceLine_36 : decode cX2_reduceLine 36 = .ok (.getfield 9, 3) := by decide +kernel
theorem dX2_reduceLine_39 : decode cX2_reduceLine 39 = .ok (.aload_n 0, 1) := by decide +kernel
theorem dX2_reduceLine_40 : decode cX2_reduceLine 40 = .ok (.getfield 24, 3) := by decide +kernel
theorem dX2_reduceLine_43 : decode cX2_reduceLine 43 = .ok (.aload_n 0, 1) := by decide +kernel
theorem dX2_reduceLine_44 : decode cX2_reduceLine 44 = .ok (.getfield 17, 3) := by decide +kernel
theorem dX2_reduceLine_47 : decode cX2_reduceLine 47 = .ok (.iload_n 1, 1) := by decide +kernel
theorem dX2_reduceLine_48 : decode cX2_reduceLine 48 = .ok (.aaload, 1) := by decide +kernel
theorem dX2_reduceLine_49 : decode cX2_reduceLine 49 = .ok (.iload_n 2, 1) := by decide +kernel
theorem dX2_reduceLine_50 : decode cX2_reduceLine 50 = .ok (.aload_n 0, 1) := by decide +kernel
theorem dX2_reduceLine_51 : decode cX2_reduceLine 51 = .ok (.getfield 32, 3) := by decide +kernel
theorem dX2_reduceLine_54 : decode cX2_reduceLine 54 = .ok (.iload_n 1, 1) := by decide +kernel
theorem dX2_reduceLine_55 : decode cX2_reduceLine 55 = .ok (.iadd, 1) := by decide +kernel
theorem dX2_reduceLine_56 : decode cX2_reduceLine 56 = .ok (.iconst 1, 1) := by decide +kernel
theorem dX2_reduceLine_57 : decode cX2_reduceLine 57 = .ok (.iadd, 1) := by decide +kernel
theorem dX2_reduceLine_58 : decode cX2_reduceLine 58 = .ok (.invokevirtual 87, 3) := by decide +kernel
theorem dX2_reduceLine_61 : decode cX2_reduceLine 61 = .ok (.iinc 1 1, 3) := by decide +kernel
theorem dX2_reduceLine_64 : decode cX2_reduceLine 64 = .ok (.goto (-62), 3) := by decide +kernel
theorem dX2_reduceLine_67 : decode cX2_reduceLine 67 = .ok (.return_, 1) := by decide +kernel
theorem dX2_lineLead_0 : decode cX2_lineLead 0 = .ok (.aload_n 0, 1) := by decide +kernel
theorem dX2_lineLead_1 : decode cX2_lineLead 1 = .ok (.getfield 28, 3) := by decide +kernel
theorem dX2_lineLead_4 : decode cX2_lineLead 4 = .ok (.iconst 1, 1) := by decide +kernel
theorem dX2_lineLead_5 : decode cX2_lineLead 5 = .ok (.isub, 1) := by decide +kernel
theorem dX2_lineLead_6 : decode cX2_lineLead 6 = .ok (.istore_n 1, 1) := by decide +kernel
theorem dX2_lineLead_7 : decode cX2_lineLead 7 = .ok (.iload_n 1, 1) := by decide +kernel
theorem dX2_lineLead_8 : decode cX2_lineLead 8 = .ok (.ifCond .lt 25, 3) := by decide +kernel
theorem dX2_lineLead_11 : decode cX2_lineLead 11 = .ok (.aload_n 0, 1) := by decide +kernel
theorem dX2_lineLead_12 : decode cX2_lineLead 12 = .ok (.getfield 24, 3) := by decide +kernel
theorem dX2_lineLead_15 : decode cX2_lineLead 15 = .ok (.aload_n 0, 1) := by decide +kernel
theorem dX2_lineLead_16 : decode cX2_lineLead 16 = .ok (.getfield 32, 3) := by decide +kernel
theorem dX2_lineLead_19 : decode cX2_lineLead 19 = .ok (.iload_n 1, 1) := by decide +kernel
theorem dX2_lineLead_20 : decode cX2_lineLead 20 = .ok (.iadd, 1) := by decide +kernel
theorem dX2_lineLead_21 : decode cX2_lineLead 21 = .ok (.iaload, 1) := by decide +kernel
theorem dX2_lineLead_22 : decode cX2_lineLead 22 = .ok (.ifCond .eq 5, 3) := by decide +kernel
theorem dX2_lineLead_25 : decode cX2_lineLead 25 = .ok (.iload_n 1, 1) := by decide +kernel
theorem dX2_lineLead_26 : decode cX2_lineLead 26 = .ok (.ireturn, 1) := by decide +kernel
theorem dX2_lineLead_27 : decode cX2_lineLead 27 = .ok (.iinc 1 (-1), 3) := by decide +kernel
theorem dX2_lineLead_30 : decode cX2_lineLead 30 = .ok (.goto (-23), 3) := by decide +kernel
theorem dX2_lineLead_33 : decode cX2_lineLead 33 = .ok (.iconst (-1), 1) := by decide +kernel
theorem dX2_lineLead_34 : decode cX2_lineLead 34 = .ok (.ireturn, 1) := by decide +kernel
theorem dX2_hasValueLeft_0 : decode cX2_hasValueLeft 0 = .ok (.iconst 0, 1) := by decide +kernel
theorem dX2_hasValueLeft_1 : decode cX2_hasValueLeft 1 = .ok (.istore_n 1, 1) := by decide +kernel
theorem dX2_hasValueLeft_2 : decode cX2_hasValueLeft 2 = .ok (.iload_n 1, 1) := by decide +kernel
theorem dX2_hasValueLeft_3 : decode cX2_hasValueLeft 3 = .ok (.aload_n 0, 1) := by decide +kernel
theorem dX2_hasValueLeft_4 : decode cX2_hasValueLeft 4 = .ok (.getfield 32, 3) := by decide +kernel
theorem dX2_hasValueLeft_7 : decode cX2_hasValueLeft 7 = .ok (.if_icmp .ge 20, 3) := by decide +kernel
theorem dX2_hasValueLeft_10 : decode cX2_hasValueLeft 10 = .ok (.aload_n 0, 1) := by decide +kernel
theorem dX2_hasValueLeft_11 : decode cX2_hasValueLeft 11 = .ok (.getfield 24, 3) := by decide +kernel
theorem dX2_hasValueLeft_14 : decode cX2_hasValueLeft 14 = .ok (.iload_n 1, 1) := by decide +kernel
theorem dX2_hasValueLeft_15 : decode cX2_hasValueLeft 15 = .ok (.iaload, 1) := by decide +kernel
theorem dX2_hasValueLeft_16 : decode cX2_hasValueLeft 16 = .ok (.ifCond .eq 5, 3) := by decide +kernel
theorem dX2_hasValueLeft_19 : decode cX2_hasValueLeft 19 = .ok (.iconst 1, 1) := by decide +kernel
theorem dX2_hasValueLeft_20 : decode cX2_hasValueLeft 20 = .ok (.ireturn, 1) := by decide +kernel
theorem dX2_hasValueLeft_21 : decode cX2_hasValueLeft 21 = .ok (.iinc 1 1, 3) := by decide +kernel
theorem dX2_hasValueLeft_24 : decode cX2_hasValueLeft 24 = .ok (.goto (-22), 3) := by decide +kernel
theorem dX2_hasValueLeft_27 : decode cX2_hasValueLeft 27 = .ok (.iconst 0, 1) := by decide +kernel
theorem dX2_hasValueLeft_28 : decode cX2_hasValueLeft 28 = .ok (.ireturn, 1) := by decide +kernel
theorem dX2_keepLine_0 : decode cX2_keepLine 0 = .ok (.aload_n 0, 1) := by decide +kernel
theorem dX2_keepLine_1 : decode cX2_keepLine 1 = .ok (.getfield 9, 3) := by decide +kernel
theorem dX2_keepLine_4 : decode cX2_keepLine 4 = .ok (.aload_n 0, 1) := by decide +kernel
theorem dX2_keepLine_5 : decode cX2_keepLine 5 = .ok (.getfield 24, 3) := by decide +kernel
theorem dX2_keepLine_8 : decode cX2_keepLine 8 = .ok (.aload_n 0, 1) := by decide +kernel
theorem dX2_keepLine_9 : decode cX2_keepLine 9 = .ok (.getfield 32, 3) := by decide +kernel
theorem dX2_keepLine_12 : decode cX2_keepLine 12 = .ok (.iload_n 1, 1) := by decide +kernel
theorem dX2_keepLine_13 : decode cX2_keepLine 13 = .ok (.iadd, 1) := by decide +kernel
theorem dX2_keepLine_14 : decode cX2_keepLine 14 = .ok (.iaload, 1) := by decide +kernel
theorem dX2_keepLine_15 : decode cX2_keepLine 15 = .ok (.invokevirtual 91, 3) := by decide +kernel
theorem dX2_keepLine_18 : decode cX2_keepLine 18 = .ok (.istore_n 2, 1) := by decide +kernel
theorem dX2_keepLine_19 : decode cX2_keepLine 19 = .ok (.aload_n 0, 1) := by decide +kernel
theorem dX2_keepLine_20 : decode cX2_keepLine 20 = .ok (.getfield 17, 3) := by decide +kernel
theorem dX2_keepLine_23 : decode cX2_keepLine 23 = .ok (.iload_n 1, 1) := by decide +kernel
theorem dX2_keepLine_24 : decode cX2_keepLine 24 = .ok (.aaload, 1) := by decide +kernel
theorem dX2_keepLine_25 : decode cX2_keepLine 25 = .ok (.astore_n 3, 1) := by decide +kernel
theorem dX2_keepLine_26 : decode cX2_keepLine 26 = .ok (.iconst 0, 1) := by decide +kernel
theorem dX2_keepLine_27 : decode cX2_keepLine 27 = .ok (.istore 4, 2) := by decide +kernel
theorem dX2_keepLine_29 : decode cX2_keepLine 29 = .ok (.iload 4, 2) := by decide +kernel
theorem dX2_keepLine_31 : decode cX2_keepLine 31 = .ok (.aload_n 0, 1) := by decide +kernel
theorem dX2_keepLine_32 : decode cX2_keepLine 32 = .ok (.getfield 32, 3) := by decide +kernel
theorem dX2_keepLine_35 : decode cX2_keepLine 35 = .ok (.aload_n 0, 1) := by decide +kernel
theorem dX2_keepLine_36 : decode cX2_keepLine 36 = .ok (.getfield 28, 3) := by decide +kernel
theorem dX2_keepLine_39 : decode cX2_keepLine 39 = .ok (.iadd, 1) := by decide +kernel
theorem dX2_keepLine_40 : decode cX2_keepLine 40 = .ok (.if_icmp .ge 28, 3) := by decide +kernel
theorem dX2_keepLine_43 : decode cX2_keepLine 43 = .ok (.aload_n 3, 1) := by decide +kernel
theorem dX2_keepLine_44 : decode cX2_keepLine 44 = .ok (.iload 4, 2) := by decide +kernel
theorem dX2_keepLine_46 : decode cX2_keepLine 46 = .ok (.aload_n 0, 1) := by decide +kernel
theorem dX2_keepLine_47 : decode cX2_keepLine 47 = .ok (.getfield 9, 3) := by decide +kernel
theorem dX2_keepLine_50 : decode cX2_keepLine 50 = .ok (.iload_n 2, 1) := by decide +kernel
theorem dX2_keepLine_51 : decode cX2_keepLine 51 = .ok (.aload_n 0, 1) := by decide +kernel
theorem dX2_keepLine_52 : decode cX2_keepLine 52 = .ok (.getfield 24, 3) := by decide +kernel
theorem dX2_keepLine_55 : decode cX2_keepLine 55 = .ok (.iload 4, 2) := by decide +kernel
theorem dX2_keepLine_57 : decode cX2_keepLine 57 = .ok (.iaload, 1) := by decide +kernel
theorem dX2_keepLine_58 : decode cX2_keepLine 58 = .ok (.invokevirtual 94, 3) := by decide +kernel
theorem dX2_keepLine_61 : decode cX2_keepLine 61 = .ok (.iastore, 1) := by decide +kernel
theorem dX2_keepLine_62 : decode cX2_keepLine 62 = .ok (.iinc 4 1, 3) := by decide +kernel
theorem dX2_keepLine_65 : decode cX2_keepLine 65 = .ok (.goto (-36), 3) := by decide +kernel
theorem dX2_keepLine_68 : decode cX2_keepLine 68 = .ok (.iload_n 1, 1) := by decide +kernel
theorem dX2_keepLine_69 : decode cX2_keepLine 69 = .ok (.iconst 1, 1) := by decide +kernel
theorem dX2_keepLine_70 : decode cX2_keepLine 70 = .ok (.iadd, 1) := by decide +kernel
theorem dX2_keepLine_71 : decode cX2_keepLine 71 = .ok (.istore 4, 2) := by decide +kernel
theorem dX2_keepLine_73 : decode cX2_keepLine 73 = .ok (.iload 4, 2) := by decide +kernel
theorem dX2_keepLine_75 : decode cX2_keepLine 75 = .ok (.aload_n 0, 1) := by decide +kernel
theorem dX2_keepLine_76 : decode cX2_keepLine 76 = .ok (.getfield 28, 3) := by decide +kernel
theorem dX2_keepLine_79 : decode cX2_keepLine 79 = .ok (.if_icmp .ge 65, 3) := by decide +kernel
theorem dX2_keepLine_82 : decode cX2_keepLine 82 = .ok (.aload_n 0, 1) := by decide +kernel
theorem dX2_keepLine_83 : decode cX2_keepLine 83 = .ok (.getfield 17, 3) := by decide +kernel
theorem dX2_keepLine_86 : decode cX2_keepLine 86 = .ok (.iload 4, 2) := by decide +kernel
theorem dX2_keepLine_88 : decode cX2_keepLine 88 = .ok (.aaload, 1) := by decide +kernel
theorem dX2_keepLine_89 : decode cX2_keepLine 89 = .ok (.aload_n 0, 1) := by decide +kernel
theorem dX2_keepLine_90 : decode cX2_keepLine 90 = .ok (.getfield 32, 3) := by decide +kernel
theorem dX2_keepLine_93 : decode cX2_keepLine 93 = .ok (.iload_n 1, 1) := by decide +kernel
theorem dX2_keepLine_94 : decode cX2_keepLine 94 = .ok (.iadd, 1) := by decide +kernel
theorem dX2_keepLine_95 : decode cX2_keepLine 95 = .ok (.iaload, 1) := by decide +kernel
theorem dX2_keepLine_96 : decode cX2_keepLine 96 = .ok (.istore 5, 2) := by decide +kernel
theorem dX2_keepLine_98 : decode cX2_keepLine 98 = .ok (.iload 5, 2) := by decide +kernel
theorem dX2_keepLine_100 : decode cX2_keepLine 100 = .ok (.ifCond .eq 38, 3) := by decide +kernel
theorem dX2_keepLine_103 : decode cX2_keepLine 103 = .ok (.aload_n 0, 1) := by decide +kernel
theorem dX2_keepLine_104 : decode cX2_keepLine 104 = .ok (.getfield 20, 3) := by decide +kernel
theorem dX2_keepLine_107 : decode cX2_keepLine 107 = .ok (.iload 4, 2) := by decide +kernel
theorem dX2_keepLine_109 : decode cX2_keepLine 109 = .ok (.baload, 1) := by decide +kernel
theorem dX2_keepLine_110 : decode cX2_keepLine 110 = .ok (.ifCond .eq 28, 3) := by decide +kernel
theorem dX2_keepLine_113 : decode cX2_keepLine 113 = .ok (.aload_n 0, 1) := by decide +kernel
theorem dX2_keepLine_114 : decode cX2_keepLine 114 = .ok (.getfield 9, 3) := by decide +kernel
theorem dX2_keepLine_117 : decode cX2_keepLine 117 = .ok (.aload_n 0, 1) := by decide +kernel
theorem dX2_keepLine_118 : decode cX2_keepLine 118 = .ok (.getfield 17, 3) := by decide +kernel
theorem dX2_keepLine_121 : decode cX2_keepLine 121 = .ok (.iload 4, 2) := by decide +kernel
theorem dX2_keepLine_123 : decode cX2_keepLine 123 = .ok (.aaload, 1) := by decide +kernel
theorem dX2_keepLine_124 : decode cX2_keepLine 124 = .ok (.aload_n 3, 1) := by decide +kernel
theorem dX2_keepLine_125 : decode cX2_keepLine 125 = .ok (.iload 5, 2) := by decide +kernel
theorem dX2_keepLine_127 : decode cX2_keepLine 127 = .ok (.aload_n 0, 1) := by decide +kernel
theorem dX2_keepLine_128 : decode cX2_keepLine 128 = .ok (.getfield 32, 3) := by decide +kernel
theorem dX2_keepLine_131 : decode cX2_keepLine 131 = .ok (.iload_n 1, 1) := by decide +kernel
theorem dX2_keepLine_132 : decode cX2_keepLine 132 = .ok (.iadd, 1) := by decide +kernel
theorem dX2_keepLine_133 : decode cX2_keepLine 133 = .ok (.iconst 1, 1) := by decide +kernel
theorem dX2_keepLine_134 : decode cX2_keepLine 134 = .ok (.iadd, 1) := by decide +kernel
theorem dX2_keepLine_135 : decode cX2_keepLine 135 = .ok (.invokevirtual 87, 3) := by decide +kernel
theorem dX2_keepLine_138 : decode cX2_keepLine 138 = .ok (.iinc 4 1, 3) := by decide +kernel
theorem dX2_keepLine_141 : decode cX2_keepLine 141 = .ok (.goto (-68), 3) := by decide +kernel
theorem dX2_keepLine_144 : decode cX2_keepLine 144 = .ok (.aload_n 0, 1) := by decide +kernel
theorem dX2_keepLine_145 : decode cX2_keepLine 145 = .ok (.getfield 20, 3) := by decide +kernel
theorem dX2_keepLine_148 : decode cX2_keepLine 148 = .ok (.iload_n 1, 1) := by decide +kernel
theorem dX2_keepLine_149 : decode cX2_keepLine 149 = .ok (.iconst 1, 1) := by decide +kernel
theorem dX2_keepLine_150 : decode cX2_keepLine 150 = .ok (.bastore, 1) := by decide +kernel
theorem dX2_keepLine_151 : decode cX2_keepLine 151 = .ok (.aload_n 0, 1) := by decide +kernel
theorem dX2_keepLine_152 : decode cX2_keepLine 152 = .ok (.dup, 1) := by decide +kernel
theorem dX2_keepLine_153 : decode cX2_keepLine 153 = .ok (.getfield 35, 3) := by decide +kernel
theorem dX2_keepLine_156 : decode cX2_keepLine 156 = .ok (.iconst 1, 1) := by decide +kernel
theorem dX2_keepLine_157 : decode cX2_keepLine 157 = .ok (.iadd, 1) := by decide +kernel
theorem dX2_keepLine_158 : decode cX2_keepLine 158 = .ok (.putfield 35, 3) := by decide +kernel
theorem dX2_keepLine_161 : decode cX2_keepLine 161 = .ok (.return_, 1) := by decide +kernel
theorem dX3_init_0 : decode cX3_init 0 = .ok (.aload_n 0, 1) := by decide +kernel
theorem dX3_init_1 : decode cX3_init 1 = .ok (.invokespecial 1, 3) := by decide +kernel
theorem dX3_init_4 : decode cX3_init 4 = .ok (.aload_n 0, 1) := by decide +kernel
theorem dX3_init_5 : decode cX3_init 5 = .ok (.sipush 510, 3) := by decide +kernel
theorem dX3_init_8 : decode cX3_init 8 = .ok (.newarray .int, 2) := by decide +kernel
theorem dX3_init_10 : decode cX3_init 10 = .ok (.putfield 9, 3) := by decide +kernel
theorem dX3_init_13 : decode cX3_init 13 = .ok (.aload_n 0, 1) := by decide +kernel
theorem dX3_init_14 : decode cX3_init 14 = .ok (.sipush 256, 3) := by decide +kernel
theorem dX3_init_17 : decode cX3_init 17 = .ok (.newarray .int, 2) := by decide +kernel
theorem dX3_init_19 : decode cX3_init 19 = .ok (.putfield 13, 3) := by decide +kernel
theorem dX3_init_22 : decode cX3_init 22 = .ok (.iconst 1, 1) := by decide +kernel
theorem dX3_init_23 : decode cX3_init 23 = .ok (.istore_n 1, 1) := by decide +kernel
theorem dX3_init_24 : decode cX3_init 24 = .ok (.iconst 0, 1) := by decide +kernel
theorem dX3_init_25 : decode cX3_init 25 = .ok (.istore_n 2, 1) := by decide +kernel
theorem dX3_init_26 : decode cX3_init 26 = .ok (.iload_n 2, 1) := by decide +kernel
theorem dX3_init_27 : decode cX3_init 27 = .ok (.sipush 255, 3) := by decide +kernel
theorem dX3_init_30 : decode cX3_init 30 = .ok (.if_icmp .ge 51, 3) := by decide +kernel
theorem dX3_init_33 : decode cX3_init 33 = .ok (.aload_n 0, 1) := by decide +kernel
theorem dX3_init_34 : decode cX3_init 34 = .ok (.getfield 9, 3) := by decide +kernel
theorem dX3_init_37 : decode cX3_init 37 = .ok (.iload_n 2, 1) := by decide +kernel
theorem dX3_init_38 : decode cX3_init 38 = .ok (.iload_n 1, 1) := by decide +kernel
theorem dX3_init_39 : decode cX3_init 39 = .ok (.iastore, 1) := by decide +kernel
theorem dX3_init_40 : decode cX3_init 40 = .ok (.aload_n 0, 1) := by decide +kernel
theorem dX3_init_41 : decode cX3_init 41 = .ok (.getfield 9, 3) := by decide +kernel
theorem dX3_init_44 : decode cX3_init 44 = .ok (.iload_n 2, 1) := by decide +kernel
theorem dX3_init_45 : decode cX3_init 45 = .ok (.sipush 255, 3) := by decide +kernel
theorem dX3_init_48 : decode cX3_init 48 = .ok (.iadd, 1) := by decide +kernel
theorem dX3_init_49 : decode cX3_init 49 = .ok (.iload_n 1, 1) := by decide +kernel
theorem dX3_init_50 : decode cX3_init 50 = .ok (.iastore, 1) := by decide +kernel
theorem dX3_init_51 : decode cX3_init 51 = .ok (.aload_n 0, 1) := by decide +kernel
theorem dX3_init_52 : decode cX3_init 52 = .ok (.getfield 13, 3) := by decide +kernel
theorem dX3_init_55 : decode cX3_init 55 = .ok (.iload_n 1, 1) := by decide +kernel
theorem dX3_init_56 : decode cX3_init 56 = .ok (.iload_n 2, 1) := by decide +kernel
theorem dX3_init_57 : decode cX3_init 57 = .ok (.iastore, 1) := by decide +kernel
theorem dX3_init_58 : decode cX3_init 58 = .ok (.iload_n 1, 1) := by decide +kernel
theorem dX3_init_59 : decode cX3_init 59 = .ok (.iconst 1, 1) := by decide +kernel
theorem dX3_init_60 : decode cX3_init 60 = .ok (.ishl, 1) := by decide +kernel
theorem dX3_init_61 : decode cX3_init 61 = .ok (.istore_n 1, 1) := by decide +kernel
theorem dX3_init_62 : decode cX3_init 62 = .ok (.iload_n 1, 1) := by decide +kernel
theorem dX3_init_63 : decode cX3_init 63 = .ok (.sipush 255, 3) := by decide +kernel
theorem dX3_init_66 : decode cX3_init 66 = .ok (.if_icmp .le 9, 3) := by decide +kernel
theorem dX3_init_69 : decode cX3_init 69 = .ok (.iload_n 1, 1) := by decide +kernel
theorem dX3_init_70 : decode cX3_init 70 = .ok (.sipush 285, 3) := by decide +kernel
theorem dX3_init_73 : decode cX3_init 73 = .ok (.ixor, 1) := by decide +kernel
theorem dX3_init_74 : decode cX3_init 74 = .ok (.istore_n 1, 1) := by decide +kernel
theorem dX3_init_75 : decode cX3_init 75 = .ok (.iinc 2 1, 3) := by decide +kernel
theorem dX3_init_78 : decode cX3_init 78 = .ok (.goto (-52), 3) := by decide +kernel
theorem dX3_init_81 : decode cX3_init 81 = .ok (.return_, 1) := by decide +kernel
theorem dX3_times_0 : decode cX3_times 0 = .ok (.iload_n 1, 1) := by decide +kernel
theorem dX3_times_1 : decode cX3_times 1 = .ok (.ifCond .eq 7, 3) := by decide +kernel
theorem dX3_times_4 : decode cX3_times 4 = .ok (.iload_n 2, 1) := by decide +kernel
theorem dX3_times_5 : decode cX3_times 5 = .ok (.ifCond .ne 7, 3) := by decide +kernel
theorem dX3_times_8 : decode cX3_times 8 = .ok (.iconst 0, 1) := by decide +kernel
theorem dX3_times_9 : decode cX3_times 9 = .ok (.goto 21, 3) := by decide +kernel
theorem dX3_times_12 : decode cX3_times 12 = .ok (.aload_n 0, 1) := by decide +kernel
theorem dX3_times_13 : decode cX3_times 13 = .ok (.getfield 9, 3) := by decide +kernel
theorem dX3_times_16 : decode cX3_times 16 = .ok (.aload_n 0, 1) := by decide +kernel
theorem dX3_times_17 : decode cX3_times 17 = .ok (.getfield 13, 3) := by decide +kernel
theorem dX3_times_20 : decode cX3_times 20 = .ok (.iload_n 1, 1) := by decide +kernel
theorem dX3_times_21 : decode cX3_times 21 = .ok (.iaload, 1) := by decide +kernel
theorem dX3_times_22 : decode cX3_times 22 = .ok (.aload_n 0, 1) := by decide +kernel
theorem dX3_times_23 : decode cX3_times 23 = .ok (.getfield 13, 3) := by decide +kernel
theorem dX3_times_26 : decode cX3_times 26 = .ok (.iload_n 2, 1) := by decide +kernel
theorem dX3_times_27 : decode cX3_times 27 = .ok (.iaload, 1) := by decide +kernel
theorem dX3_times_28 : decode cX3_times 28 = .ok (.iadd, 1) := by decide +kernel
theorem dX3_times_29 : decode cX3_times 29 = .ok (.iaload, 1) := by decide +kernel
theorem dX3_times_30 : decode cX3_times 30 = .ok (.ireturn, 1) := by decide +kernel
theorem dX3_inverse_0 : decode cX3_inverse 0 = .ok (.aload_n 0, 1) := by decide +kernel
theorem dX3_inverse_1 : decode cX3_inverse 1 = .ok (.getfield 9, 3) := by decide +kernel
theorem dX3_inverse_4 : decode cX3_inverse 4 = .ok (.sipush 255, 3) := by decide +kernel
theorem dX3_inverse_7 : decode cX3_inverse 7 = .ok (.aload_n 0, 1) := by decide +kernel
theorem dX3_inverse_8 : decode cX3_inverse 8 = .ok (.getfield 13, 3) := by decide +kernel
theorem dX3_inverse_11 : decode cX3_inverse 11 = .ok (.iload_n 1, 1) := by decide +kernel
theorem dX3_inverse_12 : decode cX3_inverse 12 = .ok (.iaload, 1) := by decide +kernel
theorem dX3_inverse_13 : decode cX3_inverse 13 = .ok (.isub, 1) := by decide +kernel
theorem dX3_inverse_14 : decode cX3_inverse 14 = .ok (.iaload, 1) := by decide +kernel
theorem dX3_inverse_15 : decode cX3_inverse 15 = .ok (.ireturn, 1) := by decide +kernel
theorem dX3_powerOfTwo_0 : decode cX3_powerOfTwo 0 = .ok (.aload_n 0, 1) := by decide +kernel
theorem dX3_powerOfTwo_1 : decode cX3_powerOfTwo 1 = .ok (.getfield 9, 3) := by decide +kernel
theorem dX3_powerOfTwo_4 : decode cX3_powerOfTwo 4 = .ok (.iload_n 1, 1) := by decide +kernel
theorem dX3_powerOfTwo_5 : decode cX3_powerOfTwo 5 = .ok (.sipush 255, 3) := by decide +kernel
theorem dX3_powerOfTwo_8 : decode cX3_powerOfTwo 8 = .ok (.irem, 1) := by decide +kernel
theorem dX3_powerOfTwo_9 : decode cX3_powerOfTwo 9 = .ok (.iaload, 1) := by decide +kernel
theorem dX3_powerOfTwo_10 : decode cX3_powerOfTwo 10 = .ok (.ireturn, 1) := by decide +kernel
theorem dX3_addTimes_0 : decode cX3_addTimes 0 = .ok (.aload_n 0, 1) := by decide +kernel
theorem dX3_addTimes_1 : decode cX3_addTimes 1 = .ok (.getfield 13, 3) := by decide +kernel
theorem dX3_addTimes_4 : decode cX3_addTimes 4 = .ok (.iload_n 3, 1) := by decide +kernel
theorem dX3_addTimes_5 : decode cX3_addTimes 5 = .ok (.iaload, 1) := by decide +kernel
theorem dX3_addTimes_6 : decode cX3_addTimes 6 = .ok (.istore 5, 2) := by decide +kernel
theorem dX3_addTimes_8 : decode cX3_addTimes 8 = .ok (.iconst 0, 1) := by decide +kernel
theorem dX3_addTimes_9 : decode cX3_addTimes 9 = .ok (.istore 6, 2) := by decide +kernel
theorem dX3_addTimes_11 : decode cX3_addTimes 11 = .ok (.iload 6, 2) := by decide +kernel
theorem dX3_addTimes_13 : decode cX3_addTimes 13 = .ok (.iload 4, 2) := by decide +kernel
theorem dX3_addTimes_15 : decode cX3_addTimes 15 = .ok (.if_icmp .ge 42, 3) := by decide +kernel
theorem dX3_addTimes_18 : decode cX3_addTimes 18 = .ok (.aload_n 2, 1) := by decide +kernel
theorem dX3_addTimes_19 : decode cX3_addTimes 19 = .ok (.iload 6, 2) := by decide +kernel
theorem dX3_addTimes_21 : decode cX3_addTimes 21 = .ok (.iaload, 1) := by decide +kernel
theorem dX3_addTimes_22 : decode cX3_addTimes 22 = .ok (.istore 7, 2) := by decide +kernel
theorem dX3_addTimes_24 : decode cX3_addTimes 24 = .ok (.iload 7, 2) := by decide +kernel
theorem dX3_addTimes_26 : decode cX3_addTimes 26 = .ok (.ifCond .eq 25, 3) := by decide +kernel
theorem dX3_addTimes_29 : decode cX3_addTimes 29 = .ok (.aload_n 1, 1) := by decide +kernel
theorem dX3_addTimes_30 : decode cX3_addTimes 30 = .ok (.iload 6, 2) := by decide +kernel
theorem dX3_addTimes_32 : decode cX3_addTimes 32 = .ok (.dup2, 1) := by decide +kernel
theorem dX3_addTimes_33 : decode cX3_addTimes 33 = .ok (.iaload, 1) := by decide +kernel
theorem dX3_addTimes_34 : decode cX3_addTimes 34 = .ok (.aload_n 0, 1) := by decide +kernel
theorem dX3_addTimes_35 : decode cX3_addTimes 35 = .ok (.getfield 9, 3) := by decide +kernel
theorem dX3_addTimes_38 : decode cX3_addTimes 38 = .ok (.iload 5, 2) := by decide +kernel
theorem dX3_addTimes_40 : decode cX3_addTimes 40 = .ok (.aload_n 0, 1) := by decide +kernel
theorem dX3_addTimes_41 : decode cX3_addTimes 41 = .ok (.getfield 13, 3) := by decide +kernel
theorem dX3_addTimes_44 : decode cX3_addTimes 44 = .ok (.iload 7, 2) := by decide +kernel
theorem dX3_addTimes_46 : decode cX3_addTimes 46 = .ok (.iaload, 1) := by decide +kernel
theorem dX3_addTimes_47 : decode cX3_addTimes 47 = .ok (.iadd, 1) := by decide +kernel
theorem dX3_addTimes_48 : decode cX3_addTimes 48 = .ok (.iaload, 1) := by decide +kernel
theorem dX3_addTimes_49 : decode cX3_addTimes 49 = .ok (.ixor, 1) := by decide +kernel
theorem dX3_addTimes_50 : decode cX3_addTimes 50 = .ok (.iastore, 1) := by decide +kernel
theorem dX3_addTimes_51 : decode cX3_addTimes 51 = .ok (.iinc 6 1, 3) := by decide +kernel
theorem dX3_addTimes_54 : decode cX3_addTimes 54 = .ok (.goto (-43), 3) := by decide +kernel
theorem dX3_addTimes_57 : decode cX3_addTimes 57 = .ok (.return_, 1) := by decide +kernel
theorem dJ9_floorMod_7cf53_0 : decode cJ9_floorMod_7cf53 0 = .ok (.iload_n 0, 1) := by decide +kernel
theorem dJ9_floorMod_7cf53_1 : decode cJ9_floorMod_7cf53 1 = .ok (.iload_n 1, 1) := by decide +kernel
theorem dJ9_floorMod_7cf53_2 : decode cJ9_floorMod_7cf53 2 = .ok (.irem, 1) := by decide +kernel
theorem dJ9_floorMod_7cf53_3 : decode cJ9_floorMod_7cf53 3 = .ok (.istore_n 2, 1) := by decide +kernel
theorem dJ9_floorMod_7cf53_4 : decode cJ9_floorMod_7cf53 4 = .ok (.iload_n 0, 1) := by decide +kernel
theorem dJ9_floorMod_7cf53_5 : decode cJ9_floorMod_7cf53 5 = .ok (.iload_n 1, 1) := by decide +kernel
theorem dJ9_floorMod_7cf53_6 : decode cJ9_floorMod_7cf53 6 = .ok (.ixor, 1) := by decide +kernel
theorem dJ9_floorMod_7cf53_7 : decode cJ9_floorMod_7cf53 7 = .ok (.ifCond .ge 11, 3) := by decide +kernel
theorem dJ9_floorMod_7cf53_10 : decode cJ9_floorMod_7cf53 10 = .ok (.iload_n 2, 1) := by decide +kernel
theorem dJ9_floorMod_7cf53_11 : decode cJ9_floorMod_7cf53 11 = .ok (.ifCond .eq 7, 3) := by decide +kernel
theorem dJ9_floorMod_7cf53_14 : decode cJ9_floorMod_7cf53 14 = .ok (.iload_n 2, 1) := by decide +kernel
theorem dJ9_floorMod_7cf53_15 : decode cJ9_floorMod_7cf53 15 = .ok (.iload_n 1, 1) := by decide +kernel
theorem dJ9_floorMod_7cf53_16 : decode cJ9_floorMod_7cf53 16 = .ok (.iadd, 1) := by decide +kernel
theorem dJ9_floorMod_7cf53_17 : decode cJ9_floorMod_7cf53 17 = .ok (.ireturn, 1) := by decide +kernel
theorem dJ9_floorMod_7cf53_18 : decode cJ9_floorMod_7cf53 18 = .ok (.iload_n 2, 1) := by decide +kernel
theorem dJ9_floorMod_7cf53_19 : decode cJ9_floorMod_7cf53 19 = .ok (.ireturn, 1) := by decide +kernel
theorem dJ9_max_7cf53_0 : decode cJ9_max_7cf53 0 = .ok (.iload_n 0, 1) := by decide +kernel
theorem dJ9_max_7cf53_1 : decode cJ9_max_7cf53 1 = .ok (.iload_n 1, 1) := by decide +kernel
theorem dJ9_max_7cf53_2 : decode cJ9_max_7cf53 2 = .ok (.if_icmp .lt 7, 3) := by decide +kernel
theorem dJ9_max_7cf53_5 : decode cJ9_max_7cf53 5 = .ok (.iload_n 0, 1) := by decide +kernel
theorem dJ9_max_7cf53_6 : decode cJ9_max_7cf53 6 = .ok (.goto 4, 3) := by decide +kernel
theorem dJ9_max_7cf53_9 : decode cJ9_max_7cf53 9 = .ok (.iload_n 1, 1) := by decide +kernel
theorem dJ9_max_7cf53_10 : decode cJ9_max_7cf53 10 = .ok (.ireturn, 1) := by decide +kernel
theorem dJ9_min_7cf53_0 : decode cJ9_min_7cf53 0 = .ok (.iload_n 0, 1) := by decide +kernel
theorem dJ9_min_7cf53_1 : decode cJ9_min_7cf53 1 = .ok (.iload_n 1, 1) := by decide +kernel
theorem dJ9_min_7cf53_2 : decode cJ9_min_7cf53 2 = .ok (.if_icmp .gt 7, 3) := by decide +kernel
theorem dJ9_min_7cf53_5 : decode cJ9_min_7cf53 5 = .ok (.iload_n 0, 1) := by decide +kernel
theorem dJ9_min_7cf53_6 : decode cJ9_min_7cf53 6 = .ok (.goto 4, 3) := by decide +kernel
theorem dJ9_min_7cf53_9 : decode cJ9_min_7cf53 9 = .ok (.iload_n 1, 1) := by decide +kernel
theorem dJ9_min_7cf53_10 : decode cJ9_min_7cf53 10 = .ok (.ireturn, 1) := by decide +kernel
theorem dJ7_fill_53178_0 : decode cJ7_fill_53178 0 = .ok (.iconst 0, 1) := by decide +kernel
theorem dJ7_fill_53178_1 : decode cJ7_fill_53178 1 = .ok (.istore_n 2, 1) := by decide +kernel
theorem dJ7_fill_53178_2 : decode cJ7_fill_53178 2 = .ok (.aload_n 0, 1) := by decide +kernel
theorem dJ7_fill_53178_3 : decode cJ7_fill_53178 3 = .ok (.arraylength, 1) := by decide +kernel
theorem dJ7_fill_53178_4 : decode cJ7_fill_53178 4 = .ok (.istore_n 3, 1) := by decide +kernel
theorem dJ7_fill_53178_5 : decode cJ7_fill_53178 5 = .ok (.iload_n 2, 1) := by decide +kernel
theorem dJ7_fill_53178_6 : decode cJ7_fill_53178 6 = .ok (.iload_n 3, 1) := by decide +kernel
theorem dJ7_fill_53178_7 : decode cJ7_fill_53178 7 = .ok (.if_icmp .ge 13, 3) := by decide +kernel
theorem dJ7_fill_53178_10 : decode cJ7_fill_53178 10 = .ok (.aload_n 0, 1) := by decide +kernel
theorem dJ7_fill_53178_11 : decode cJ7_fill_53178 11 = .ok (.iload_n 2, 1) := by decide +kernel
theorem dJ7_fill_53178_12 : decode cJ7_fill_53178 12 = .ok (.iload_n 1, 1) := by decide +kernel
theorem dJ7_fill_53178_13 : decode cJ7_fill_53178 13 = .ok (.iastore, 1) := by decide +kernel
theorem dJ7_fill_53178_14 : decode cJ7_fill_53178 14 = .ok (.iinc 2 1, 3) := by decide +kernel
theorem dJ7_fill_53178_17 : decode cJ7_fill_53178 17 = .ok (.goto (-12), 3) := by decide +kernel
theorem dJ7_fill_53178_20 : decode cJ7_fill_53178 20 = .ok (.return_, 1) := by decide +kernel
end
section
theorem dX4_init_0 : decode cX4_init 0 = .ok (.aload_n 0, 1) := by decide +kernel
theorem dX4_init_1 : decode cX4_init 1 = .ok (.invokespecial 3, 3) := by decide +kernel
theorem dX4_init_4 : decode cX4_init 4 = .ok (.aload_n 0, 1) := by decide +kernel
theorem dX4_init_5 : decode cX4_init 5 = .ok (.bipush 59, 2) := by decide +kernel
theorem dX4_init_7 : decode cX4_init 7 = .ok (.newarray .int, 2) := by decide +kernel
theorem dX4_init_9 : decode cX4_init 9 = .ok (.putfield 9, 3) := by decide +kernel
theorem dX4_init_12 : decode cX4_init 12 = .ok (.aload_n 0, 1) := by decide +kernel
theorem dX4_init_13 : decode cX4_init 13 = .ok (.iconst 0, 1) := by decide +kernel
theorem dX4_init_14 : decode cX4_init 14 = .ok (.putfield 15, 3) := by decide +kernel
theorem dX4_init_17 : decode cX4_init 17 = .ok (.return_, 1) := by decide +kernel
theorem dX4_find_0 : decode cX4_find 0 = .ok (.iload_n 1, 1) := by decide +kernel
theorem dX4_find_1 : decode cX4_find 1 = .ok (.bipush 11, 2) := by decide +kernel
theorem dX4_find_3 : decode cX4_find 3 = .ok (.iadd, 1) := by decide +kernel
theorem dX4_find_4 : decode cX4_find 4 = .ok (.istore 4, 2) := by decide +kernel
theorem dX4_find_6 : decode cX4_find 6 = .ok (.iload_n 2, 1) := by decide +kernel
theorem dX4_find_7 : decode cX4_find 7 = .ok (.i2l, 1) := by decide +kernel
theorem dX4_find_8 : decode cX4_find 8 = .ok (.ldc2_w 19, 3) := by decide +kernel
theorem dX4_find_11 : decode cX4_find 11 = .ok (.iload_n 3, 1) := by decide +kernel
theorem dX4_find_12 : decode cX4_find 12 = .ok (.i2l, 1) := by decide +kernel
theorem dX4_find_13 : decode cX4_find 13 = .ok (.lmul, 1) := by decide +kernel
theorem dX4_find_14 : decode cX4_find 14 = .ok (.ladd, 1) := by decide +kernel
theorem dX4_find_15 : decode cX4_find 15 = .ok (.lstore 5, 2) := by decide +kernel
theorem dX4_find_17 : decode cX4_find 17 = .ok (.lload 5, 2) := by decide +kernel
theorem dX4_find_19 : decode cX4_find 19 = .ok (.iconst 0, 1) := by decide +kernel
theorem dX4_find_20 : decode cX4_find 20 = .ok (.sipush 1000, 3) := by decide +kernel
theorem dX4_find_23 : decode cX4_find 23 = .ok (.invokestatic 21, 3) := by decide +kernel
theorem dX4_find_26 : decode cX4_find 26 = .ok (.invokestatic 25, 3) := by decide +kernel
theorem dX4_find_29 : decode cX4_find 29 = .ok (.iload 4, 2) := by decide +kernel
theorem dX4_find_31 : decode cX4_find 31 = .ok (.invokestatic 29, 3) := by decide +kernel
theorem dX4_find_34 : decode cX4_find 34 = .ok (.istore 7, 2) := by decide +kernel
theorem dX4_find_36 : decode cX4_find 36 = .ok (.iload 4, 2) := by decide +kernel
theorem dX4_find_38 : decode cX4_find 38 = .ok (.invokestatic 35, 3) := by decide +kernel
theorem dX4_find_41 : decode cX4_find 41 = .ok (.istore 8, 2) := by decide +kernel
theorem dX4_find_43 : decode cX4_find 43 = .ok (.lload 5, 2) := by decide +kernel
theorem dX4_find_45 : decode cX4_find 45 = .ok (.iconst 2, 1) := by decide +kernel
theorem dX4_find_46 : decode cX4_find 46 = .ok (.iload 8, 2) := by decide +kernel
theorem dX4_find_48 : decode cX4_find 48 = .ok (.invokestatic 21, 3) := by decide +kernel
theorem dX4_find_51 : decode cX4_find 51 = .ok (.istore 9, 2) := by decide +kernel
theorem dX4_find_53 : decode cX4_find 53 = .ok (.iconst 1, 1) := by decide +kernel
theorem dX4_find_54 : decode cX4_find 54 = .ok (.lload 5, 2) := by decide +kernel
theorem dX4_find_56 : decode cX4_find 56 = .ok (.iconst 1, 1) := by decide +kernel
theorem dX4_find_57 : decode cX4_find 57 = .ok (.iload 8, 2) := by decide +kernel
theorem dX4_find_59 : decode cX4_find 59 = .ok (.iconst 1, 1) := by decide +kernel
theorem dX4_find_60 : decode cX4_find 60 = .ok (.isub, 1) := by decide +kernel
theorem dX4_find_61 : decode cX4_find 61 = .ok (.invokestatic 21, 3) := by decide +kernel
theorem dX4_find_64 : decode cX4_find 64 = .ok (.iadd, 1) := by decide +kernel
theorem dX4_find_65 : decode cX4_find 65 = .ok (.istore 10, 2) := by decide +kernel
theorem dX4_find_67 : decode cX4_find 67 = .ok (.aload_n 0, 1) := by decide +kernel
theorem dX4_find_68 : decode cX4_find 68 = .ok (.iconst 0, 1) := by decide +kernel
theorem dX4_find_69 : decode cX4_find 69 = .ok (.putfield 15, 3) := by decide +kernel
theorem dX4_find_72 : decode cX4_find 72 = .ok (.iconst 0, 1) := by decide +kernel
theorem dX4_find_73 : decode cX4_find 73 = .ok (.istore 11, 2) := by decide +kernel
theorem dX4_find_75 : decode cX4_find 75 = .ok (.iload 11, 2) := by decide +kernel
theorem dX4_find_77 : decode cX4_find 77 = .ok (.iload 8, 2) := by decide +kernel
theorem dX4_find_79 : decode cX4_find 79 = .ok (.if_icmp .ge 56, 3) := by decide +kernel
theorem dX4_find_82 : decode cX4_find 82 = .ok (.aload_n 0, 1) := by decide +kernel
theorem dX4_find_83 : decode cX4_find 83 = .ok (.getfield 15, 3) := by decide +kernel
theorem dX4_find_86 : decode cX4_find 86 = .ok (.iload 7, 2) := by decide +kernel
theorem dX4_find_88 : decode cX4_find 88 = .ok (.if_icmp .ge 47, 3) := by decide +kernel
theorem dX4_find_91 : decode cX4_find 91 = .ok (.iload 9, 2) := by decide +kernel
theorem dX4_find_93 : decode cX4_find 93 = .ok (.iload 4, 2) := by decide +kernel
theorem dX4_find_95 : decode cX4_find 95 = .ok (.if_icmp .ge 24, 3) := by decide +kernel
theorem dX4_find_98 : decode cX4_find 98 = .ok (.aload_n 0, 1) := by decide +kernel
theorem dX4_find_99 : decode cX4_find 99 = .ok (.getfield 9, 3) := by decide +kernel
theorem dX4_find_102 : decode cX4_find 102 = .ok (.aload_n 0, 1) := by decide +kernel
theorem dX4_find_103 : decode cX4_find 103 = .ok (.getfield 15, 3) := by decide +kernel
theorem dX4_find_106 : decode cX4_find 106 = .ok (.iload 9, 2) := by decide +kernel
theorem dX4_find_108 : decode cX4_find 108 = .ok (.iastore, 1) := by decide +kernel
theorem dX4_find_109 : decode cX4_find 109 = .ok (.aload_n 0, 1) := by decide +kernel
theorem dX4_find_110 : decode cX4_find 110 = .ok (.dup, 1) := by decide +kernel
theorem dX4_find_111 : decode cX4_find 111 = .ok (.getfield 15, 3) := by decide +kernel
theorem dX4_find_114 : decode cX4_find 114 = .ok (.iconst 1, 1) := by decide +kernel
theorem dX4_find_115 : decode cX4_find 115 = .ok (.iadd, 1) := by decide +kernel
theorem dX4_find_116 : decode cX4_find 116 = .ok (.putfield 15, 3) := by decide +kernel
theorem dX4_find_119 : decode cX4_find 119 = .ok (.iload 9, 2) := by decide +kernel
theorem dX4_find_121 : decode cX4_find 121 = .ok (.iload 10, 2) := by decide +kernel
theorem dX4_find_123 : decode cX4_find 123 = .ok (.iadd, 1) := by decide +kernel
theorem dX4_find_124 : decode cX4_find 124 = .ok (.iload 8, 2) := by decide +kernel
theorem dX4_find_126 : decode cX4_find 126 = .ok (.irem, 1) := by decide +kernel
theorem dX4_find_127 : decode cX4_find 127 = .ok (.istore 9, 2) := by decide +kernel
theorem dX4_find_129 : decode cX4_find 129 = .ok (.iinc 11 1, 3) := by decide +kernel
theorem dX4_find_132 : decode cX4_find 132 = .ok (.goto (-57), 3) := by decide +kernel
theorem dX4_find_135 : decode cX4_find 135 = .ok (.return_, 1) := by decide +kernel
theorem dX4_greatest_0 : decode cX4_greatest 0 = .ok (.iconst (-1), 1) := by decide +kernel
theorem dX4_greatest_1 : decode cX4_greatest 1 = .ok (.istore_n 1, 1) := by decide +kernel
theorem dX4_greatest_2 : decode cX4_greatest 2 = .ok (.iconst 0, 1) := by decide +kernel
theorem dX4_greatest_3 : decode cX4_greatest 3 = .ok (.istore_n 2, 1) := by decide +kernel
theorem dX4_greatest_4 : decode cX4_greatest 4 = .ok (.iload_n 2, 1) := by decide +kernel
theorem dX4_greatest_5 : decode cX4_greatest 5 = .ok (.aload_n 0, 1) := by decide +kernel
theorem dX4_greatest_6 : decode cX4_greatest 6 = .ok (.getfield 15, 3) := by decide +kernel
theorem dX4_greatest_9 : decode cX4_greatest 9 = .ok (.if_icmp .ge 20, 3) := by decide +kernel
theorem dX4_greatest_12 : decode cX4_greatest 12 = .ok (.iload_n 1, 1) := by decide +kernel
theorem dX4_greatest_13 : decode cX4_greatest 13 = .ok (.aload_n 0, 1) := by decide +kernel
theorem dX4_greatest_14 : decode cX4_greatest 14 = .ok (.getfield 9, 3) := by decide +kernel
theorem dX4_greatest_17 : decode cX4_greatest 17 = .ok (.iload_n 2, 1) := by decide +kernel
theorem dX4_greatest_18 : decode cX4_greatest 18 = .ok (.iaload, 1) := by decide +kernel
theorem dX4_greatest_19 : decode cX4_greatest 19 = .ok (.invokestatic 38, 3) := by decide +kernel
theorem dX4_greatest_22 : decode cX4_greatest 22 = .ok (.istore_n 1, 1) := by decide +kernel
theorem dX4_greatest_23 : decode cX4_greatest 23 = .ok (.iinc 2 1, 3) := by decide +kernel
theorem dX4_greatest_26 : decode cX4_greatest 26 = .ok (.goto (-22), 3) := by decide +kernel
theorem dX4_greatest_29 : decode cX4_greatest 29 = .ok (.iload_n 1, 1) := by decide +kernel
theorem dX4_greatest_30 : decode cX4_greatest 30 = .ok (.ireturn, 1) := by decide +kernel
theorem dX4_sizeFor_0 : decode cX4_sizeFor 0 = .ok (.iconst 0, 1) := by decide +kernel
theorem dX4_sizeFor_1 : decode cX4_sizeFor 1 = .ok (.istore_n 1, 1) := by decide +kernel
theorem dX4_sizeFor_2 : decode cX4_sizeFor 2 = .ok (.iload_n 1, 1) := by decide +kernel
theorem dX4_sizeFor_3 : decode cX4_sizeFor 3 = .ok (.getstatic 41, 3) := by decide +kernel
theorem dX4_sizeFor_6 : decode cX4_sizeFor 6 = .ok (.arraylength, 1) := by decide +kernel
theorem dX4_sizeFor_7 : decode cX4_sizeFor 7 = .ok (.if_icmp .ge 24, 3) := by decide +kernel
theorem dX4_sizeFor_10 : decode cX4_sizeFor 10 = .ok (.iload_n 0, 1) := by decide +kernel
theorem dX4_sizeFor_11 : decode cX4_sizeFor 11 = .ok (.getstatic 41, 3) := by decide +kernel
theorem dX4_sizeFor_14 : decode cX4_sizeFor 14 = .ok (.iload_n 1, 1) := by decide +kernel
theorem dX4_sizeFor_15 : decode cX4_sizeFor 15 = .ok (.iaload, 1) := by decide +kernel
theorem dX4_sizeFor_16 : decode cX4_sizeFor 16 = .ok (.if_icmp .ge 9, 3) := by decide +kernel
theorem dX4_sizeFor_19 : decode cX4_sizeFor 19 = .ok (.getstatic 44, 3) := by decide +kernel
theorem dX4_sizeFor_22 : decode cX4_sizeFor 22 = .ok (.iload_n 1, 1) := by decide +kernel
theorem dX4_sizeFor_23 : decode cX4_sizeFor 23 = .ok (.iaload, 1) := by decide +kernel
theorem dX4_sizeFor_24 : decode cX4_sizeFor 24 = .ok (.ireturn, 1) := by decide +kernel
theorem dX4_sizeFor_25 : decode cX4_sizeFor 25 = .ok (.iinc 1 1, 3) := by decide +kernel
theorem dX4_sizeFor_28 : decode cX4_sizeFor 28 = .ok (.goto (-26), 3) := by decide +kernel
theorem dX4_sizeFor_31 : decode cX4_sizeFor 31 = .ok (.getstatic 44, 3) := by decide +kernel
theorem dX4_sizeFor_34 : decode cX4_sizeFor 34 = .ok (.getstatic 44, 3) := by decide +kernel
theorem dX4_sizeFor_37 : decode cX4_sizeFor 37 = .ok (.arraylength, 1) := by decide +kernel
theorem dX4_sizeFor_38 : decode cX4_sizeFor 38 = .ok (.iconst 1, 1) := by decide +kernel
theorem dX4_sizeFor_39 : decode cX4_sizeFor 39 = .ok (.isub, 1) := by decide +kernel
theorem dX4_sizeFor_40 : decode cX4_sizeFor 40 = .ok (.iaload, 1) := by decide +kernel
theorem dX4_sizeFor_41 : decode cX4_sizeFor 41 = .ok (.ireturn, 1) := by decide +kernel
theorem dX4_chance_0 : decode cX4_chance 0 = .ok (.lload_n 0, 1) := by decide +kernel
theorem dX4_chance_1 : decode cX4_chance 1 = .ok (.iload_n 2, 1) := by decide +kernel
theorem dX4_chance_2 : decode cX4_chance 2 = .ok (.invokestatic 47, 3) := by decide +kernel
theorem dX4_chance_5 : decode cX4_chance 5 = .ok (.bipush 32, 2) := by decide +kernel
theorem dX4_chance_7 : decode cX4_chance 7 = .ok (.lushr, 1) := by decide +kernel
theorem dX4_chance_8 : decode cX4_chance 8 = .ok (.iload_n 3, 1) := by decide +kernel
theorem dX4_chance_9 : decode cX4_chance 9 = .ok (.i2l, 1) := by decide +kernel
theorem dX4_chance_10 : decode cX4_chance 10 = .ok (.lrem, 1) := by decide +kernel
theorem dX4_chance_11 : decode cX4_chance 11 = .ok (.l2i, 1) := by decide +kernel
theorem dX4_chance_12 : decode cX4_chance 12 = .ok (.ireturn, 1) := by decide +kernel
theorem dX4_mix_0 : decode cX4_mix 0 = .ok (.lload_n 0, 1) := by decide +kernel
theorem dX4_mix_1 : decode cX4_mix 1 = .ok (.iload_n 2, 1) := by decide +kernel
theorem dX4_mix_2 : decode cX4_mix 2 = .ok (.iconst 1, 1) := by decide +kernel
theorem dX4_mix_3 : decode cX4_mix 3 = .ok (.iadd, 1) := by decide +kernel
theorem dX4_mix_4 : decode cX4_mix 4 = .ok (.i2l, 1) := by decide +kernel
theorem dX4_mix_5 : decode cX4_mix 5 = .ok (.ldc2_w 51, 3) := by decide +kernel
theorem dX4_mix_8 : decode cX4_mix 8 = .ok (.lmul, 1) := by decide +kernel
theorem dX4_mix_9 : decode cX4_mix 9 = .ok (.ladd, 1) := by decide +kernel
theorem dX4_mix_10 : decode cX4_mix 10 = .ok (.lstore_n 3, 1) := by decide +kernel
theorem dX4_mix_11 : decode cX4_mix 11 = .ok (.lload_n 3, 1) := by decide +kernel
theorem dX4_mix_12 : decode cX4_mix 12 = .ok (.lload_n 3, 1) := by decide +kernel
theorem dX4_mix_13 : decode cX4_mix 13 = .ok (.bipush 30, 2) := by decide +kernel
theorem dX4_mix_15 : decode cX4_mix 15 = .ok (.lushr, 1) := by decide +kernel
theorem dX4_mix_16 : decode cX4_mix 16 = .ok (.lxor, 1) := by decide +kernel
theorem dX4_mix_17 : decode cX4_mix 17 = .ok (.ldc2_w 53, 3) := by decide +kernel
theorem dX4_mix_20 : decode cX4_mix 20 = .ok (.lmul, 1) := by decide +kernel
theorem dX4_mix_21 : decode cX4_mix 21 = .ok (.lstore_n 3, 1) := by decide +kernel
theorem dX4_mix_22 : decode cX4_mix 22 = .ok (.lload_n 3, 1) := by decide +kernel
theorem dX4_mix_23 : decode cX4_mix 23 = .ok (.lload_n 3, 1) := by decide +kernel
theorem dX4_mix_24 : decode cX4_mix 24 = .ok (.bipush 27, 2) := by decide +kernel
theorem dX4_mix_26 : decode cX4_mix 26 = .ok (.lushr, 1) := by decide +kernel
theorem dX4_mix_27 : decode cX4_mix 27 = .ok (.lxor, 1) := by decide +kernel
theorem dX4_mix_28 : decode cX4_mix 28 = .ok (.ldc2_w 55, 3) := by decide +kernel
theorem dX4_mix_31 : decode cX4_mix 31 = .ok (.lmul, 1) := by decide +kernel
theorem dX4_mix_32 : decode cX4_mix 32 = .ok (.lstore_n 3, 1) := by decide +kernel
theorem dX4_mix_33 : decode cX4_mix 33 = .ok (.lload_n 3, 1) := by decide +kernel
theorem dX4_mix_34 : decode cX4_mix 34 = .ok (.lload_n 3, 1) := by decide +kernel
theorem dX4_mix_35 : decode cX4_mix 35 = .ok (.bipush 31, 2) := by decide +kernel
theorem dX4_mix_37 : decode cX4_mix 37 = .ok (.lushr, 1) := by decide +kernel
theorem dX4_mix_38 : decode cX4_mix 38 = .ok (.lxor, 1) := by decide +kernel
theorem dX4_mix_39 : decode cX4_mix 39 = .ok (.lreturn, 1) := by decide +kernel
theorem dX4_leastPrimeFrom_0 : decode cX4_leastPrimeFrom 0 = .ok (.iload_n 0, 1) := by decide +kernel
theorem dX4_leastPrimeFrom_1 : decode cX4_leastPrimeFrom 1 = .ok (.istore_n 1, 1) := by decide +kernel
theorem dX4_leastPrimeFrom_2 : decode cX4_leastPrimeFrom 2 = .ok (.iload_n 1, 1) := by decide +kernel
theorem dX4_leastPrimeFrom_3 : decode cX4_leastPrimeFrom 3 = .ok (.iconst 2, 1) := by decide +kernel
theorem dX4_leastPrimeFrom_4 : decode cX4_leastPrimeFrom 4 = .ok (.iload_n 0, 1) := by decide +kernel
theorem dX4_leastPrimeFrom_5 : decode cX4_leastPrimeFrom 5 = .ok (.imul, 1) := by decide +kernel
theorem dX4_leastPrimeFrom_6 : decode cX4_leastPrimeFrom 6 = .ok (.if_icmp .ge 16, 3) := by decide +kernel
theorem dX4_leastPrimeFrom_9 : decode cX4_leastPrimeFrom 9 = .ok (.iload_n 1, 1) := by decide +kernel
theorem dX4_leastPrimeFrom_10 : decode cX4_leastPrimeFrom 10 = .ok (.invokestatic 57, 3) := by decide +kernel
theorem dX4_leastPrimeFrom_13 : decode cX4_leastPrimeFrom 13 = .ok (.ifCond .ne 9, 3) := by decide +kernel
theorem dX4_leastPrimeFrom_16 : decode cX4_leastPrimeFrom 16 = .ok (.iinc 1 1, 3) := by decide +kernel
theorem dX4_leastPrimeFrom_19 : decode cX4_leastPrimeFrom 19 = .ok (.goto (-17), 3) := by decide +kernel
theorem dX4_leastPrimeFrom_22 : decode cX4_leastPrimeFrom 22 = .ok (.iload_n 1, 1) := by decide +kernel
theorem dX4_leastPrimeFrom_23 : decode cX4_leastPrimeFrom 23 = .ok (.ireturn, 1) := by decide +kernel
theorem dX4_isPrime_0 : decode cX4_isPrime 0 = .ok (.iconst 2, 1) := by decide +kernel
theorem dX4_isPrime_1 : decode cX4_isPrime 1 = .ok (.istore_n 1, 1) := by decide +kernel
theorem dX4_isPrime_2 : decode cX4_isPrime 2 = .ok (.iload_n 1, 1) := by decide +kernel
theorem dX4_isPrime_3 : decode cX4_isPrime 3 = .ok (.iload_n 1, 1) := by decide +kernel
theorem dX4_isPrime_4 : decode cX4_isPrime 4 = .ok (.imul, 1) := by decide +kernel
theorem dX4_isPrime_5 : decode cX4_isPrime 5 = .ok (.iload_n 0, 1) := by decide +kernel
theorem dX4_isPrime_6 : decode cX4_isPrime 6 = .ok (.if_icmp .gt 17, 3) := by decide +kernel
theorem dX4_isPrime_9 : decode cX4_isPrime 9 = .ok (.iload_n 0, 1) := by decide +kernel
theorem dX4_isPrime_10 : decode cX4_isPrime 10 = .ok (.iload_n 1, 1) := by decide +kernel
theorem dX4_isPrime_11 : decode cX4_isPrime 11 = .ok (.irem, 1) := by decide +kernel
theorem dX4_isPrime_12 : decode cX4_isPrime 12 = .ok (.ifCond .ne 5, 3) := by decide +kernel
theorem dX4_isPrime_15 : decode cX4_isPrime 15 = .ok (.iconst 0, 1) := by decide +kernel
theorem dX4_isPrime_16 : decode cX4_isPrime 16 = .ok (.ireturn, 1) := by decide +kernel
theorem dX4_isPrime_17 : decode cX4_isPrime 17 = .ok (.iinc 1 1, 3) := by decide +kernel
theorem dX4_isPrime_20 : decode cX4_isPrime 20 = .ok (.goto (-18), 3) := by decide +kernel
theorem dX4_isPrime_23 : decode cX4_isPrime 23 = .ok (.iconst 1, 1) := by decide +kernel
theorem dX4_isPrime_24 : decode cX4_isPrime 24 = .ok (.ireturn, 1) := by decide +kernel
theorem dX5_init_0 : decode cX5_init 0 = .ok (.aload_n 0, 1) := by decide +kernel
theorem dX5_init_1 : decode cX5_init 1 = .ok (.invokespecial 1, 3) := by decide +kernel
theorem dX5_init_4 : decode cX5_init 4 = .ok (.aload_n 0, 1) := by decide +kernel
theorem dX5_init_5 : decode cX5_init 5 = .ok (.sipush 800, 3) := by decide +kernel
theorem dX5_init_8 : decode cX5_init 8 = .ok (.newarray .int, 2) := by decide +kernel
theorem dX5_init_10 : decode cX5_init 10 = .ok (.putfield 9, 3) := by decide +kernel
theorem dX5_init_13 : decode cX5_init 13 = .ok (.aload_n 0, 1) := by decide +kernel
theorem dX5_init_14 : decode cX5_init 14 = .ok (.iconst 0, 1) := by decide +kernel
theorem dX5_init_15 : decode cX5_init 15 = .ok (.putfield 13, 3) := by decide +kernel
theorem dX5_init_18 : decode cX5_init 18 = .ok (.return_, 1) := by decide +kernel
theorem dX5_hasRoom_0 : decode cX5_hasRoom 0 = .ok (.aload_n 0, 1) := by decide +kernel
theorem dX5_hasRoom_1 : decode cX5_hasRoom 1 = .ok (.getfield 13, 3) := by decide +kernel
theorem dX5_hasRoom_4 : decode cX5_hasRoom 4 = .ok (.iload_n 1, 1) := by decide +kernel
theorem dX5_hasRoom_5 : decode cX5_hasRoom 5 = .ok (.iadd, 1) := by decide +kernel
theorem dX5_hasRoom_6 : decode cX5_hasRoom 6 = .ok (.sipush 800, 3) := by decide +kernel
theorem dX5_hasRoom_9 : decode cX5_hasRoom 9 = .ok (.if_icmp .gt 7, 3) := by decide +kernel
theorem dX5_hasRoom_12 : decode cX5_hasRoom 12 = .ok (.iconst 1, 1) := by decide +kernel
theorem dX5_hasRoom_13 : decode cX5_hasRoom 13 = .ok (.goto 4, 3) := by decide +kernel
theorem dX5_hasRoom_16 : decode cX5_hasRoom 16 = .ok (.iconst 0, 1) := by decide +kernel
theorem dX5_hasRoom_17 : decode cX5_hasRoom 17 = .ok (.ireturn, 1) := by decide +kernel
theorem dX5_append_0 : decode cX5_append 0 = .ok (.bipush 24, 2) := by decide +kernel
theorem dX5_append_2 : decode cX5_append 2 = .ok (.istore_n 2, 1) := by decide +kernel
theorem dX5_append_3 : decode cX5_append 3 = .ok (.iload_n 2, 1) := by decide +kernel
theorem dX5_append_4 : decode cX5_append 4 = .ok (.ifCond .lt 35, 3) := by decide +kernel
theorem dX5_append_7 : decode cX5_append 7 = .ok (.aload_n 0, 1) := by decide +kernel
theorem dX5_append_8 : decode cX5_append 8 = .ok (.getfield 9, 3) := by decide +kernel
theorem dX5_append_11 : decode cX5_append 11 = .ok (.aload_n 0, 1) := by decide +kernel
theorem dX5_append_12 : decode cX5_append 12 = .ok (.getfield 13, 3) := by decide +kernel
theorem dX5_append_15 : decode cX5_append 15 = .ok (.iload_n 1, 1) := by decide +kernel
theorem dX5_append_16 : decode cX5_append 16 = .ok (.iload_n 2, 1) := by decide +kernel
theorem dX5_append_17 : decode cX5_append 17 = .ok (.iushr, 1) := by decide +kernel
theorem dX5_append_18 : decode cX5_append 18 = .ok (.sipush 255, 3) := by decide +kernel
theorem dX5_append_21 : decode cX5_append 21 = .ok (.iand, 1) := by decide +kernel
theorem dX5_append_22 : decode cX5_append 22 = .ok (.iastore, 1) := by decide +kernel
theorem dX5_append_23 : decode cX5_append 23 = .ok (.aload_n 0, 1) := by decide +kernel
theorem dX5_append_24 : decode cX5_append 24 = .ok (.dup, 1) := by decide +kernel
theorem dX5_append_25 : decode cX5_append 25 = .ok (.getfield 13, 3) := by decide +kernel
theorem dX5_append_28 : decode cX5_append 28 = .ok (.iconst 1, 1) := by decide +kernel
theorem dX5_append_29 : decode cX5_append 29 = .ok (.iadd, 1) := by decide +kernel
theorem dX5_append_30 : decode cX5_append 30 = .ok (.putfield 13, 3) := by decide +kernel
theorem dX5_append_33 : decode cX5_append 33 = .ok (.iinc 2 (-8), 3) := by decide +kernel
theorem dX5_append_36 : decode cX5_append 36 = .ok (.goto (-33), 3) := by decide +kernel
theorem dX5_append_39 : decode cX5_append 39 = .ok (.return_, 1) := by decide +kernel
theorem dX6_init_0 : decode cX6_init 0 = .ok (.aload_n 0, 1) := by decide +kernel
theorem dX6_init_1 : decode cX6_init 1 = .ok (.invokespecial 3, 3) := by decide +kernel
theorem dX6_init_4 : decode cX6_init 4 = .ok (.aload_n 0, 1) := by decide +kernel
theorem dX6_init_5 : decode cX6_init 5 = .ok (.aload_n 1, 1) := by decide +kernel
theorem dX6_init_6 : decode cX6_init 6 = .ok (.putfield 9, 3) := by decide +kernel
theorem dX6_init_9 : decode cX6_init 9 = .ok (.aload_n 0, 1) := by decide +kernel
theorem dX6_init_10 : decode cX6_init 10 = .ok (.aload_n 2, 1) := by decide +kernel
theorem dX6_init_11 : decode cX6_init 11 = .ok (.putfield 15, 3) := by decide +kernel
theorem dX6_init_14 : decode cX6_init 14 = .ok (.aload_n 0, 1) := by decide +kernel
theorem dX6_init_15 : decode cX6_init 15 = .ok (.bipush 49, 2) := by decide +kernel
theorem dX6_init_17 : decode cX6_init 17 = .ok (.newarray .int, 2) := by decide +kernel
theorem dX6_init_19 : decode cX6_init 19 = .ok (.putfield 19, 3) := by decide +kernel
theorem dX6_init_22 : decode cX6_init 22 = .ok (.aload_n 0, 1) := by decide +kernel
theorem dX6_init_23 : decode cX6_init 23 = .ok (.getfield 19, 3) := by decide +kernel
theorem dX6_init_26 : decode cX6_init 26 = .ok (.iconst (-1), 1) := by decide +kernel
theorem dX6_init_27 : decode cX6_init 27 = .ok (.invokestatic 23, 3) := by decide +kernel
theorem dX6_init_30 : decode cX6_init 30 = .ok (.return_, 1) := by decide +kernel
theorem dX6_of_0 : decode cX6_of 0 = .ok (.aload_n 0, 1) := by decide +kernel
theorem dX6_of_1 : decode cX6_of 1 = .ok (.getfield 19, 3) := by decide +kernel
theorem dX6_of_4 : decode cX6_of 4 = .ok (.iload_n 1, 1) := by decide +kernel
theorem dX6_of_5 : decode cX6_of 5 = .ok (.iaload, 1) := by decide +kernel
theorem dX6_of_6 : decode cX6_of 6 = .ok (.iconst (-1), 1) := by decide +kernel
theorem dX6_of_7 : decode cX6_of 7 = .ok (.if_icmp .ne 34, 3) := by decide +kernel
theorem dX6_of_10 : decode cX6_of 10 = .ok (.iconst 0, 1) := by decide +kernel
theorem dX6_of_11 : decode cX6_of 11 = .ok (.istore_n 2, 1) := by decide +kernel
theorem dX6_of_12 : decode cX6_of 12 = .ok (.iload_n 2, 1) := by decide +kernel
theorem dX6_of_13 : decode cX6_of 13 = .ok (.sipush 1000, 3) := by decide +kernel
theorem dX6_of_16 : decode cX6_of 16 = .ok (.if_icmp .ge 18, 3) := by decide +kernel
theorem dX6_of_19 : decode cX6_of 19 = .ok (.aload_n 0, 1) := by decide +kernel
theorem dX6_of_20 : decode cX6_of 20 = .ok (.iload_n 1, 1) := by decide +kernel
theorem dX6_of_21 : decode cX6_of 21 = .ok (.iload_n 2, 1) := by decide +kernel
theorem dX6_of_22 : decode cX6_of 22 = .ok (.invokevirtual 29, 3) := by decide +kernel
theorem dX6_of_25 : decode cX6_of 25 = .ok (.ifCond .ne 9, 3) := by decide +kernel
theorem dX6_of_28 : decode cX6_of 28 = .ok (.iinc 2 1, 3) := by decide +kernel
theorem dX6_of_31 : decode cX6_of 31 = .ok (.goto (-19), 3) := by decide +kernel
theorem dX6_of_34 : decode cX6_of 34 = .ok (.aload_n 0, 1) := by decide +kernel
theorem dX6_of_35 : decode cX6_of 35 = .ok (.getfield 19, 3) := by decide +kernel
theorem dX6_of_38 : decode cX6_of 38 = .ok (.iload_n 1, 1) := by decide +kernel
theorem dX6_of_39 : decode cX6_of 39 = .ok (.iload_n 2, 1) := by decide +kernel
theorem dX6_of_40 : decode cX6_of 40 = .ok (.iastore, 1) := by decide +kernel
theorem dX6_of_41 : decode cX6_of 41 = .ok (.aload_n 0, 1) := by decide +kernel
theorem dX6_of_42 : decode cX6_of 42 = .ok (.getfield 19, 3) := by decide +kernel
theorem dX6_of_45 : decode cX6_of 45 = .ok (.iload_n 1, 1) := by decide +kernel
theorem dX6_of_46 : decode cX6_of 46 = .ok (.iaload, 1) := by decide +kernel
theorem dX6_of_47 : decode cX6_of 47 = .ok (.ireturn, 1) := by decide +kernel
theorem dX6_fillsRank_0 : decode cX6_fillsRank 0 = .ok (.aload_n 0, 1) := by decide +kernel
theorem dX6_fillsRank_1 : decode cX6_fillsRank 1 = .ok (.getfield 9, 3) := by decide +kernel
theorem dX6_fillsRank_4 : decode cX6_fillsRank 4 = .ok (.iload_n 1, 1) := by decide +kernel
theorem dX6_fillsRank_5 : decode cX6_fillsRank 5 = .ok (.iconst 0, 1) := by decide +kernel
theorem dX6_fillsRank_6 : decode cX6_fillsRank 6 = .ok (.invokevirtual 33, 3) := by decide +kernel
theorem dX6_fillsRank_9 : decode cX6_fillsRank 9 = .ok (.iconst 0, 1) := by decide +kernel
theorem dX6_fillsRank_10 : decode cX6_fillsRank 10 = .ok (.istore_n 3, 1) := by decide +kernel
theorem dX6_fillsRank_11 : decode cX6_fillsRank 11 = .ok (.iload_n 3, 1) := by decide +kernel
theorem dX6_fillsRank_12 : decode cX6_fillsRank 12 = .ok (.iload_n 1, 1) := by decide +kernel
theorem dX6_fillsRank_13 : decode cX6_fillsRank 13 = .ok (.if_icmp .ge 43, 3) := by decide +kernel
theorem dX6_fillsRank_16 : decode cX6_fillsRank 16 = .ok (.aload_n 0, 1) := by decide +kernel
theorem dX6_fillsRank_17 : decode cX6_fillsRank 17 = .ok (.getfield 15, 3) := by decide +kernel
theorem dX6_fillsRank_20 : decode cX6_fillsRank 20 = .ok (.iload_n 1, 1) := by decide +kernel
theorem dX6_fillsRank_21 : decode cX6_fillsRank 21 = .ok (.iload_n 3, 1) := by decide +kernel
theorem dX6_fillsRank_22 : decode cX6_fillsRank 22 = .ok (.iload_n 2, 1) := by decide +kernel
theorem dX6_fillsRank_23 : decode cX6_fillsRank 23 = .ok (.invokevirtual 39, 3) := by decide +kernel
theorem dX6_fillsRank_26 : decode cX6_fillsRank 26 = .ok (.aload_n 0, 1) := by decide +kernel
theorem dX6_fillsRank_27 : decode cX6_fillsRank 27 = .ok (.getfield 9, 3) := by decide +kernel
theorem dX6_fillsRank_30 : decode cX6_fillsRank 30 = .ok (.aload_n 0, 1) := by decide +kernel
theorem dX6_fillsRank_31 : decode cX6_fillsRank 31 = .ok (.getfield 15, 3) := by decide +kernel
theorem dX6_fillsRank_34 : decode cX6_fillsRank 34 = .ok (.invokevirtual 45, 3) := by decide +kernel
theorem dX6_fillsRank_37 : decode cX6_fillsRank 37 = .ok (.aload_n 0, 1) := by decide +kernel
theorem dX6_fillsRank_38 : decode cX6_fillsRank 38 = .ok (.getfield 9, 3) := by decide +kernel
theorem dX6_fillsRank_41 : decode cX6_fillsRank 41 = .ok (.invokevirtual 49, 3) := by decide +kernel
theorem dX6_fillsRank_44 : decode cX6_fillsRank 44 = .ok (.iconst 1, 1) := by decide +kernel
theorem dX6_fillsRank_45 : decode cX6_fillsRank 45 = .ok (.if_icmp .eq 5, 3) := by decide +kernel
theorem dX6_fillsRank_48 : decode cX6_fillsRank 48 = .ok (.iconst 0, 1) := by decide +kernel
theorem dX6_fillsRank_49 : decode cX6_fillsRank 49 = .ok (.ireturn, 1) := by decide +kernel
theorem dX6_fillsRank_50 : decode cX6_fillsRank 50 = .ok (.iinc 3 1, 3) := by decide +kernel
theorem dX6_fillsRank_53 : decode cX6_fillsRank 53 = .ok (.goto (-42), 3) := by decide +kernel
theorem dX6_fillsRank_56 : decode cX6_fillsRank 56 = .ok (.iconst 1, 1) := by decide +kernel
theorem dX6_fillsRank_57 : decode cX6_fillsRank 57 = .ok (.ireturn, 1) := by decide +kernel
theorem dX7_init_0 : decode cX7_init 0 = .ok (.aload_n 0, 1) := by decide +kernel
theorem dX7_init_1 : decode cX7_init 1 = .ok (.invokespecial 3, 3) := by decide +kernel
theorem dX7_init_4 : decode cX7_init 4 = .ok (.aload_n 0, 1) := by decide +kernel
theorem dX7_init_5 : decode cX7_init 5 = .ok (.new 9, 3) := by decide +kernel
theorem dX7_init_8 : decode cX7_init 8 = .ok (.dup, 1) := by decide +kernel
theorem dX7_init_9 : decode cX7_init 9 = .ok (.invokespecial 11, 3) := by decide +kernel
theorem dX7_init_12 : decode cX7_init 12 = .ok (.putfield 12, 3) := by decide +kernel
theorem dX7_init_15 : decode cX7_init 15 = .ok (.aload_n 0, 1) := by decide +kernel
theorem dX7_init_16 : decode cX7_init 16 = .ok (.new 16, 3) := by decide +kernel
theorem dX7_init_19 : decode cX7_init 19 = .ok (.dup, 1) := by decide +kernel
theorem dX7_init_20 : decode cX7_init 20 = .ok (.invokespecial 18, 3) := by decide +kernel
theorem dX7_init_23 : decode cX7_init 23 = .ok (.putfield 19, 3) := by decide +kernel
theorem dX7_init_26 : decode cX7_init 26 = .ok (.aload_n 0, 1) := by decide +kernel
theorem dX7_init_27 : decode cX7_init 27 = .ok (.new 23, 3) := by decide +kernel
theorem dX7_init_30 : decode cX7_init 30 = .ok (.dup, 1) := by decide +kernel
theorem dX7_init_31 : decode cX7_init 31 = .ok (.invokespecial 25, 3) := by decide +kernel
theorem dX7_init_34 : decode cX7_init 34 = .ok (.putfield 26, 3) := by decide +kernel
theorem dX7_init_37 : decode cX7_init 37 = .ok (.aload_n 0, 1) := by decide +kernel
theorem dX7_init_38 : decode cX7_init 38 = .ok (.new 30, 3) := by decide +kernel
theorem dX7_init_41 : decode cX7_init 41 = .ok (.dup, 1) := by decide +kernel
theorem dX7_init_42 : decode cX7_init 42 = .ok (.aload_n 0, 1) := by decide +kernel
theorem dX7_init_43 : decode cX7_init 43 = .ok (.getfield 12, 3) := by decide +kernel
theorem dX7_init_46 : decode cX7_init 46 = .ok (.invokespecial 32, 3) := by decide +kernel
theorem dX7_init_49 : decode cX7_init 49 = .ok (.putfield 35, 3) := by decide +kernel
theorem dX7_init_52 : decode cX7_init 52 = .ok (.aload_n 0, 1) := by decide +kernel
theorem dX7_init_53 : decode cX7_init 53 = .ok (.new 39, 3) := by decide +kernel
theorem dX7_init_56 : decode cX7_init 56 = .ok (.dup, 1) := by decide +kernel
theorem dX7_init_57 : decode cX7_init 57 = .ok (.aload_n 0, 1) := by decide +kernel
theorem dX7_init_58 : decode cX7_init 58 = .ok (.getfield 35, 3) := by decide +kernel
theorem dX7_init_61 : decode cX7_init 61 = .ok (.aload_n 0, 1) := by decide +kernel
theorem dX7_init_62 : decode cX7_init 62 = .ok (.getfield 26, 3) := by decide +kernel
theorem dX7_init_65 : decode cX7_init 65 = .ok (.invokespecial 41, 3) := by decide +kernel
theorem dX7_init_68 : decode cX7_init 68 = .ok (.putfield 44, 3) := by decide +kernel
theorem dX7_init_71 : decode cX7_init 71 = .ok (.aload_n 0, 1) := by decide +kernel
theorem dX7_init_72 : decode cX7_init 72 = .ok (.new 48, 3) := by decide +kernel
theorem dX7_init_75 : decode cX7_init 75 = .ok (.dup, 1) := by decide +kernel
theorem dX7_init_76 : decode cX7_init 76 = .ok (.invokespecial 50, 3) := by decide +kernel
theorem dX7_init_79 : decode cX7_init 79 = .ok (.putfield 51, 3) := by decide +kernel
theorem dX7_init_82 : decode cX7_init 82 = .ok (.aload_n 0, 1) := by decide +kernel
theorem dX7_init_83 : decode cX7_init 83 = .ok (.new 55, 3) := by decide +kernel
theorem dX7_init_86 : decode cX7_init 86 = .ok (.dup, 1) := by decide +kernel
theorem dX7_init_87 : decode cX7_init 87 = .ok (.aload_n 0, 1) := by decide +kernel
theorem dX7_init_88 : decode cX7_init 88 = .ok (.getfield 12, 3) := by decide +kernel
theorem dX7_init_91 : decode cX7_init 91 = .ok (.invokespecial 57, 3) := by decide +kernel
theorem dX7_init_94 : decode cX7_init 94 = .ok (.putfield 58, 3) := by decide +kernel
theorem dX7_init_97 : decode cX7_init 97 = .ok (.return_, 1) := by decide +kernel
theorem dX7_feed_0 : decode cX7_feed 0 = .ok (.aload_n 0, 1) := by decide +kernel
theorem dX7_feed_1 : decode cX7_feed 1 = .ok (.getfield 19, 3) := by decide +kernel
theorem dX7_feed_4 : decode cX7_feed 4 = .ok (.bipush 20, 2) := by decide +kernel
theorem dX7_feed_6 : decode cX7_feed 6 = .ok (.invokevirtual 62, 3) := by decide +kernel
theorem dX7_feed_9 : decode cX7_feed 9 = .ok (.ifCond .ne 11, 3) := by decide +kernel
theorem dX7_feed_12 : decode cX7_feed 12 = .ok (.new 66, 3) := by decide +kernel
theorem dX7_feed_15 : decode cX7_feed 15 = .ok (.dup, 1) := by decide +kernel
theorem dX7_feed_16 : decode cX7_feed 16 = .ok (.invokespecial 68, 3) := by decide +kernel
theorem dX7_feed_19 : decode cX7_feed 19 = .ok (.athrow, 1) := by decide +kernel
theorem dX7_feed_20 : decode cX7_feed 20 = .ok (.aload_n 0, 1) := by decide +kernel
theorem dX7_feed_21 : decode cX7_feed 21 = .ok (.getfield 19, 3) := by decide +kernel
theorem dX7_feed_24 : decode cX7_feed 24 = .ok (.iload_n 1, 1) := by decide +kernel
theorem dX7_feed_25 : decode cX7_feed 25 = .ok (.invokevirtual 69, 3) := by decide +kernel
theorem dX7_feed_28 : decode cX7_feed 28 = .ok (.aload_n 0, 1) := by decide +kernel
theorem dX7_feed_29 : decode cX7_feed 29 = .ok (.getfield 19, 3) := by decide +kernel
theorem dX7_feed_32 : decode cX7_feed 32 = .ok (.iload_n 2, 1) := by decide +kernel
theorem dX7_feed_33 : decode cX7_feed 33 = .ok (.invokevirtual 69, 3) := by decide +kernel
theorem dX7_feed_36 : decode cX7_feed 36 = .ok (.aload_n 0, 1) := by decide +kernel
theorem dX7_feed_37 : decode cX7_feed 37 = .ok (.getfield 19, 3) := by decide +kernel
theorem dX7_feed_40 : decode cX7_feed 40 = .ok (.iload_n 3, 1) := by decide +kernel
theorem dX7_feed_41 : decode cX7_feed 41 = .ok (.invokevirtual 69, 3) := by decide +kernel
theorem dX7_feed_44 : decode cX7_feed 44 = .ok (.aload_n 0, 1) := by decide +kernel
theorem dX7_feed_45 : decode cX7_feed 45 = .ok (.getfield 19, 3) := by decide +kernel
theorem dX7_feed_48 : decode cX7_feed 48 = .ok (.iload 4, 2) := by decide +kernel
theorem dX7_feed_50 : decode cX7_feed 50 = .ok (.invokevirtual 69, 3) := by decide +kernel
theorem dX7_feed_53 : decode cX7_feed 53 = .ok (.aload_n 0, 1) := by decide +kernel
theorem dX7_feed_54 : decode cX7_feed 54 = .ok (.getfield 19, 3) := by decide +kernel
theorem dX7_feed_57 : decode cX7_feed 57 = .ok (.iload 5, 2) := by decide +kernel
theorem dX7_feed_59 : decode cX7_feed 59 = .ok (.invokevirtual 69, 3) := by decide +kernel
theorem dX7_feed_62 : decode cX7_feed 62 = .ok (.aload_n 0, 1) := by decide +kernel
theorem dX7_feed_63 : decode cX7_feed 63 = .ok (.getfield 19, 3) := by decide +kernel
theorem dX7_feed_66 : decode cX7_feed 66 = .ok (.getfield 73, 3) := by decide +kernel
theorem dX7_feed_69 : decode cX7_feed 69 = .ok (.ireturn, 1) := by decide +kernel
theorem dX7_end_0 : decode cX7_end 0 = .ok (.iload_n 1, 1) := by decide +kernel
theorem dX7_end_1 : decode cX7_end 1 = .ok (.ifCond .lt 14, 3) := by decide +kernel
theorem dX7_end_4 : decode cX7_end 4 = .ok (.iload_n 1, 1) := by decide +kernel
theorem dX7_end_5 : decode cX7_end 5 = .ok (.aload_n 0, 1) := by decide +kernel
theorem dX7_end_6 : decode cX7_end 6 = .ok (.getfield 19, 3) := by decide +kernel
theorem dX7_end_9 : decode cX7_end 9 = .ok (.getfield 73, 3) := by decide +kernel
theorem dX7_end_12 : decode cX7_end 12 = .ok (.if_icmp .le 11, 3) := by decide +kernel
theorem dX7_end_15 : decode cX7_end 15 = .ok (.new 77, 3) := by decide +kernel
theorem dX7_end_18 : decode cX7_end 18 = .ok (.dup, 1) := by decide +kernel
theorem dX7_end_19 : decode cX7_end 19 = .ok (.invokespecial 79, 3) := by decide +kernel
theorem dX7_end_22 : decode cX7_end 22 = .ok (.athrow, 1) := by decide +kernel
theorem dX7_end_23 : decode cX7_end 23 = .ok (.aload_n 0, 1) := by decide +kernel
theorem dX7_end_24 : decode cX7_end 24 = .ok (.getfield 19, 3) := by decide +kernel
theorem dX7_end_27 : decode cX7_end 27 = .ok (.iload_n 1, 1) := by decide +kernel
theorem dX7_end_28 : decode cX7_end 28 = .ok (.putfield 73, 3) := by decide +kernel
theorem dX7_end_31 : decode cX7_end 31 = .ok (.return_, 1) := by decide +kernel
theorem dX7_turn_0 : decode cX7_turn 0 = .ok (.iload_n 1, 1) := by decide +kernel
theorem dX7_turn_1 : decode cX7_turn 1 = .ok (.invokestatic 80, 3) := by decide +kernel
theorem dX7_turn_4 : decode cX7_turn 4 = .ok (.ifCond .ne 11, 3) := by decide +kernel
theorem dX7_turn_7 : decode cX7_turn 7 = .ok (.new 77, 3) := by decide +kernel
theorem dX7_turn_10 : decode cX7_turn 10 = .ok (.dup, 1) := by decide +kernel
theorem dX7_turn_11 : decode cX7_turn 11 = .ok (.invokespecial 79, 3) := by decide +kernel
theorem dX7_turn_14 : decode cX7_turn 14 = .ok (.athrow, 1) := by decide +kernel
theorem dX7_turn_15 : decode cX7_turn 15 = .ok (.aload_n 0, 1) := by decide +kernel
theorem dX7_turn_16 : decode cX7_turn 16 = .ok (.getfield 44, 3) := by decide +kernel
theorem dX7_turn_19 : decode cX7_turn 19 = .ok (.iload_n 1, 1) := by decide +kernel
theorem dX7_turn_20 : decode cX7_turn 20 = .ok (.invokevirtual 83, 3) := by decide +kernel
theorem dX7_turn_23 : decode cX7_turn 23 = .ok (.ireturn, 1) := by decide +kernel
theorem dX7_block_0 : decode cX7_block 0 = .ok (.iload_n 1, 1) := by decide +kernel
theorem dX7_block_1 : decode cX7_block 1 = .ok (.invokestatic 80, 3) := by decide +kernel
theorem dX7_block_4 : decode cX7_block 4 = .ok (.ifCond .eq 23, 3) := by decide +kernel
theorem dX7_block_7 : decode cX7_block 7 = .ok (.iload_n 2, 1) := by decide +kernel
theorem dX7_block_8 : decode cX7_block 8 = .ok (.invokestatic 87, 3) := by decide +kernel
theorem dX7_block_11 : decode cX7_block 11 = .ok (.ifCond .eq 16, 3) := by decide +kernel
theorem dX7_block_14 : decode cX7_block 14 = .ok (.aload_n 0, 1) := by decide +kernel
theorem dX7_block_15 : decode cX7_block 15 = .ok (.getfield 19, 3) := by decide +kernel
theorem dX7_block_18 : decode cX7_block 18 = .ok (.getfield 73, 3) := by decide +kernel
theorem dX7_block_21 : decode cX7_block 21 = .ok (.iload_n 1, 1) := by decide +kernel
theorem dX7_block_22 : decode cX7_block 22 = .ok (.iload_n 2, 1) := by decide +kernel
theorem dX7_block_23 : decode cX7_block 23 = .ok (.imul, 1) := by decide +kernel
theorem dX7_block_24 : decode cX7_block 24 = .ok (.if_icmp .eq 11, 3) := by decide +kernel
theorem dX7_block_27 : decode cX7_block 27 = .ok (.new 77, 3) := by decide +kernel
theorem dX7_block_30 : decode cX7_block 30 = .ok (.dup, 1) := by decide +kernel
theorem dX7_block_31 : decode cX7_block 31 = .ok (.invokespecial 79, 3) := by decide +kernel
theorem dX7_block_34 : decode cX7_block 34 = .ok (.athrow, 1) := by decide +kernel
theorem dX7_block_35 : decode cX7_block 35 = .ok (.aload_n 0, 1) := by decide +kernel
theorem dX7_block_36 : decode cX7_block 36 = .ok (.getfield 44, 3) := by decide +kernel
theorem dX7_block_39 : decode cX7_block 39 = .ok (.iload_n 1, 1) := by decide +kernel
theorem dX7_block_40 : decode cX7_block 40 = .ok (.invokevirtual 83, 3) := by decide +kernel
theorem dX7_block_43 : decode cX7_block 43 = .ok (.istore_n 3, 1) := by decide +kernel
theorem dX7_block_44 : decode cX7_block 44 = .ok (.aload_n 0, 1) := by decide +kernel
theorem dX7_block_45 : decode cX7_block 45 = .ok (.iload_n 1, 1) := by decide +kernel
theorem dX7_block_46 : decode cX7_block 46 = .ok (.iload_n 2, 1) := by decide +kernel
theorem dX7_block_47 : decode cX7_block 47 = .ok (.iload_n 3, 1) := by decide +kernel
theorem dX7_block_48 : decode cX7_block 48 = .ok (.invokevirtual 90, 3) := by decide +kernel
theorem dX7_block_51 : decode cX7_block 51 = .ok (.aload_n 0, 1) := by decide +kernel
theorem dX7_block_52 : decode cX7_block 52 = .ok (.getfield 51, 3) := by decide +kernel
theorem dX7_block_55 : decode cX7_block 55 = .ok (.aload_n 0, 1) := by decide +kernel
theorem dX7_block_56 : decode cX7_block 56 = .ok (.getfield 35, 3) := by decide +kernel
theorem dX7_block_59 : decode cX7_block 59 = .ok (.iload_n 1, 1) := by decide +kernel
theorem dX7_block_60 : decode cX7_block 60 = .ok (.iload_n 3, 1) := by decide +kernel
theorem dX7_block_61 : decode cX7_block 61 = .ok (.invokevirtual 94, 3) := by decide +kernel
theorem dX7_block_64 : decode cX7_block 64 = .ok (.aload_n 0, 1) := by decide +kernel
theorem dX7_block_65 : decode cX7_block 65 = .ok (.getfield 19, 3) := by decide +kernel
theorem dX7_block_68 : decode cX7_block 68 = .ok (.iconst 0, 1) := by decide +kernel
theorem dX7_block_69 : decode cX7_block 69 = .ok (.putfield 73, 3) := by decide +kernel
theorem dX7_block_72 : decode cX7_block 72 = .ok (.return_, 1) := by decide +kernel
theorem dX7_byteAt_0 : decode cX7_byteAt 0 = .ok (.aload_n 0, 1) := by decide +kernel
theorem dX7_byteAt_1 : decode cX7_byteAt 1 = .ok (.getfield 51, 3) := by decide +kernel
theorem dX7_byteAt_4 : decode cX7_byteAt 4 = .ok (.getfield 98, 3) := by decide +kernel
theorem dX7_byteAt_7 : decode cX7_byteAt 7 = .ok (.ifCond .ne 11, 3) := by decide +kernel
theorem dX7_byteAt_10 : decode cX7_byteAt 10 = .ok (.new 101, 3) := by decide +kernel
theorem dX7_byteAt_13 : decode cX7_byteAt 13 = .ok (.dup, 1) := by decide +kernel
theorem dX7_byteAt_14 : decode cX7_byteAt 14 = .ok (.invokespecial 103, 3) := by decide +kernel
theorem dX7_byteAt_17 : decode cX7_byteAt 17 = .ok (.athrow, 1) := by decide +kernel
theorem dX7_byteAt_18 : decode cX7_byteAt 18 = .ok (.iload_n 1, 1) := by decide +kernel
theorem dX7_byteAt_19 : decode cX7_byteAt 19 = .ok (.invokestatic 104, 3) := by decide +kernel
theorem dX7_byteAt_22 : decode cX7_byteAt 22 = .ok (.ifCond .eq 18, 3) := by decide +kernel
theorem dX7_byteAt_25 : decode cX7_byteAt 25 = .ok (.iload_n 2, 1) := by decide +kernel
theorem dX7_byteAt_26 : decode cX7_byteAt 26 = .ok (.ifCond .lt 14, 3) := by decide +kernel
theorem dX7_byteAt_29 : decode cX7_byteAt 29 = .ok (.iload_n 2, 1) := by decide +kernel
theorem dX7_byteAt_30 : decode cX7_byteAt 30 = .ok (.aload_n 0, 1) := by decide +kernel
theorem dX7_byteAt_31 : decode cX7_byteAt 31 = .ok (.getfield 51, 3) := by decide +kernel
theorem dX7_byteAt_34 : decode cX7_byteAt 34 = .ok (.getfield 107, 3) := by decide +kernel
theorem dX7_byteAt_37 : decode cX7_byteAt 37 = .ok (.if_icmp .lt 11, 3) := by decide +kernel
theorem dX7_byteAt_40 : decode cX7_byteAt 40 = .ok (.new 110, 3) := by decide +kernel
theorem dX7_byteAt_43 : decode cX7_byteAt 43 = .ok (.dup, 1) := by decide +kernel
theorem dX7_byteAt_44 : decode cX7_byteAt 44 = .ok (.invokespecial 112, 3) := by decide +kernel
theorem dX7_byteAt_47 : decode cX7_byteAt 47 = .ok (.athrow, 1) := by decide +kernel
theorem dX7_byteAt_48 : decode cX7_byteAt 48 = .ok (.aload_n 0, 1) := by decide +kernel
theorem dX7_byteAt_49 : decode cX7_byteAt 49 = .ok (.getfield 26, 3) := by decide +kernel
theorem dX7_byteAt_52 : decode cX7_byteAt 52 = .ok (.aload_n 0, 1) := by decide +kernel
theorem dX7_byteAt_53 : decode cX7_byteAt 53 = .ok (.getfield 51, 3) := by decide +kernel
theorem dX7_byteAt_56 : decode cX7_byteAt 56 = .ok (.getfield 98, 3) := by decide +kernel
theorem dX7_byteAt_59 : decode cX7_byteAt 59 = .ok (.iload_n 1, 1) := by decide +kernel
theorem dX7_byteAt_60 : decode cX7_byteAt 60 = .ok (.aload_n 0, 1) := by decide +kernel
theorem dX7_byteAt_61 : decode cX7_byteAt 61 = .ok (.getfield 51, 3) := by decide +kernel
theorem dX7_byteAt_64 : decode cX7_byteAt 64 = .ok (.getfield 113, 3) := by decide +kernel
theorem dX7_byteAt_67 : decode cX7_byteAt 67 = .ok (.invokevirtual 116, 3) := by decide +kernel
theorem dX7_byteAt_70 : decode cX7_byteAt 70 = .ok (.aload_n 0, 1) := by decide +kernel
theorem dX7_byteAt_71 : decode cX7_byteAt 71 = .ok (.getfield 51, 3) := by decide +kernel
theorem dX7_byteAt_74 : decode cX7_byteAt 74 = .ok (.aload_n 0, 1) := by decide +kernel
theorem dX7_byteAt_75 : decode cX7_byteAt 75 = .ok (.getfield 26, 3) := by decide +kernel
theorem dX7_byteAt_78 : decode cX7_byteAt 78 = .ok (.iload_n 2, 1) := by decide +kernel
theorem dX7_byteAt_79 : decode cX7_byteAt 79 = .ok (.invokevirtual 119, 3) := by decide +kernel
theorem dX7_byteAt_82 : decode cX7_byteAt 82 = .ok (.ireturn, 1) := by decide +kernel
theorem dX7_row_0 : decode cX7_row 0 = .ok (.iload_n 1, 1) := by decide +kernel
theorem dX7_row_1 : decode cX7_row 1 = .ok (.invokestatic 80, 3) := by decide +kernel
theorem dX7_row_4 : decode cX7_row 4 = .ok (.ifCond .ne 11, 3) := by decide +kernel
theorem dX7_row_7 : decode cX7_row 7 = .ok (.new 77, 3) := by decide +kernel
theorem dX7_row_10 : decode cX7_row 10 = .ok (.dup, 1) := by decide +kernel
theorem dX7_row_11 : decode cX7_row 11 = .ok (.invokespecial 79, 3) := by decide +kernel
theorem dX7_row_14 : decode cX7_row 14 = .ok (.athrow, 1) := by decide +kernel
theorem dX7_row_15 : decode cX7_row 15 = .ok (.iload_n 2, 1) := by decide +kernel
theorem dX7_row_16 : decode cX7_row 16 = .ok (.invokestatic 104, 3) := by decide +kernel
theorem dX7_row_19 : decode cX7_row 19 = .ok (.ifCond .ne 11, 3) := by decide +kernel
theorem dX7_row_22 : decode cX7_row 22 = .ok (.new 110, 3) := by decide +kernel
theorem dX7_row_25 : decode cX7_row 25 = .ok (.dup, 1) := by decide +kernel
theorem dX7_row_26 : decode cX7_row 26 = .ok (.invokespecial 112, 3) := by decide +kernel
theorem dX7_row_29 : decode cX7_row 29 = .ok (.athrow, 1) := by decide +kernel
theorem dX7_row_30 : decode cX7_row 30 = .ok (.aload_n 0, 1) := by decide +kernel
theorem dX7_row_31 : decode cX7_row 31 = .ok (.getfield 26, 3) := by decide +kernel
theorem dX7_row_34 : decode cX7_row 34 = .ok (.iload_n 1, 1) := by decide +kernel
theorem dX7_row_35 : decode cX7_row 35 = .ok (.iload_n 2, 1) := by decide +kernel
theorem dX7_row_36 : decode cX7_row 36 = .ok (.aload_n 0, 1) := by decide +kernel
theorem dX7_row_37 : decode cX7_row 37 = .ok (.getfield 44, 3) := by decide +kernel
theorem dX7_row_40 : decode cX7_row 40 = .ok (.iload_n 1, 1) := by decide +kernel
theorem dX7_row_41 : decode cX7_row 41 = .ok (.invokevirtual 83, 3) := by decide +kernel
theorem dX7_row_44 : decode cX7_row 44 = .ok (.invokevirtual 116, 3) := by decide +kernel
theorem dX7_row_47 : decode cX7_row 47 = .ok (.iload_n 3, 1) := by decide +kernel
theorem dX7_row_48 : decode cX7_row 48 = .ok (.ifCond .eq 13, 3) := by decide +kernel
theorem dX7_row_51 : decode cX7_row 51 = .ok (.aload_n 0, 1) := by decide +kernel
theorem dX7_row_52 : decode cX7_row 52 = .ok (.getfield 26, 3) := by decide +kernel
theorem dX7_row_55 : decode cX7_row 55 = .ok (.invokevirtual 123, 3) := by decide +kernel
theorem dX7_row_58 : decode cX7_row 58 = .ok (.goto 10, 3) := by decide +kernel
theorem dX7_row_61 : decode cX7_row 61 = .ok (.aload_n 0, 1) := by decide +kernel
theorem dX7_row_62 : decode cX7_row 62 = .ok (.getfield 26, 3) := by decide +kernel
theorem dX7_row_65 : decode cX7_row 65 = .ok (.getfield 127, 3) := by decide +kernel
theorem dX7_row_68 : decode cX7_row 68 = .ok (.ireturn, 1) := by decide +kernel
theorem dX7_open_0 : decode cX7_open 0 = .ok (.iload_n 1, 1) := by decide +kernel
theorem dX7_open_1 : decode cX7_open 1 = .ok (.invokestatic 80, 3) := by decide +kernel
theorem dX7_open_4 : decode cX7_open 4 = .ok (.ifCond .eq 10, 3) := by decide +kernel
theorem dX7_open_7 : decode cX7_open 7 = .ok (.iload_n 2, 1) := by decide +kernel
theorem dX7_open_8 : decode cX7_open 8 = .ok (.invokestatic 87, 3) := by decide +kernel
theorem dX7_open_11 : decode cX7_open 11 = .ok (.ifCond .ne 11, 3) := by decide +kernel
theorem dX7_open_14 : decode cX7_open 14 = .ok (.new 77, 3) := by decide +kernel
theorem dX7_open_17 : decode cX7_open 17 = .ok (.dup, 1) := by decide +kernel
theorem dX7_open_18 : decode cX7_open 18 = .ok (.invokespecial 79, 3) := by decide +kernel
theorem dX7_open_21 : decode cX7_open 21 = .ok (.athrow, 1) := by decide +kernel
theorem dX7_open_22 : decode cX7_open 22 = .ok (.aload_n 0, 1) := by decide +kernel
theorem dX7_open_23 : decode cX7_open 23 = .ok (.getfield 58, 3) := by decide +kernel
theorem dX7_open_26 : decode cX7_open 26 = .ok (.iload_n 1, 1) := by decide +kernel
theorem dX7_open_27 : decode cX7_open 27 = .ok (.iload_n 2, 1) := by decide +kernel
theorem dX7_open_28 : decode cX7_open 28 = .ok (.aload_n 0, 1) := by decide +kernel
theorem dX7_open_29 : decode cX7_open 29 = .ok (.getfield 44, 3) := by decide +kernel
theorem dX7_open_32 : decode cX7_open 32 = .ok (.iload_n 1, 1) := by decide +kernel
theorem dX7_open_33 : decode cX7_open 33 = .ok (.invokevirtual 83, 3) := by decide +kernel
theorem dX7_open_36 : decode cX7_open 36 = .ok (.invokevirtual 130, 3) := by decide +kernel
theorem dX7_open_39 : decode cX7_open 39 = .ok (.return_, 1) := by decide +kernel
theorem dX7_take_0 : decode cX7_take 0 = .ok (.aload_n 0, 1) := by decide +kernel
theorem dX7_take_1 : decode cX7_take 1 = .ok (.invokevirtual 133, 3) := by decide +kernel
theorem dX7_take_4 : decode cX7_take 4 = .ok (.ifCond .ne 11, 3) := by decide +kernel
theorem dX7_take_7 : decode cX7_take 7 = .ok (.new 101, 3) := by decide +kernel
theorem dX7_take_10 : decode cX7_take 10 = .ok (.dup, 1) := by decide +kernel
theorem dX7_take_11 : decode cX7_take 11 = .ok (.invokespecial 103, 3) := by decide +kernel
theorem dX7_take_14 : decode cX7_take 14 = .ok (.athrow, 1) := by decide +kernel
theorem dX7_take_15 : decode cX7_take 15 = .ok (.iload_n 1, 1) := by decide +kernel
theorem dX7_take_16 : decode cX7_take 16 = .ok (.invokestatic 104, 3) := by decide +kernel
theorem dX7_take_19 : decode cX7_take 19 = .ok (.ifCond .ne 11, 3) := by decide +kernel
theorem dX7_take_22 : decode cX7_take 22 = .ok (.new 110, 3) := by decide +kernel
theorem dX7_take_25 : decode cX7_take 25 = .ok (.dup, 1) := by decide +kernel
theorem dX7_take_26 : decode cX7_take 26 = .ok (.invokespecial 112, 3) := by decide +kernel
theorem dX7_take_29 : decode cX7_take 29 = .ok (.athrow, 1) := by decide +kernel
theorem dX7_take_30 : decode cX7_take 30 = .ok (.aload_n 0, 1) := by decide +kernel
theorem dX7_take_31 : decode cX7_take 31 = .ok (.iload_n 1, 1) := by decide +kernel
theorem dX7_take_32 : decode cX7_take 32 = .ok (.invokevirtual 137, 3) := by decide +kernel
theorem dX7_take_35 : decode cX7_take 35 = .ok (.istore_n 2, 1) := by decide +kernel
theorem dX7_take_36 : decode cX7_take 36 = .ok (.iload_n 2, 1) := by decide +kernel
theorem dX7_take_37 : decode cX7_take 37 = .ok (.iconst (-1), 1) := by decide +kernel
theorem dX7_take_38 : decode cX7_take 38 = .ok (.if_icmp .ne 11, 3) := by decide +kernel
theorem dX7_take_41 : decode cX7_take 41 = .ok (.new 66, 3) := by decide +kernel
theorem dX7_take_44 : decode cX7_take 44 = .ok (.dup, 1) := by decide +kernel
theorem dX7_take_45 : decode cX7_take 45 = .ok (.invokespecial 68, 3) := by decide +kernel
theorem dX7_take_48 : decode cX7_take 48 = .ok (.athrow, 1) := by decide +kernel
theorem dX7_take_49 : decode cX7_take 49 = .ok (.iload_n 2, 1) := by decide +kernel
theorem dX7_take_50 : decode cX7_take 50 = .ok (.iconst 1, 1) := by decide +kernel
theorem dX7_take_51 : decode cX7_take 51 = .ok (.if_icmp .ne 7, 3) := by decide +kernel
theorem dX7_take_54 : decode cX7_take 54 = .ok (.iconst 1, 1) := by decide +kernel
theorem dX7_take_55 : decode cX7_take 55 = .ok (.goto 4, 3) := by decide +kernel
theorem dX7_take_58 : decode cX7_take 58 = .ok (.iconst 0, 1) := by decide +kernel
theorem dX7_take_59 : decode cX7_take 59 = .ok (.ireturn, 1) := by decide +kernel
theorem dX7_takeAll_0 : decode cX7_takeAll 0 = .ok (.aload_n 0, 1) := by decide +kernel
theorem dX7_takeAll_1 : decode cX7_takeAll 1 = .ok (.invokevirtual 133, 3) := by decide +kernel
theorem dX7_takeAll_4 : decode cX7_takeAll 4 = .ok (.ifCond .ne 11, 3) := by decide +kernel
theorem dX7_takeAll_7 : decode cX7_takeAll 7 = .ok (.new 101, 3) := by decide +kernel
theorem dX7_takeAll_10 : decode cX7_takeAll 10 = .ok (.dup, 1) := by decide +kernel
theorem dX7_takeAll_11 : decode cX7_takeAll 11 = .ok (.invokespecial 103, 3) := by decide +kernel
theorem dX7_takeAll_14 : decode cX7_takeAll 14 = .ok (.athrow, 1) := by decide +kernel
theorem dX7_takeAll_15 : decode cX7_takeAll 15 = .ok (.iload_n 1, 1) := by decide +kernel
theorem dX7_takeAll_16 : decode cX7_takeAll 16 = .ok (.invokestatic 104, 3) := by decide +kernel
theorem dX7_takeAll_19 : decode cX7_takeAll 19 = .ok (.ifCond .ne 11, 3) := by decide +kernel
theorem dX7_takeAll_22 : decode cX7_takeAll 22 = .ok (.new 110, 3) := by decide +kernel
theorem dX7_takeAll_25 : decode cX7_takeAll 25 = .ok (.dup, 1) := by decide +kernel
theorem dX7_takeAll_26 : decode cX7_takeAll 26 = .ok (.invokespecial 112, 3) := by decide +kernel
theorem dX7_takeAll_29 : decode cX7_takeAll 29 = .ok (.athrow, 1) := by decide +kernel
theorem dX7_takeAll_30 : decode cX7_takeAll 30 = .ok (.iload_n 3, 1) := by decide +kernel
theorem dX7_takeAll_31 : decode cX7_takeAll 31 = .ok (.ifCond .lt 9, 3) := by decide +kernel
theorem dX7_takeAll_34 : decode cX7_takeAll 34 = .ok (.iload_n 3, 1) := by decide +kernel
theorem dX7_takeAll_35 : decode cX7_takeAll 35 = .ok (.bipush 100, 2) := by decide +kernel
theorem dX7_takeAll_37 : decode cX7_takeAll 37 = .ok (.if_icmp .le 11, 3) := by decide +kernel
theorem dX7_takeAll_40 : decode cX7_takeAll 40 = .ok (.new 77, 3) := by decide +kernel
theorem dX7_takeAll_43 : decode cX7_takeAll 43 = .ok (.dup, 1) := by decide +kernel
theorem dX7_takeAll_44 : decode cX7_takeAll 44 = .ok (.invokespecial 79, 3) := by decide +kernel
theorem dX7_takeAll_47 : decode cX7_takeAll 47 = .ok (.athrow, 1) := by decide +kernel
theorem dX7_takeAll_48 : decode cX7_takeAll 48 = .ok (.iconst 0, 1) := by decide +kernel
theorem dX7_takeAll_49 : decode cX7_takeAll 49 = .ok (.istore 4, 2) := by decide +kernel
theorem dX7_takeAll_51 : decode cX7_takeAll 51 = .ok (.iload_n 1, 1) := by decide +kernel
theorem dX7_takeAll_52 : decode cX7_takeAll 52 = .ok (.istore 5, 2) := by decide +kernel
theorem dX7_takeAll_54 : decode cX7_takeAll 54 = .ok (.iconst 0, 1) := by decide +kernel
theorem dX7_takeAll_55 : decode cX7_takeAll 55 = .ok (.istore 6, 2) := by decide +kernel
theorem dX7_takeAll_57 : decode cX7_takeAll 57 = .ok (.iload 6, 2) := by decide +kernel
theorem dX7_takeAll_59 : decode cX7_takeAll 59 = .ok (.iload_n 3, 1) := by decide +kernel
theorem dX7_takeAll_60 : decode cX7_takeAll 60 = .ok (.if_icmp .ge 44, 3) := by decide +kernel
theorem dX7_takeAll_63 : decode cX7_takeAll 63 = .ok (.aload_n 0, 1) := by decide +kernel
theorem dX7_takeAll_64 : decode cX7_takeAll 64 = .ok (.iload 5, 2) := by decide +kernel
theorem dX7_takeAll_66 : decode cX7_takeAll 66 = .ok (.invokevirtual 137, 3) := by decide +kernel
theorem dX7_takeAll_69 : decode cX7_takeAll 69 = .ok (.istore 7, 2) := by decide +kernel
theorem dX7_takeAll_71 : decode cX7_takeAll 71 = .ok (.iload 7, 2) := by decide +kernel
theorem dX7_takeAll_73 : decode cX7_takeAll 73 = .ok (.iconst (-1), 1) := by decide +kernel
theorem dX7_takeAll_74 : decode cX7_takeAll 74 = .ok (.if_icmp .ne 6, 3) := by decide +kernel
theorem dX7_takeAll_77 : decode cX7_takeAll 77 = .ok (.iload 4, 2) := by decide +kernel
theorem dX7_takeAll_79 : decode cX7_takeAll 79 = .ok (.ireturn, 1) := by decide +kernel
theorem dX7_takeAll_80 : decode cX7_takeAll 80 = .ok (.iload 4, 2) := by decide +kernel
theorem dX7_takeAll_82 : decode cX7_takeAll 82 = .ok (.iload 7, 2) := by decide +kernel
theorem dX7_takeAll_84 : decode cX7_takeAll 84 = .ok (.iadd, 1) := by decide +kernel
theorem dX7_takeAll_85 : decode cX7_takeAll 85 = .ok (.istore 4, 2) := by decide +kernel
theorem dX7_takeAll_87 : decode cX7_takeAll 87 = .ok (.iload 5, 2) := by decide +kernel
theorem dX7_takeAll_89 : decode cX7_takeAll 89 = .ok (.iload_n 2, 1) := by decide +kernel
theorem dX7_takeAll_90 : decode cX7_takeAll 90 = .ok (.iadd, 1) := by decide +kernel
theorem dX7_takeAll_91 : decode cX7_takeAll 91 = .ok (.ldc 140, 2) := by decide +kernel
theorem dX7_takeAll_93 : decode cX7_takeAll 93 = .ok (.invokestatic 141, 3) := by decide +kernel
theorem dX7_takeAll_96 : decode cX7_takeAll 96 = .ok (.istore 5, 2) := by decide +kernel
theorem dX7_takeAll_98 : decode cX7_takeAll 98 = .ok (.iinc 6 1, 3) := by decide +kernel
theorem dX7_takeAll_101 : decode cX7_takeAll 101 = .ok (.goto (-44), 3) := by decide +kernel
theorem dX7_takeAll_104 : decode cX7_takeAll 104 = .ok (.iload 4, 2) := by decide +kernel
theorem dX7_takeAll_106 : decode cX7_takeAll 106 = .ok (.ireturn, 1) := by decide +kernel
theorem dX7_give_0 : decode cX7_give 0 = .ok (.aload_n 0, 1) := by decide +kernel
theorem dX7_give_1 : decode cX7_give 1 = .ok (.getfield 58, 3) := by decide +kernel
theorem dX7_give_4 : decode cX7_give 4 = .ok (.getfield 147, 3) := by decide +kernel
theorem dX7_give_7 : decode cX7_give 7 = .ok (.ifCond .ne 11, 3) := by decide +kernel
theorem dX7_give_10 : decode cX7_give 10 = .ok (.new 101, 3) := by decide +kernel
theorem dX7_give_13 : decode cX7_give 13 = .ok (.dup, 1) := by decide +kernel
theorem dX7_give_14 : decode cX7_give 14 = .ok (.invokespecial 103, 3) := by decide +kernel
theorem dX7_give_17 : decode cX7_give 17 = .ok (.athrow, 1) := by decide +kernel
theorem dX7_give_18 : decode cX7_give 18 = .ok (.iload_n 1, 1) := by decide +kernel
theorem dX7_give_19 : decode cX7_give 19 = .ok (.invokestatic 104, 3) := by decide +kernel
theorem dX7_give_22 : decode cX7_give 22 = .ok (.ifCond .ne 11, 3) := by decide +kernel
theorem dX7_give_25 : decode cX7_give 25 = .ok (.new 110, 3) := by decide +kernel
theorem dX7_give_28 : decode cX7_give 28 = .ok (.dup, 1) := by decide +kernel
theorem dX7_give_29 : decode cX7_give 29 = .ok (.invokespecial 112, 3) := by decide +kernel
theorem dX7_give_32 : decode cX7_give 32 = .ok (.athrow, 1) := by decide +kernel
theorem dX7_give_33 : decode cX7_give 33 = .ok (.aload_n 0, 1) := by decide +kernel
theorem dX7_give_34 : decode cX7_give 34 = .ok (.getfield 19, 3) := by decide +kernel
theorem dX7_give_37 : decode cX7_give 37 = .ok (.getfield 73, 3) := by decide +kernel
theorem dX7_give_40 : decode cX7_give 40 = .ok (.aload_n 0, 1) := by decide +kernel
theorem dX7_give_41 : decode cX7_give 41 = .ok (.getfield 58, 3) := by decide +kernel
theorem dX7_give_44 : decode cX7_give 44 = .ok (.getfield 148, 3) := by decide +kernel
theorem dX7_give_47 : decode cX7_give 47 = .ok (.if_icmp .eq 11, 3) := by decide +kernel
theorem dX7_give_50 : decode cX7_give 50 = .ok (.new 77, 3) := by decide +kernel
theorem dX7_give_53 : decode cX7_give 53 = .ok (.dup, 1) := by decide +kernel
theorem dX7_give_54 : decode cX7_give 54 = .ok (.invokespecial 79, 3) := by decide +kernel
theorem dX7_give_57 : decode cX7_give 57 = .ok (.athrow, 1) := by decide +kernel
theorem dX7_give_58 : decode cX7_give 58 = .ok (.aload_n 0, 1) := by decide +kernel
theorem dX7_give_59 : decode cX7_give 59 = .ok (.iload_n 1, 1) := by decide +kernel
theorem dX7_give_60 : decode cX7_give 60 = .ok (.invokevirtual 149, 3) := by decide +kernel
theorem dX7_give_63 : decode cX7_give 63 = .ok (.istore_n 2, 1) := by decide +kernel
theorem dX7_give_64 : decode cX7_give 64 = .ok (.iload_n 2, 1) := by decide +kernel
theorem dX7_give_65 : decode cX7_give 65 = .ok (.iconst (-1), 1) := by decide +kernel
theorem dX7_give_66 : decode cX7_give 66 = .ok (.if_icmp .ne 11, 3) := by decide +kernel
theorem dX7_give_69 : decode cX7_give 69 = .ok (.new 66, 3) := by decide +kernel
theorem dX7_give_72 : decode cX7_give 72 = .ok (.dup, 1) := by decide +kernel
theorem dX7_give_73 : decode cX7_give 73 = .ok (.invokespecial 68, 3) := by decide +kernel
theorem dX7_give_76 : decode cX7_give 76 = .ok (.athrow, 1) := by decide +kernel
theorem dX7_give_77 : decode cX7_give 77 = .ok (.aload_n 0, 1) := by decide +kernel
theorem dX7_give_78 : decode cX7_give 78 = .ok (.getfield 19, 3) := by decide +kernel
theorem dX7_give_81 : decode cX7_give 81 = .ok (.iconst 0, 1) := by decide +kernel
theorem dX7_give_82 : decode cX7_give 82 = .ok (.putfield 73, 3) := by decide +kernel
theorem dX7_give_85 : decode cX7_give 85 = .ok (.iload_n 2, 1) := by decide +kernel
theorem dX7_give_86 : decode cX7_give 86 = .ok (.iconst 1, 1) := by decide +kernel
theorem dX7_give_87 : decode cX7_give 87 = .ok (.if_icmp .ne 7, 3) := by decide +kernel
theorem dX7_give_90 : decode cX7_give 90 = .ok (.iconst 1, 1) := by decide +kernel
theorem dX7_give_91 : decode cX7_give 91 = .ok (.goto 4, 3) := by decide +kernel
theorem dX7_give_94 : decode cX7_give 94 = .ok (.iconst 0, 1) := by decide +kernel
theorem dX7_give_95 : decode cX7_give 95 = .ok (.ireturn, 1) := by decide +kernel
theorem dX7_rank_0 : decode cX7_rank 0 = .ok (.aload_n 0, 1) := by decide +kernel
theorem dX7_rank_1 : decode cX7_rank 1 = .ok (.getfield 58, 3) := by decide +kernel
theorem dX7_rank_4 : decode cX7_rank 4 = .ok (.getfield 147, 3) := by decide +kernel
theorem dX7_rank_7 : decode cX7_rank 7 = .ok (.ifCond .ne 11, 3) := by decide +kernel
theorem dX7_rank_10 : decode cX7_rank 10 = .ok (.new 101, 3) := by decide +kernel
theorem dX7_rank_13 : decode cX7_rank 13 = .ok (.dup, 1) := by decide +kernel
theorem dX7_rank_14 : decode cX7_rank 14 = .ok (.invokespecial 103, 3) := by decide +kernel
theorem dX7_rank_17 : decode cX7_rank 17 = .ok (.athrow, 1) := by decide +kernel
theorem dX7_rank_18 : decode cX7_rank 18 = .ok (.aload_n 0, 1) := by decide +kernel
theorem dX7_rank_19 : decode cX7_rank 19 = .ok (.getfield 58, 3) := by decide +kernel
theorem dX7_rank_22 : decode cX7_rank 22 = .ok (.getfield 152, 3) := by decide +kernel
theorem dX7_rank_25 : decode cX7_rank 25 = .ok (.getfield 155, 3) := by decide +kernel
theorem dX7_rank_28 : decode cX7_rank 28 = .ok (.ireturn, 1) := by decide +kernel
theorem dX7_follows_0 : decode cX7_follows 0 = .ok (.aload_n 0, 1) := by decide +kernel
theorem dX7_follows_1 : decode cX7_follows 1 = .ok (.getfield 58, 3) := by decide +kernel
theorem dX7_follows_4 : decode cX7_follows 4 = .ok (.getfield 147, 3) := by decide +kernel
theorem dX7_follows_7 : decode cX7_follows 7 = .ok (.ifCond .ne 11, 3) := by decide +kernel
theorem dX7_follows_10 : decode cX7_follows 10 = .ok (.new 101, 3) := by decide +kernel
theorem dX7_follows_13 : decode cX7_follows 13 = .ok (.dup, 1) := by decide +kernel
theorem dX7_follows_14 : decode cX7_follows 14 = .ok (.invokespecial 103, 3) := by decide +kernel
theorem dX7_follows_17 : decode cX7_follows 17 = .ok (.athrow, 1) := by decide +kernel
theorem dX7_follows_18 : decode cX7_follows 18 = .ok (.iload_n 1, 1) := by decide +kernel
theorem dX7_follows_19 : decode cX7_follows 19 = .ok (.invokestatic 104, 3) := by decide +kernel
theorem dX7_follows_22 : decode cX7_follows 22 = .ok (.ifCond .ne 11, 3) := by decide +kernel
theorem dX7_follows_25 : decode cX7_follows 25 = .ok (.new 110, 3) := by decide +kernel
theorem dX7_follows_28 : decode cX7_follows 28 = .ok (.dup, 1) := by decide +kernel
theorem dX7_follows_29 : decode cX7_follows 29 = .ok (.invokespecial 112, 3) := by decide +kernel
theorem dX7_follows_32 : decode cX7_follows 32 = .ok (.athrow, 1) := by decide +kernel
theorem dX7_follows_33 : decode cX7_follows 33 = .ok (.aload_n 0, 1) := by decide +kernel
theorem dX7_follows_34 : decode cX7_follows 34 = .ok (.iload_n 1, 1) := by decide +kernel
theorem dX7_follows_35 : decode cX7_follows 35 = .ok (.invokevirtual 158, 3) := by decide +kernel
theorem dX7_follows_38 : decode cX7_follows 38 = .ok (.ireturn, 1) := by decide +kernel
theorem dX7_known_0 : decode cX7_known 0 = .ok (.aload_n 0, 1) := by decide +kernel
theorem dX7_known_1 : decode cX7_known 1 = .ok (.getfield 58, 3) := by decide +kernel
theorem dX7_known_4 : decode cX7_known 4 = .ok (.getfield 147, 3) := by decide +kernel
theorem dX7_known_7 : decode cX7_known 7 = .ok (.ifCond .ne 11, 3) := by decide +kernel
theorem dX7_known_10 : decode cX7_known 10 = .ok (.new 101, 3) := by decide +kernel
theorem dX7_known_13 : decode cX7_known 13 = .ok (.dup, 1) := by decide +kernel
theorem dX7_known_14 : decode cX7_known 14 = .ok (.invokespecial 103, 3) := by decide +kernel
theorem dX7_known_17 : decode cX7_known 17 = .ok (.athrow, 1) := by decide +kernel
theorem dX7_known_18 : decode cX7_known 18 = .ok (.iload_n 1, 1) := by decide +kernel
theorem dX7_known_19 : decode cX7_known 19 = .ok (.invokestatic 104, 3) := by decide +kernel
theorem dX7_known_22 : decode cX7_known 22 = .ok (.ifCond .ne 11, 3) := by decide +kernel
theorem dX7_known_25 : decode cX7_known 25 = .ok (.new 110, 3) := by decide +kernel
theorem dX7_known_28 : decode cX7_known 28 = .ok (.dup, 1) := by decide +kernel
theorem dX7_known_29 : decode cX7_known 29 = .ok (.invokespecial 112, 3) := by decide +kernel
theorem dX7_known_32 : decode cX7_known 32 = .ok (.athrow, 1) := by decide +kernel
theorem dX7_known_33 : decode cX7_known 33 = .ok (.aload_n 0, 1) := by decide +kernel
theorem dX7_known_34 : decode cX7_known 34 = .ok (.iload_n 1, 1) := by decide +kernel
theorem dX7_known_35 : decode cX7_known 35 = .ok (.invokevirtual 158, 3) := by decide +kernel
theorem dX7_known_38 : decode cX7_known 38 = .ok (.ifCond .ne 11, 3) := by decide +kernel
theorem dX7_known_41 : decode cX7_known 41 = .ok (.new 101, 3) := by decide +kernel
theorem dX7_known_44 : decode cX7_known 44 = .ok (.dup, 1) := by decide +kernel
theorem dX7_known_45 : decode cX7_known 45 = .ok (.invokespecial 103, 3) := by decide +kernel
theorem dX7_known_48 : decode cX7_known 48 = .ok (.athrow, 1) := by decide +kernel
theorem dX7_known_49 : decode cX7_known 49 = .ok (.iload_n 2, 1) := by decide +kernel
theorem dX7_known_50 : decode cX7_known 50 = .ok (.ifCond .lt 14, 3) := by decide +kernel
theorem dX7_known_53 : decode cX7_known 53 = .ok (.iload_n 2, 1) := by decide +kernel
theorem dX7_known_54 : decode cX7_known 54 = .ok (.aload_n 0, 1) := by decide +kernel
theorem dX7_known_55 : decode cX7_known 55 = .ok (.getfield 58, 3) := by decide +kernel
theorem dX7_known_58 : decode cX7_known 58 = .ok (.getfield 148, 3) := by decide +kernel
theorem dX7_known_61 : decode cX7_known 61 = .ok (.if_icmp .lt 11, 3) := by decide +kernel
theorem dX7_known_64 : decode cX7_known 64 = .ok (.new 110, 3) := by decide +kernel
theorem dX7_known_67 : decode cX7_known 67 = .ok (.dup, 1) := by decide +kernel
theorem dX7_known_68 : decode cX7_known 68 = .ok (.invokespecial 112, 3) := by decide +kernel
theorem dX7_known_71 : decode cX7_known 71 = .ok (.athrow, 1) := by decide +kernel
theorem dX7_known_72 : decode cX7_known 72 = .ok (.aload_n 0, 1) := by decide +kernel
theorem dX7_known_73 : decode cX7_known 73 = .ok (.getfield 58, 3) := by decide +kernel
theorem dX7_known_76 : decode cX7_known 76 = .ok (.getfield 152, 3) := by decide +kernel
theorem dX7_known_79 : decode cX7_known 79 = .ok (.iload_n 2, 1) := by decide +kernel
theorem dX7_known_80 : decode cX7_known 80 = .ok (.invokevirtual 161, 3) := by decide +kernel
theorem dX7_known_83 : decode cX7_known 83 = .ok (.ireturn, 1) := by decide +kernel
theorem dX7_product_0 : decode cX7_product 0 = .ok (.aload_n 0, 1) := by decide +kernel
theorem dX7_product_1 : decode cX7_product 1 = .ok (.getfield 12, 3) := by decide +kernel
theorem dX7_product_4 : decode cX7_product 4 = .ok (.iload_n 1, 1) := by decide +kernel
theorem dX7_product_5 : decode cX7_product 5 = .ok (.sipush 255, 3) := by decide +kernel
theorem dX7_product_8 : decode cX7_product 8 = .ok (.iand, 1) := by decide +kernel
theorem dX7_product_9 : decode cX7_product 9 = .ok (.iload_n 2, 1) := by decide +kernel
theorem dX7_product_10 : decode cX7_product 10 = .ok (.sipush 255, 3) := by decide +kernel
theorem dX7_product_13 : decode cX7_product 13 = .ok (.iand, 1) := by decide +kernel
theorem dX7_product_14 : decode cX7_product 14 = .ok (.invokevirtual 164, 3) := by decide +kernel
theorem dX7_product_17 : decode cX7_product 17 = .ok (.ireturn, 1) := by decide +kernel
theorem dX7_count_0 : decode cX7_count 0 = .ok (.iload_n 1, 1) := by decide +kernel
theorem dX7_count_1 : decode cX7_count 1 = .ok (.tableswitch 96 0 6 #[43, 51, 59, 67, 75, 83, 91], 43) := by decide +kernel
theorem dX7_count_44 : decode cX7_count 44 = .ok (.aload_n 0, 1) := by decide +kernel
theorem dX7_count_45 : decode cX7_count 45 = .ok (.getfield 19, 3) := by decide +kernel
theorem dX7_count_48 : decode cX7_count 48 = .ok (.getfield 73, 3) := by decide +kernel
theorem dX7_count_51 : decode cX7_count 51 = .ok (.ireturn, 1) := by decide +kernel
theorem dX7_count_52 : decode cX7_count 52 = .ok (.aload_n 0, 1) := by decide +kernel
theorem dX7_count_53 : decode cX7_count 53 = .ok (.getfield 51, 3) := by decide +kernel
theorem dX7_count_56 : decode cX7_count 56 = .ok (.getfield 98, 3) := by decide +kernel
theorem dX7_count_59 : decode cX7_count 59 = .ok (.ireturn, 1) := by decide +kernel
theorem dX7_count_60 : decode cX7_count 60 = .ok (.aload_n 0, 1) := by decide +kernel
theorem dX7_count_61 : decode cX7_count 61 = .ok (.getfield 51, 3) := by decide +kernel
theorem dX7_count_64 : decode cX7_count 64 = .ok (.getfield 107, 3) := by decide +kernel
theorem dX7_count_67 : decode cX7_count 67 = .ok (.ireturn, 1) := by decide +kernel
theorem dX7_count_68 : decode cX7_count 68 = .ok (.aload_n 0, 1) := by decide +kernel
theorem dX7_count_69 : decode cX7_count 69 = .ok (.getfield 58, 3) := by decide +kernel
theorem dX7_count_72 : decode cX7_count 72 = .ok (.getfield 147, 3) := by decide +kernel
theorem dX7_count_75 : decode cX7_count 75 = .ok (.ireturn, 1) := by decide +kernel
theorem dX7_count_76 : decode cX7_count 76 = .ok (.aload_n 0, 1) := by decide +kernel
theorem dX7_count_77 : decode cX7_count 77 = .ok (.getfield 58, 3) := by decide +kernel
theorem dX7_count_80 : decode cX7_count 80 = .ok (.getfield 148, 3) := by decide +kernel
theorem dX7_count_83 : decode cX7_count 83 = .ok (.ireturn, 1) := by decide +kernel
theorem dX7_count_84 : decode cX7_count 84 = .ok (.aload_n 0, 1) := by decide +kernel
theorem dX7_count_85 : decode cX7_count 85 = .ok (.getfield 58, 3) := by decide +kernel
theorem dX7_count_88 : decode cX7_count 88 = .ok (.getfield 167, 3) := by decide +kernel
theorem dX7_count_91 : decode cX7_count 91 = .ok (.ireturn, 1) := by decide +kernel
theorem dX7_count_92 : decode cX7_count 92 = .ok (.aload_n 0, 1) := by decide +kernel
theorem dX7_count_93 : decode cX7_count 93 = .ok (.invokevirtual 170, 3) := by decide +kernel
theorem dX7_count_96 : decode cX7_count 96 = .ok (.ireturn, 1) := by decide +kernel
theorem dX7_count_97 : decode cX7_count 97 = .ok (.new 77, 3) := by decide +kernel
theorem dX7_count_100 : decode cX7_count 100 = .ok (.dup, 1) := by decide +kernel
theorem dX7_count_101 : decode cX7_count 101 = .ok (.invokespecial 79, 3) := by decide +kernel
theorem dX7_count_104 : decode cX7_count 104 = .ok (.athrow, 1) := by decide +kernel
theorem dX7_isSymbolCount_0 : decode cX7_isSymbolCount 0 = .ok (.iload_n 0, 1) := by decide +kernel
theorem dX7_isSymbolCount_1 : decode cX7_isSymbolCount 1 = .ok (.iconst 1, 1) := by decide +kernel
theorem dX7_isSymbolCount_2 : decode cX7_isSymbolCount 2 = .ok (.if_icmp .lt 13, 3) := by decide +kernel
theorem dX7_isSymbolCount_5 : decode cX7_isSymbolCount 5 = .ok (.iload_n 0, 1) := by decide +kernel
theorem dX7_isSymbolCount_6 : decode cX7_isSymbolCount 6 = .ok (.bipush 48, 2) := by decide +kernel
theorem dX7_isSymbolCount_8 : decode cX7_isSymbolCount 8 = .ok (.if_icmp .gt 7, 3) := by decide +kernel
theorem dX7_isSymbolCount_11 : decode cX7_isSymbolCount 11 = .ok (.iconst 1, 1) := by decide +kernel
theorem dX7_isSymbolCount_12 : decode cX7_isSymbolCount 12 = .ok (.goto 4, 3) := by decide +kernel
theorem dX7_isSymbolCount_15 : decode cX7_isSymbolCount 15 = .ok (.iconst 0, 1) := by decide +kernel
theorem dX7_isSymbolCount_16 : decode cX7_isSymbolCount 16 = .ok (.ireturn, 1) := by decide +kernel
theorem dX7_isByteCount_0 : decode cX7_isByteCount 0 = .ok (.iload_n 0, 1) := by decide +kernel
theorem dX7_isByteCount_1 : decode cX7_isByteCount 1 = .ok (.iconst 1, 1) := by decide +kernel
theorem dX7_isByteCount_2 : decode cX7_isByteCount 2 = .ok (.if_icmp .lt 13, 3) := by decide +kernel
theorem dX7_isByteCount_5 : decode cX7_isByteCount 5 = .ok (.iload_n 0, 1) := by decide +kernel
theorem dX7_isByteCount_6 : decode cX7_isByteCount 6 = .ok (.bipush 16, 2) := by decide +kernel
theorem dX7_isByteCount_8 : decode cX7_isByteCount 8 = .ok (.if_icmp .gt 7, 3) := by decide +kernel
theorem dX7_isByteCount_11 : decode cX7_isByteCount 11 = .ok (.iconst 1, 1) := by decide +kernel
theorem dX7_isByteCount_12 : decode cX7_isByteCount 12 = .ok (.goto 4, 3) := by decide +kernel
theorem dX7_isByteCount_15 : decode cX7_isByteCount 15 = .ok (.iconst 0, 1) := by decide +kernel
theorem dX7_isByteCount_16 : decode cX7_isByteCount 16 = .ok (.ireturn, 1) := by decide +kernel
theorem dX7_isPacket_0 : decode cX7_isPacket 0 = .ok (.iload_n 0, 1) := by decide +kernel
theorem dX7_isPacket_1 : decode cX7_isPacket 1 = .ok (.ifCond .lt 13, 3) := by decide +kernel
theorem dX7_isPacket_4 : decode cX7_isPacket 4 = .ok (.iload_n 0, 1) := by decide +kernel
theorem dX7_isPacket_5 : decode cX7_isPacket 5 = .ok (.ldc 140, 2) := by decide +kernel
theorem dX7_isPacket_7 : decode cX7_isPacket 7 = .ok (.if_icmp .ge 7, 3) := by decide +kernel
theorem dX7_isPacket_10 : decode cX7_isPacket 10 = .ok (.iconst 1, 1) := by decide +kernel
theorem dX7_isPacket_11 : decode cX7_isPacket 11 = .ok (.goto 4, 3) := by decide +kernel
theorem dX7_isPacket_14 : decode cX7_isPacket 14 = .ok (.iconst 0, 1) := by decide +kernel
theorem dX7_isPacket_15 : decode cX7_isPacket 15 = .ok (.ireturn, 1) := by decide +kernel
theorem dX7_blockFitsCatcher_0 : decode cX7_blockFitsCatcher 0 = .ok (.aload_n 0, 1) := by decide +kernel
theorem dX7_blockFitsCatcher_1 : decode cX7_blockFitsCatcher 1 = .ok (.getfield 51, 3) := by decide +kernel
theorem dX7_blockFitsCatcher_4 : decode cX7_blockFitsCatcher 4 = .ok (.getfield 98, 3) := by decide +kernel
theorem dX7_blockFitsCatcher_7 : decode cX7_blockFitsCatcher 7 = .ok (.ifCond .eq 41, 3) := by decide +kernel
theorem dX7_blockFitsCatcher_10 : decode cX7_blockFitsCatcher 10 = .ok (.aload_n 0, 1) := by decide +kernel
theorem dX7_blockFitsCatcher_11 : decode cX7_blockFitsCatcher 11 = .ok (.getfield 51, 3) := by decide +kernel
theorem dX7_blockFitsCatcher_14 : decode cX7_blockFitsCatcher 14 = .ok (.getfield 98, 3) := by decide +kernel
theorem dX7_blockFitsCatcher_17 : decode cX7_blockFitsCatcher 17 = .ok (.aload_n 0, 1) := by decide +kernel
theorem dX7_blockFitsCatcher_18 : decode cX7_blockFitsCatcher 18 = .ok (.getfield 58, 3) := by decide +kernel
theorem dX7_blockFitsCatcher_21 : decode cX7_blockFitsCatcher 21 = .ok (.getfield 147, 3) := by decide +kernel
theorem dX7_blockFitsCatcher_24 : decode cX7_blockFitsCatcher 24 = .ok (.if_icmp .ne 24, 3) := by decide +kernel
theorem dX7_blockFitsCatcher_27 : decode cX7_blockFitsCatcher 27 = .ok (.aload_n 0, 1) := by decide +kernel
theorem dX7_blockFitsCatcher_28 : decode cX7_blockFitsCatcher 28 = .ok (.getfield 51, 3) := by decide +kernel
theorem dX7_blockFitsCatcher_31 : decode cX7_blockFitsCatcher 31 = .ok (.getfield 107, 3) := by decide +kernel
theorem dX7_blockFitsCatcher_34 : decode cX7_blockFitsCatcher 34 = .ok (.aload_n 0, 1) := by decide +kernel
theorem dX7_blockFitsCatcher_35 : decode cX7_blockFitsCatcher 35 = .ok (.getfield 58, 3) := by decide +kernel
theorem dX7_blockFitsCatcher_38 : decode cX7_blockFitsCatcher 38 = .ok (.getfield 148, 3) := by decide +kernel
theorem dX7_blockFitsCatcher_41 : decode cX7_blockFitsCatcher 41 = .ok (.if_icmp .ne 7, 3) := by decide +kernel
theorem dX7_blockFitsCatcher_44 : decode cX7_blockFitsCatcher 44 = .ok (.iconst 1, 1) := by decide +kernel
theorem dX7_blockFitsCatcher_45 : decode cX7_blockFitsCatcher 45 = .ok (.goto 4, 3) := by decide +kernel
theorem dX7_blockFitsCatcher_48 : decode cX7_blockFitsCatcher 48 = .ok (.iconst 0, 1) := by decide +kernel
theorem dX7_blockFitsCatcher_49 : decode cX7_blockFitsCatcher 49 = .ok (.ireturn, 1) := by decide +kernel
theorem dX7_solveTape_0 : decode cX7_solveTape 0 = .ok (.aload_n 0, 1) := by decide +kernel
theorem dX7_solveTape_1 : decode cX7_solveTape 1 = .ok (.getfield 35, 3) := by decide +kernel
theorem dX7_solveTape_4 : decode cX7_solveTape 4 = .ok (.iload_n 1, 1) := by decide +kernel
theorem dX7_solveTape_5 : decode cX7_solveTape 5 = .ok (.iload_n 2, 1) := by decide +kernel
theorem dX7_solveTape_6 : decode cX7_solveTape 6 = .ok (.invokevirtual 173, 3) := by decide +kernel
theorem dX7_solveTape_9 : decode cX7_solveTape 9 = .ok (.iconst 0, 1) := by decide +kernel
theorem dX7_solveTape_10 : decode cX7_solveTape 10 = .ok (.istore 4, 2) := by decide +kernel
theorem dX7_solveTape_12 : decode cX7_solveTape 12 = .ok (.iload 4, 2) := by decide +kernel
theorem dX7_solveTape_14 : decode cX7_solveTape 14 = .ok (.iload_n 1, 1) := by decide +kernel
theorem dX7_solveTape_15 : decode cX7_solveTape 15 = .ok (.if_icmp .ge 78, 3) := by decide +kernel
theorem dX7_solveTape_18 : decode cX7_solveTape 18 = .ok (.aload_n 0, 1) := by decide +kernel
theorem dX7_solveTape_19 : decode cX7_solveTape 19 = .ok (.getfield 26, 3) := by decide +kernel
theorem dX7_solveTape_22 : decode cX7_solveTape 22 = .ok (.iload_n 1, 1) := by decide +kernel
theorem dX7_solveTape_23 : decode cX7_solveTape 23 = .ok (.iload 4, 2) := by decide +kernel
theorem dX7_solveTape_25 : decode cX7_solveTape 25 = .ok (.iload_n 3, 1) := by decide +kernel
theorem dX7_solveTape_26 : decode cX7_solveTape 26 = .ok (.invokevirtual 116, 3) := by decide +kernel
theorem dX7_solveTape_29 : decode cX7_solveTape 29 = .ok (.aload_n 0, 1) := by decide +kernel
theorem dX7_solveTape_30 : decode cX7_solveTape 30 = .ok (.getfield 35, 3) := by decide +kernel
theorem dX7_solveTape_33 : decode cX7_solveTape 33 = .ok (.aload_n 0, 1) := by decide +kernel
theorem dX7_solveTape_34 : decode cX7_solveTape 34 = .ok (.getfield 26, 3) := by decide +kernel
theorem dX7_solveTape_37 : decode cX7_solveTape 37 = .ok (.invokevirtual 177, 3) := by decide +kernel
theorem dX7_solveTape_40 : decode cX7_solveTape 40 = .ok (.iconst 0, 1) := by decide +kernel
theorem dX7_solveTape_41 : decode cX7_solveTape 41 = .ok (.istore 5, 2) := by decide +kernel
theorem dX7_solveTape_43 : decode cX7_solveTape 43 = .ok (.iload 5, 2) := by decide +kernel
theorem dX7_solveTape_45 : decode cX7_solveTape 45 = .ok (.iload_n 2, 1) := by decide +kernel
theorem dX7_solveTape_46 : decode cX7_solveTape 46 = .ok (.if_icmp .ge 33, 3) := by decide +kernel
theorem dX7_solveTape_49 : decode cX7_solveTape 49 = .ok (.aload_n 0, 1) := by decide +kernel
theorem dX7_solveTape_50 : decode cX7_solveTape 50 = .ok (.getfield 35, 3) := by decide +kernel
theorem dX7_solveTape_53 : decode cX7_solveTape 53 = .ok (.iload 5, 2) := by decide +kernel
theorem dX7_solveTape_55 : decode cX7_solveTape 55 = .ok (.aload_n 0, 1) := by decide +kernel
theorem dX7_solveTape_56 : decode cX7_solveTape 56 = .ok (.getfield 19, 3) := by decide +kernel
theorem dX7_solveTape_59 : decode cX7_solveTape 59 = .ok (.getfield 181, 3) := by decide +kernel
theorem dX7_solveTape_62 : decode cX7_solveTape 62 = .ok (.iload 4, 2) := by decide +kernel
theorem dX7_solveTape_64 : decode cX7_solveTape 64 = .ok (.iload_n 2, 1) := by decide +kernel
theorem dX7_solveTape_65 : decode cX7_solveTape 65 = .ok (.imul, 1) := by decide +kernel
theorem dX7_solveTape_66 : decode cX7_solveTape 66 = .ok (.iload 5, 2) := by decide +kernel
theorem dX7_solveTape_68 : decode cX7_solveTape 68 = .ok (.iadd, 1) := by decide +kernel
theorem dX7_solveTape_69 : decode cX7_solveTape 69 = .ok (.iaload, 1) := by decide +kernel
theorem dX7_solveTape_70 : decode cX7_solveTape 70 = .ok (.invokevirtual 185, 3) := by decide +kernel
theorem dX7_solveTape_73 : decode cX7_solveTape 73 = .ok (.iinc 5 1, 3) := by decide +kernel
theorem dX7_solveTape_76 : decode cX7_solveTape 76 = .ok (.goto (-33), 3) := by decide +kernel
theorem dX7_solveTape_79 : decode cX7_solveTape 79 = .ok (.aload_n 0, 1) := by decide +kernel
theorem dX7_solveTape_80 : decode cX7_solveTape 80 = .ok (.getfield 35, 3) := by decide +kernel
theorem dX7_solveTape_83 : decode cX7_solveTape 83 = .ok (.invokevirtual 188, 3) := by decide +kernel
theorem dX7_solveTape_86 : decode cX7_solveTape 86 = .ok (.pop, 1) := by decide +kernel
theorem dX7_solveTape_87 : decode cX7_solveTape 87 = .ok (.iinc 4 1, 3) := by decide +kernel
theorem dX7_solveTape_90 : decode cX7_solveTape 90 = .ok (.goto (-78), 3) := by decide +kernel
theorem dX7_solveTape_93 : decode cX7_solveTape 93 = .ok (.return_, 1) := by decide +kernel
theorem dX7_catchFromBlock_0 : decode cX7_catchFromBlock 0 = .ok (.aload_n 0, 1) := by decide +kernel
theorem dX7_catchFromBlock_1 : decode cX7_catchFromBlock 1 = .ok (.getfield 26, 3) := by decide +kernel
theorem dX7_catchFromBlock_4 : decode cX7_catchFromBlock 4 = .ok (.aload_n 0, 1) := by decide +kernel
theorem dX7_catchFromBlock_5 : decode cX7_catchFromBlock 5 = .ok (.getfield 58, 3) := by decide +kernel
theorem dX7_catchFromBlock_8 : decode cX7_catchFromBlock 8 = .ok (.getfield 147, 3) := by decide +kernel
theorem dX7_catchFromBlock_11 : decode cX7_catchFromBlock 11 = .ok (.iload_n 1, 1) := by decide +kernel
theorem dX7_catchFromBlock_12 : decode cX7_catchFromBlock 12 = .ok (.aload_n 0, 1) := by decide +kernel
theorem dX7_catchFromBlock_13 : decode cX7_catchFromBlock 13 = .ok (.getfield 58, 3) := by decide +kernel
theorem dX7_catchFromBlock_16 : decode cX7_catchFromBlock 16 = .ok (.getfield 191, 3) := by decide +kernel
theorem dX7_catchFromBlock_19 : decode cX7_catchFromBlock 19 = .ok (.invokevirtual 116, 3) := by decide +kernel
theorem dX7_catchFromBlock_22 : decode cX7_catchFromBlock 22 = .ok (.aload_n 0, 1) := by decide +kernel
theorem dX7_catchFromBlock_23 : decode cX7_catchFromBlock 23 = .ok (.getfield 58, 3) := by decide +kernel
theorem dX7_catchFromBlock_26 : decode cX7_catchFromBlock 26 = .ok (.getfield 152, 3) := by decide +kernel
theorem dX7_catchFromBlock_29 : decode cX7_catchFromBlock 29 = .ok (.aload_n 0, 1) := by decide +kernel
theorem dX7_catchFromBlock_30 : decode cX7_catchFromBlock 30 = .ok (.getfield 26, 3) := by decide +kernel
theorem dX7_catchFromBlock_33 : decode cX7_catchFromBlock 33 = .ok (.invokevirtual 177, 3) := by decide +kernel
theorem dX7_catchFromBlock_36 : decode cX7_catchFromBlock 36 = .ok (.iconst 0, 1) := by decide +kernel
theorem dX7_catchFromBlock_37 : decode cX7_catchFromBlock 37 = .ok (.istore_n 2, 1) := by decide +kernel
theorem dX7_catchFromBlock_38 : decode cX7_catchFromBlock 38 = .ok (.iload_n 2, 1) := by decide +kernel
theorem dX7_catchFromBlock_39 : decode cX7_catchFromBlock 39 = .ok (.aload_n 0, 1) := by decide +kernel
theorem dX7_catchFromBlock_40 : decode cX7_catchFromBlock 40 = .ok (.getfield 58, 3) := by decide +kernel
theorem dX7_catchFromBlock_43 : decode cX7_catchFromBlock 43 = .ok (.getfield 148, 3) := by decide +kernel
theorem dX7_catchFromBlock_46 : decode cX7_catchFromBlock 46 = .ok (.if_icmp .ge 32, 3) := by decide +kernel
theorem dX7_catchFromBlock_49 : decode cX7_catchFromBlock 49 = .ok (.aload_n 0, 1) := by decide +kernel
theorem dX7_catchFromBlock_50 : decode cX7_catchFromBlock 50 = .ok (.getfield 58, 3) := by decide +kernel
theorem dX7_catchFromBlock_53 : decode cX7_catchFromBlock 53 = .ok (.getfield 152, 3) := by decide +kernel
theorem dX7_catchFromBlock_56 : decode cX7_catchFromBlock 56 = .ok (.iload_n 2, 1) := by decide +kernel
theorem dX7_catchFromBlock_57 : decode cX7_catchFromBlock 57 = .ok (.aload_n 0, 1) := by decide +kernel
theorem dX7_catchFromBlock_58 : decode cX7_catchFromBlock 58 = .ok (.getfield 51, 3) := by decide +kernel
theorem dX7_catchFromBlock_61 : decode cX7_catchFromBlock 61 = .ok (.aload_n 0, 1) := by decide +kernel
theorem dX7_catchFromBlock_62 : decode cX7_catchFromBlock 62 = .ok (.getfield 26, 3) := by decide +kernel
theorem dX7_catchFromBlock_65 : decode cX7_catchFromBlock 65 = .ok (.iload_n 2, 1) := by decide +kernel
theorem dX7_catchFromBlock_66 : decode cX7_catchFromBlock 66 = .ok (.invokevirtual 119, 3) := by decide +kernel
theorem dX7_catchFromBlock_69 : decode cX7_catchFromBlock 69 = .ok (.invokevirtual 185, 3) := by decide +kernel
theorem dX7_catchFromBlock_72 : decode cX7_catchFromBlock 72 = .ok (.iinc 2 1, 3) := by decide +kernel
theorem dX7_catchFromBlock_75 : decode cX7_catchFromBlock 75 = .ok (.goto (-37), 3) := by decide +kernel
theorem dX7_catchFromBlock_78 : decode cX7_catchFromBlock 78 = .ok (.aload_n 0, 1) := by decide +kernel
theorem dX7_catchFromBlock_79 : decode cX7_catchFromBlock 79 = .ok (.getfield 58, 3) := by decide +kernel
theorem dX7_catchFromBlock_82 : decode cX7_catchFromBlock 82 = .ok (.invokevirtual 192, 3) := by decide +kernel
theorem dX7_catchFromBlock_85 : decode cX7_catchFromBlock 85 = .ok (.ireturn, 1) := by decide +kernel
theorem dX7_catchFromTape_0 : decode cX7_catchFromTape 0 = .ok (.aload_n 0, 1) := by decide +kernel
theorem dX7_catchFromTape_1 : decode cX7_catchFromTape 1 = .ok (.getfield 26, 3) := by decide +kernel
theorem dX7_catchFromTape_4 : decode cX7_catchFromTape 4 = .ok (.aload_n 0, 1) := by decide +kernel
theorem dX7_catchFromTape_5 : decode cX7_catchFromTape 5 = .ok (.getfield 58, 3) := by decide +kernel
theorem dX7_catchFromTape_8 : decode cX7_catchFromTape 8 = .ok (.getfield 147, 3) := by decide +kernel
theorem dX7_catchFromTape_11 : decode cX7_catchFromTape 11 = .ok (.iload_n 1, 1) := by decide +kernel
theorem dX7_catchFromTape_12 : decode cX7_catchFromTape 12 = .ok (.aload_n 0, 1) := by decide +kernel
theorem dX7_catchFromTape_13 : decode cX7_catchFromTape 13 = .ok (.getfield 58, 3) := by decide +kernel
theorem dX7_catchFromTape_16 : decode cX7_catchFromTape 16 = .ok (.getfield 191, 3) := by decide +kernel
theorem dX7_catchFromTape_19 : decode cX7_catchFromTape 19 = .ok (.invokevirtual 116, 3) := by decide +kernel
theorem dX7_catchFromTape_22 : decode cX7_catchFromTape 22 = .ok (.aload_n 0, 1) := by decide +kernel
theorem dX7_catchFromTape_23 : decode cX7_catchFromTape 23 = .ok (.getfield 58, 3) := by decide +kernel
theorem dX7_catchFromTape_26 : decode cX7_catchFromTape 26 = .ok (.getfield 152, 3) := by decide +kernel
theorem dX7_catchFromTape_29 : decode cX7_catchFromTape 29 = .ok (.aload_n 0, 1) := by decide +kernel
theorem dX7_catchFromTape_30 : decode cX7_catchFromTape 30 = .ok (.getfield 26, 3) := by decide +kernel
theorem dX7_catchFromTape_33 : decode cX7_catchFromTape 33 = .ok (.invokevirtual 177, 3) := by decide +kernel
theorem dX7_catchFromTape_36 : decode cX7_catchFromTape 36 = .ok (.iconst 0, 1) := by decide +kernel
theorem dX7_catchFromTape_37 : decode cX7_catchFromTape 37 = .ok (.istore_n 2, 1) := by decide +kernel
theorem dX7_catchFromTape_38 : decode cX7_catchFromTape 38 = .ok (.iload_n 2, 1) := by decide +kernel
theorem dX7_catchFromTape_39 : decode cX7_catchFromTape 39 = .ok (.aload_n 0, 1) := by decide +kernel
theorem dX7_catchFromTape_40 : decode cX7_catchFromTape 40 = .ok (.getfield 58, 3) := by decide +kernel
theorem dX7_catchFromTape_43 : decode cX7_catchFromTape 43 = .ok (.getfield 148, 3) := by decide +kernel
theorem dX7_catchFromTape_46 : decode cX7_catchFromTape 46 = .ok (.if_icmp .ge 29, 3) := by decide +kernel
theorem dX7_catchFromTape_49 : decode cX7_catchFromTape 49 = .ok (.aload_n 0, 1) := by decide +kernel
theorem dX7_catchFromTape_50 : decode cX7_catchFromTape 50 = .ok (.getfield 58, 3) := by decide +kernel
theorem dX7_catchFromTape_53 : decode cX7_catchFromTape 53 = .ok (.getfield 152, 3) := by decide +kernel
theorem dX7_catchFromTape_56 : decode cX7_catchFromTape 56 = .ok (.iload_n 2, 1) := by decide +kernel
theorem dX7_catchFromTape_57 : decode cX7_catchFromTape 57 = .ok (.aload_n 0, 1) := by decide +kernel
theorem dX7_catchFromTape_58 : decode cX7_catchFromTape 58 = .ok (.getfield 19, 3) := by decide +kernel
theorem dX7_catchFromTape_61 : decode cX7_catchFromTape 61 = .ok (.getfield 181, 3) := by decide +kernel
theorem dX7_catchFromTape_64 : decode cX7_catchFromTape 64 = .ok (.iload_n 2, 1) := by decide +kernel
theorem dX7_catchFromTape_65 : decode cX7_catchFromTape 65 = .ok (.iaload, 1) := by decide +kernel
theorem dX7_catchFromTape_66 : decode cX7_catchFromTape 66 = .ok (.invokevirtual 185, 3) := by decide +kernel
theorem dX7_catchFromTape_69 : decode cX7_catchFromTape 69 = .ok (.iinc 2 1, 3) := by decide +kernel
theorem dX7_catchFromTape_72 : decode cX7_catchFromTape 72 = .ok (.goto (-34), 3) := by decide +kernel
theorem dX7_catchFromTape_75 : decode cX7_catchFromTape 75 = .ok (.aload_n 0, 1) := by decide +kernel
theorem dX7_catchFromTape_76 : decode cX7_catchFromTape 76 = .ok (.getfield 58, 3) := by decide +kernel
theorem dX7_catchFromTape_79 : decode cX7_catchFromTape 79 = .ok (.invokevirtual 192, 3) := by decide +kernel
theorem dX7_catchFromTape_82 : decode cX7_catchFromTape 82 = .ok (.ireturn, 1) := by decide +kernel
theorem dX7_catcherDerives_0 : decode cX7_catcherDerives 0 = .ok (.aload_n 0, 1) := by decide +kernel
theorem dX7_catcherDerives_1 : decode cX7_catcherDerives 1 = .ok (.getfield 26, 3) := by decide +kernel
theorem dX7_catcherDerives_4 : decode cX7_catcherDerives 4 = .ok (.aload_n 0, 1) := by decide +kernel
theorem dX7_catcherDerives_5 : decode cX7_catcherDerives 5 = .ok (.getfield 58, 3) := by decide +kernel
theorem dX7_catcherDerives_8 : decode cX7_catcherDerives 8 = .ok (.getfield 147, 3) := by decide +kernel
theorem dX7_catcherDerives_11 : decode cX7_catcherDerives 11 = .ok (.iload_n 1, 1) := by decide +kernel
theorem dX7_catcherDerives_12 : decode cX7_catcherDerives 12 = .ok (.aload_n 0, 1) := by decide +kernel
theorem dX7_catcherDerives_13 : decode cX7_catcherDerives 13 = .ok (.getfield 58, 3) := by decide +kernel
theorem dX7_catcherDerives_16 : decode cX7_catcherDerives 16 = .ok (.getfield 191, 3) := by decide +kernel
theorem dX7_catcherDerives_19 : decode cX7_catcherDerives 19 = .ok (.invokevirtual 116, 3) := by decide +kernel
theorem dX7_catcherDerives_22 : decode cX7_catcherDerives 22 = .ok (.aload_n 0, 1) := by decide +kernel
theorem dX7_catcherDerives_23 : decode cX7_catcherDerives 23 = .ok (.getfield 58, 3) := by decide +kernel
theorem dX7_catcherDerives_26 : decode cX7_catcherDerives 26 = .ok (.getfield 152, 3) := by decide +kernel
theorem dX7_catcherDerives_29 : decode cX7_catcherDerives 29 = .ok (.aload_n 0, 1) := by decide +kernel
theorem dX7_catcherDerives_30 : decode cX7_catcherDerives 30 = .ok (.getfield 26, 3) := by decide +kernel
theorem dX7_catcherDerives_33 : decode cX7_catcherDerives 33 = .ok (.invokevirtual 195, 3) := by decide +kernel
theorem dX7_catcherDerives_36 : decode cX7_catcherDerives 36 = .ok (.ireturn, 1) := by decide +kernel
theorem dX7_symbolsThatFollow_0 : decode cX7_symbolsThatFollow 0 = .ok (.iconst 0, 1) := by decide +kernel
theorem dX7_symbolsThatFollow_1 : decode cX7_symbolsThatFollow 1 = .ok (.istore_n 1, 1) := by decide +kernel
theorem dX7_symbolsThatFollow_2 : decode cX7_symbolsThatFollow 2 = .ok (.iconst 0, 1) := by decide +kernel
theorem dX7_symbolsThatFollow_3 : decode cX7_symbolsThatFollow 3 = .ok (.istore_n 2, 1) := by decide +kernel
theorem dX7_symbolsThatFollow_4 : decode cX7_symbolsThatFollow 4 = .ok (.iload_n 2, 1) := by decide +kernel
theorem dX7_symbolsThatFollow_5 : decode cX7_symbolsThatFollow 5 = .ok (.aload_n 0, 1) := by decide +kernel
theorem dX7_symbolsThatFollow_6 : decode cX7_symbolsThatFollow 6 = .ok (.getfield 58, 3) := by decide +kernel
theorem dX7_symbolsThatFollow_9 : decode cX7_symbolsThatFollow 9 = .ok (.getfield 147, 3) := by decide +kernel
theorem dX7_symbolsThatFollow_12 : decode cX7_symbolsThatFollow 12 = .ok (.if_icmp .ge 20, 3) := by decide +kernel
theorem dX7_symbolsThatFollow_15 : decode cX7_symbolsThatFollow 15 = .ok (.aload_n 0, 1) := by decide +kernel
theorem dX7_symbolsThatFollow_16 : decode cX7_symbolsThatFollow 16 = .ok (.iload_n 2, 1) := by decide +kernel
theorem dX7_symbolsThatFollow_17 : decode cX7_symbolsThatFollow 17 = .ok (.invokevirtual 158, 3) := by decide +kernel
theorem dX7_symbolsThatFollow_20 : decode cX7_symbolsThatFollow 20 = .ok (.ifCond .eq 6, 3) := by decide +kernel
theorem dX7_symbolsThatFollow_23 : decode cX7_symbolsThatFollow 23 = .ok (.iinc 1 1, 3) := by decide +kernel
theorem dX7_symbolsThatFollow_26 : decode cX7_symbolsThatFollow 26 = .ok (.iinc 2 1, 3) := by decide +kernel
theorem dX7_symbolsThatFollow_29 : decode cX7_symbolsThatFollow 29 = .ok (.goto (-25), 3) := by decide +kernel
theorem dX7_symbolsThatFollow_32 : decode cX7_symbolsThatFollow 32 = .ok (.iload_n 1, 1) := by decide +kernel
theorem dX7_symbolsThatFollow_33 : decode cX7_symbolsThatFollow 33 = .ok (.ireturn, 1) := by decide +kernel
end
section
theorem dX8_init_0 : decode cX8_init 0 = .ok (.aload_n 0, 1) := by decide +kernel
theorem dX8_init_1 : decode cX8_init 1 = .ok (.invokespecial 1, 3) := by decide +kernel
theorem dX8_init_4 : decode cX8_init 4 = .ok (.aload_n 0, 1) := by decide +kernel
theorem dX8_init_5 : decode cX8_init 5 = .ok (.sipush 800, 3) := by decide +kernel
theorem dX8_init_8 : decode cX8_init 8 = .ok (.newarray .byte, 2) := by decide +kernel
theorem dX8_init_10 : decode cX8_init 10 = .ok (.putfield 7, 3) := by decide +kernel
theorem dX8_init_13 : decode cX8_init 13 = .ok (.aload_n 0, 1) := by decide +kernel
theorem dX8_init_14 : decode cX8_init 14 = .ok (.bipush 49, 2) := by decide +kernel
theorem dX8_init_16 : decode cX8_init 16 = .ok (.newarray .int, 2) := by decide +kernel
theorem dX8_init_18 : decode cX8_init 18 = .ok (.putfield 13, 3) := by decide +kernel
theorem dX8_init_21 : decode cX8_init 21 = .ok (.aload_n 0, 1) := by decide +kernel
theorem dX8_init_22 : decode cX8_init 22 = .ok (.sipush 944, 3) := by decide +kernel
theorem dX8_init_25 : decode cX8_init 25 = .ok (.newarray .int, 2) := by decide +kernel
theorem dX8_init_27 : decode cX8_init 27 = .ok (.putfield 17, 3) := by decide +kernel
theorem dX8_init_30 : decode cX8_init 30 = .ok (.aload_n 0, 1) := by decide +kernel
theorem dX8_init_31 : decode cX8_init 31 = .ok (.sipush 4425, 3) := by decide +kernel
theorem dX8_init_34 : decode cX8_init 34 = .ok (.newarray .int, 2) := by decide +kernel
theorem dX8_init_36 : decode cX8_init 36 = .ok (.putfield 20, 3) := by decide +kernel
theorem dX8_init_39 : decode cX8_init 39 = .ok (.aload_n 0, 1) := by decide +kernel
theorem dX8_init_40 : decode cX8_init 40 = .ok (.sipush 9000, 3) := by decide +kernel
theorem dX8_init_43 : decode cX8_init 43 = .ok (.newarray .int, 2) := by decide +kernel
theorem dX8_init_45 : decode cX8_init 45 = .ok (.putfield 23, 3) := by decide +kernel
theorem dX8_init_48 : decode cX8_init 48 = .ok (.aload_n 0, 1) := by decide +kernel
theorem dX8_init_49 : decode cX8_init 49 = .ok (.bipush 120, 2) := by decide +kernel
theorem dX8_init_51 : decode cX8_init 51 = .ok (.newarray .int, 2) := by decide +kernel
theorem dX8_init_53 : decode cX8_init 53 = .ok (.putfield 26, 3) := by decide +kernel
theorem dX8_init_56 : decode cX8_init 56 = .ok (.aload_n 0, 1) := by decide +kernel
theorem dX8_init_57 : decode cX8_init 57 = .ok (.bipush 75, 2) := by decide +kernel
theorem dX8_init_59 : decode cX8_init 59 = .ok (.newarray .int, 2) := by decide +kernel
theorem dX8_init_61 : decode cX8_init 61 = .ok (.putfield 29, 3) := by decide +kernel
theorem dX8_init_64 : decode cX8_init 64 = .ok (.aload_n 0, 1) := by decide +kernel
theorem dX8_init_65 : decode cX8_init 65 = .ok (.sipush 255, 3) := by decide +kernel
theorem dX8_init_68 : decode cX8_init 68 = .ok (.newarray .int, 2) := by decide +kernel
theorem dX8_init_70 : decode cX8_init 70 = .ok (.putfield 32, 3) := by decide +kernel
theorem dX8_init_73 : decode cX8_init 73 = .ok (.aload_n 0, 1) := by decide +kernel
theorem dX8_init_74 : decode cX8_init 74 = .ok (.bipush 16, 2) := by decide +kernel
theorem dX8_init_76 : decode cX8_init 76 = .ok (.newarray .int, 2) := by decide +kernel
theorem dX8_init_78 : decode cX8_init 78 = .ok (.putfield 35, 3) := by decide +kernel
theorem dX8_init_81 : decode cX8_init 81 = .ok (.iconst 0, 1) := by decide +kernel
theorem dX8_init_82 : decode cX8_init 82 = .ok (.istore_n 1, 1) := by decide +kernel
theorem dX8_init_83 : decode cX8_init 83 = .ok (.iload_n 1, 1) := by decide +kernel
theorem dX8_init_84 : decode cX8_init 84 = .ok (.bipush 48, 2) := by decide +kernel
theorem dX8_init_86 : decode cX8_init 86 = .ok (.if_icmp .gt 16, 3) := by decide +kernel
theorem dX8_init_89 : decode cX8_init 89 = .ok (.aload_n 0, 1) := by decide +kernel
theorem dX8_init_90 : decode cX8_init 90 = .ok (.getfield 13, 3) := by decide +kernel
theorem dX8_init_93 : decode cX8_init 93 = .ok (.iload_n 1, 1) := by decide +kernel
theorem dX8_init_94 : decode cX8_init 94 = .ok (.iconst (-1), 1) := by decide +kernel
theorem dX8_init_95 : decode cX8_init 95 = .ok (.iastore, 1) := by decide +kernel
theorem dX8_init_96 : decode cX8_init 96 = .ok (.iinc 1 1, 3) := by decide +kernel
theorem dX8_init_99 : decode cX8_init 99 = .ok (.goto (-16), 3) := by decide +kernel
theorem dX8_init_102 : decode cX8_init 102 = .ok (.iconst 1, 1) := by decide +kernel
theorem dX8_init_103 : decode cX8_init 103 = .ok (.istore_n 1, 1) := by decide +kernel
theorem dX8_init_104 : decode cX8_init 104 = .ok (.iconst 0, 1) := by decide +kernel
theorem dX8_init_105 : decode cX8_init 105 = .ok (.istore_n 2, 1) := by decide +kernel
theorem dX8_init_106 : decode cX8_init 106 = .ok (.iload_n 2, 1) := by decide +kernel
theorem dX8_init_107 : decode cX8_init 107 = .ok (.sipush 255, 3) := by decide +kernel
theorem dX8_init_110 : decode cX8_init 110 = .ok (.if_icmp .ge 22, 3) := by decide +kernel
theorem dX8_init_113 : decode cX8_init 113 = .ok (.aload_n 0, 1) := by decide +kernel
theorem dX8_init_114 : decode cX8_init 114 = .ok (.getfield 32, 3) := by decide +kernel
theorem dX8_init_117 : decode cX8_init 117 = .ok (.iload_n 2, 1) := by decide +kernel
theorem dX8_init_118 : decode cX8_init 118 = .ok (.iload_n 1, 1) := by decide +kernel
theorem dX8_init_119 : decode cX8_init 119 = .ok (.iastore, 1) := by decide +kernel
theorem dX8_init_120 : decode cX8_init 120 = .ok (.iload_n 1, 1) := by decide +kernel
theorem dX8_init_121 : decode cX8_init 121 = .ok (.iconst 2, 1) := by decide +kernel
theorem dX8_init_122 : decode cX8_init 122 = .ok (.invokestatic 38, 3) := by decide +kernel
theorem dX8_init_125 : decode cX8_init 125 = .ok (.istore_n 1, 1) := by decide +kernel
theorem dX8_init_126 : decode cX8_init 126 = .ok (.iinc 2 1, 3) := by decide +kernel
theorem dX8_init_129 : decode cX8_init 129 = .ok (.goto (-23), 3) := by decide +kernel
theorem dX8_init_132 : decode cX8_init 132 = .ok (.return_, 1) := by decide +kernel
theorem dX8_thrown_0 : decode cX8_thrown 0 = .ok (.aload_n 0, 1) := by decide +kernel
theorem dX8_thrown_1 : decode cX8_thrown 1 = .ok (.getfield 42, 3) := by decide +kernel
theorem dX8_thrown_4 : decode cX8_thrown 4 = .ok (.ireturn, 1) := by decide +kernel
theorem dX8_feed_0 : decode cX8_feed 0 = .ok (.aload_n 0, 1) := by decide +kernel
theorem dX8_feed_1 : decode cX8_feed 1 = .ok (.aload_n 0, 1) := by decide +kernel
theorem dX8_feed_2 : decode cX8_feed 2 = .ok (.getfield 46, 3) := by decide +kernel
theorem dX8_feed_5 : decode cX8_feed 5 = .ok (.bipush 20, 2) := by decide +kernel
theorem dX8_feed_7 : decode cX8_feed 7 = .ok (.iadd, 1) := by decide +kernel
theorem dX8_feed_8 : decode cX8_feed 8 = .ok (.sipush 800, 3) := by decide +kernel
theorem dX8_feed_11 : decode cX8_feed 11 = .ok (.if_icmp .le 7, 3) := by decide +kernel
theorem dX8_feed_14 : decode cX8_feed 14 = .ok (.iconst 1, 1) := by decide +kernel
theorem dX8_feed_15 : decode cX8_feed 15 = .ok (.goto 4, 3) := by decide +kernel
theorem dX8_feed_18 : decode cX8_feed 18 = .ok (.iconst 0, 1) := by decide +kernel
theorem dX8_feed_19 : decode cX8_feed 19 = .ok (.putfield 42, 3) := by decide +kernel
theorem dX8_feed_22 : decode cX8_feed 22 = .ok (.aload_n 0, 1) := by decide +kernel
theorem dX8_feed_23 : decode cX8_feed 23 = .ok (.getfield 42, 3) := by decide +kernel
theorem dX8_feed_26 : decode cX8_feed 26 = .ok (.ifCond .le 5, 3) := by decide +kernel
theorem dX8_feed_29 : decode cX8_feed 29 = .ok (.iconst 0, 1) := by decide +kernel
theorem dX8_feed_30 : decode cX8_feed 30 = .ok (.ireturn, 1) := by decide +kernel
theorem dX8_feed_31 : decode cX8_feed 31 = .ok (.iconst 0, 1) := by decide +kernel
theorem dX8_feed_32 : decode cX8_feed 32 = .ok (.istore 6, 2) := by decide +kernel
theorem dX8_feed_34 : decode cX8_feed 34 = .ok (.iload 6, 2) := by decide +kernel
theorem dX8_feed_36 : decode cX8_feed 36 = .ok (.bipush 20, 2) := by decide +kernel
theorem dX8_feed_38 : decode cX8_feed 38 = .ok (.if_icmp .ge 90, 3) := by decide +kernel
theorem dX8_feed_41 : decode cX8_feed 41 = .ok (.iload 6, 2) := by decide +kernel
theorem dX8_feed_43 : decode cX8_feed 43 = .ok (.iconst 4, 1) := by decide +kernel
theorem dX8_feed_44 : decode cX8_feed 44 = .ok (.if_icmp .ge 7, 3) := by decide +kernel
theorem dX8_feed_47 : decode cX8_feed 47 = .ok (.iload_n 1, 1) := by decide +kernel
theorem dX8_feed_48 : decode cX8_feed 48 = .ok (.goto 39, 3) := by decide +kernel
theorem dX8_feed_51 : decode cX8_feed 51 = .ok (.iload 6, 2) := by decide +kernel
theorem dX8_feed_53 : decode cX8_feed 53 = .ok (.bipush 8, 2) := by decide +kernel
theorem dX8_feed_55 : decode cX8_feed 55 = .ok (.if_icmp .ge 7, 3) := by decide +kernel
theorem dX8_feed_58 : decode cX8_feed 58 = .ok (.iload_n 2, 1) := by decide +kernel
theorem dX8_feed_59 : decode cX8_feed 59 = .ok (.goto 28, 3) := by decide +kernel
theorem dX8_feed_62 : decode cX8_feed 62 = .ok (.iload 6, 2) := by decide +kernel
theorem dX8_feed_64 : decode cX8_feed 64 = .ok (.bipush 12, 2) := by decide +kernel
theorem dX8_feed_66 : decode cX8_feed 66 = .ok (.if_icmp .ge 7, 3) := by decide +kernel
theorem dX8_feed_69 : decode cX8_feed 69 = .ok (.iload_n 3, 1) := by decide +kernel
theorem dX8_feed_70 : decode cX8_feed 70 = .ok (.goto 17, 3) := by decide +kernel
theorem dX8_feed_73 : decode cX8_feed 73 = .ok (.iload 6, 2) := by decide +kernel
theorem dX8_feed_75 : decode cX8_feed 75 = .ok (.bipush 16, 2) := by decide +kernel
theorem dX8_feed_77 : decode cX8_feed 77 = .ok (.if_icmp .ge 8, 3) := by decide +kernel
theorem dX8_feed_80 : decode cX8_feed 80 = .ok (.iload 4, 2) := by decide +kernel
theorem dX8_feed_82 : decode cX8_feed 82 = .ok (.goto 5, 3) := by decide +kernel
theorem dX8_feed_85 : decode cX8_feed 85 = .ok (.iload 5, 2) := by decide +kernel
theorem dX8_feed_87 : decode cX8_feed 87 = .ok (.istore 7, 2) := by decide +kernel
theorem dX8_feed_89 : decode cX8_feed 89 = .ok (.aload_n 0, 1) := by decide +kernel
theorem dX8_feed_90 : decode cX8_feed 90 = .ok (.getfield 7, 3) := by decide +kernel
theorem dX8_feed_93 : decode cX8_feed 93 = .ok (.aload_n 0, 1) := by decide +kernel
theorem dX8_feed_94 : decode cX8_feed 94 = .ok (.getfield 46, 3) := by decide +kernel
theorem dX8_feed_97 : decode cX8_feed 97 = .ok (.iload 7, 2) := by decide +kernel
theorem dX8_feed_99 : decode cX8_feed 99 = .ok (.bipush 24, 2) := by decide +kernel
theorem dX8_feed_101 : decode cX8_feed 101 = .ok (.bipush 8, 2) := by decide +kernel
theorem dX8_feed_103 : decode cX8_feed 103 = .ok (.iload 6, 2) := by decide +kernel
theorem dX8_feed_105 : decode cX8_feed 105 = .ok (.iconst 4, 1) := by decide +kernel
theorem dX8_feed_106 : decode cX8_feed 106 = .ok (.irem, 1) := by decide +kernel
theorem dX8_feed_107 : decode cX8_feed 107 = .ok (.imul, 1) := by decide +kernel
theorem dX8_feed_108 : decode cX8_feed 108 = .ok (.isub, 1) := by decide +kernel
theorem dX8_feed_109 : decode cX8_feed 109 = .ok (.ishr, 1) := by decide +kernel
theorem dX8_feed_110 : decode cX8_feed 110 = .ok (.i2b, 1) := by decide +kernel
theorem dX8_feed_111 : decode cX8_feed 111 = .ok (.bastore, 1) := by decide +kernel
theorem dX8_feed_112 : decode cX8_feed 112 = .ok (.aload_n 0, 1) := by decide +kernel
theorem dX8_feed_113 : decode cX8_feed 113 = .ok (.dup, 1) := by decide +kernel
theorem dX8_feed_114 : decode cX8_feed 114 = .ok (.getfield 46, 3) := by decide +kernel
theorem dX8_feed_117 : decode cX8_feed 117 = .ok (.iconst 1, 1) := by decide +kernel
theorem dX8_feed_118 : decode cX8_feed 118 = .ok (.iadd, 1) := by decide +kernel
theorem dX8_feed_119 : decode cX8_feed 119 = .ok (.putfield 46, 3) := by decide +kernel
theorem dX8_feed_122 : decode cX8_feed 122 = .ok (.iinc 6 1, 3) := by decide +kernel
theorem dX8_feed_125 : decode cX8_feed 125 = .ok (.goto (-91), 3) := by decide +kernel
theorem dX8_feed_128 : decode cX8_feed 128 = .ok (.aload_n 0, 1) := by decide +kernel
theorem dX8_feed_129 : decode cX8_feed 129 = .ok (.getfield 46, 3) := by decide +kernel
theorem dX8_feed_132 : decode cX8_feed 132 = .ok (.ireturn, 1) := by decide +kernel
theorem dX8_end_0 : decode cX8_end 0 = .ok (.aload_n 0, 1) := by decide +kernel
theorem dX8_end_1 : decode cX8_end 1 = .ok (.iload_n 1, 1) := by decide +kernel
theorem dX8_end_2 : decode cX8_end 2 = .ok (.ifCond .lt 11, 3) := by decide +kernel
theorem dX8_end_5 : decode cX8_end 5 = .ok (.iload_n 1, 1) := by decide +kernel
theorem dX8_end_6 : decode cX8_end 6 = .ok (.aload_n 0, 1) := by decide +kernel
theorem dX8_end_7 : decode cX8_end 7 = .ok (.getfield 46, 3) := by decide +kernel
theorem dX8_end_10 : decode cX8_end 10 = .ok (.if_icmp .le 7, 3) := by decide +kernel
theorem dX8_end_13 : decode cX8_end 13 = .ok (.iconst 1, 1) := by decide +kernel
theorem dX8_end_14 : decode cX8_end 14 = .ok (.goto 4, 3) := by decide +kernel
theorem dX8_end_17 : decode cX8_end 17 = .ok (.iconst 0, 1) := by decide +kernel
theorem dX8_end_18 : decode cX8_end 18 = .ok (.putfield 42, 3) := by decide +kernel
theorem dX8_end_21 : decode cX8_end 21 = .ok (.aload_n 0, 1) := by decide +kernel
theorem dX8_end_22 : decode cX8_end 22 = .ok (.aload_n 0, 1) := by decide +kernel
theorem dX8_end_23 : decode cX8_end 23 = .ok (.getfield 42, 3) := by decide +kernel
theorem dX8_end_26 : decode cX8_end 26 = .ok (.ifCond .ne 7, 3) := by decide +kernel
theorem dX8_end_29 : decode cX8_end 29 = .ok (.iload_n 1, 1) := by decide +kernel
theorem dX8_end_30 : decode cX8_end 30 = .ok (.goto 7, 3) := by decide +kernel
theorem dX8_end_33 : decode cX8_end 33 = .ok (.aload_n 0, 1) := by decide +kernel
theorem dX8_end_34 : decode cX8_end 34 = .ok (.getfield 46, 3) := by decide +kernel
theorem dX8_end_37 : decode cX8_end 37 = .ok (.putfield 46, 3) := by decide +kernel
theorem dX8_end_40 : decode cX8_end 40 = .ok (.return_, 1) := by decide +kernel
theorem dX8_times_0 : decode cX8_times 0 = .ok (.iconst 0, 1) := by decide +kernel
theorem dX8_times_1 : decode cX8_times 1 = .ok (.istore_n 2, 1) := by decide +kernel
theorem dX8_times_2 : decode cX8_times 2 = .ok (.iload_n 0, 1) := by decide +kernel
theorem dX8_times_3 : decode cX8_times 3 = .ok (.istore_n 3, 1) := by decide +kernel
theorem dX8_times_4 : decode cX8_times 4 = .ok (.iconst 0, 1) := by decide +kernel
theorem dX8_times_5 : decode cX8_times 5 = .ok (.istore 4, 2) := by decide +kernel
theorem dX8_times_7 : decode cX8_times 7 = .ok (.iload 4, 2) := by decide +kernel
theorem dX8_times_9 : decode cX8_times 9 = .ok (.bipush 8, 2) := by decide +kernel
theorem dX8_times_11 : decode cX8_times 11 = .ok (.if_icmp .ge 48, 3) := by decide +kernel
theorem dX8_times_14 : decode cX8_times 14 = .ok (.iload_n 2, 1) := by decide +kernel
theorem dX8_times_15 : decode cX8_times 15 = .ok (.iload_n 1, 1) := by decide +kernel
theorem dX8_times_16 : decode cX8_times 16 = .ok (.iload 4, 2) := by decide +kernel
theorem dX8_times_18 : decode cX8_times 18 = .ok (.ishr, 1) := by decide +kernel
theorem dX8_times_19 : decode cX8_times 19 = .ok (.iconst 1, 1) := by decide +kernel
theorem dX8_times_20 : decode cX8_times 20 = .ok (.iand, 1) := by decide +kernel
theorem dX8_times_21 : decode cX8_times 21 = .ok (.iconst 1, 1) := by decide +kernel
theorem dX8_times_22 : decode cX8_times 22 = .ok (.if_icmp .ne 7, 3) := by decide +kernel
theorem dX8_times_25 : decode cX8_times 25 = .ok (.iload_n 3, 1) := by decide +kernel
theorem dX8_times_26 : decode cX8_times 26 = .ok (.goto 4, 3) := by decide +kernel
theorem dX8_times_29 : decode cX8_times 29 = .ok (.iconst 0, 1) := by decide +kernel
theorem dX8_times_30 : decode cX8_times 30 = .ok (.ixor, 1) := by decide +kernel
theorem dX8_times_31 : decode cX8_times 31 = .ok (.istore_n 2, 1) := by decide +kernel
theorem dX8_times_32 : decode cX8_times 32 = .ok (.iload_n 3, 1) := by decide +kernel
theorem dX8_times_33 : decode cX8_times 33 = .ok (.sipush 128, 3) := by decide +kernel
theorem dX8_times_36 : decode cX8_times 36 = .ok (.if_icmp .ge 9, 3) := by decide +kernel
theorem dX8_times_39 : decode cX8_times 39 = .ok (.iconst 2, 1) := by decide +kernel
theorem dX8_times_40 : decode cX8_times 40 = .ok (.iload_n 3, 1) := by decide +kernel
theorem dX8_times_41 : decode cX8_times 41 = .ok (.imul, 1) := by decide +kernel
theorem dX8_times_42 : decode cX8_times 42 = .ok (.goto 10, 3) := by decide +kernel
theorem dX8_times_45 : decode cX8_times 45 = .ok (.iconst 2, 1) := by decide +kernel
theorem dX8_times_46 : decode cX8_times 46 = .ok (.iload_n 3, 1) := by decide +kernel
theorem dX8_times_47 : decode cX8_times 47 = .ok (.imul, 1) := by decide +kernel
theorem dX8_times_48 : decode cX8_times 48 = .ok (.sipush 285, 3) := by decide +kernel
theorem dX8_times_51 : decode cX8_times 51 = .ok (.ixor, 1) := by decide +kernel
theorem dX8_times_52 : decode cX8_times 52 = .ok (.istore_n 3, 1) := by decide +kernel
theorem dX8_times_53 : decode cX8_times 53 = .ok (.iinc 4 1, 3) := by decide +kernel
theorem dX8_times_56 : decode cX8_times 56 = .ok (.goto (-49), 3) := by decide +kernel
theorem dX8_times_59 : decode cX8_times 59 = .ok (.iload_n 2, 1) := by decide +kernel
theorem dX8_times_60 : decode cX8_times 60 = .ok (.ireturn, 1) := by decide +kernel
theorem dX8_inverse_0 : decode cX8_inverse 0 = .ok (.iconst 1, 1) := by decide +kernel
theorem dX8_inverse_1 : decode cX8_inverse 1 = .ok (.istore_n 1, 1) := by decide +kernel
theorem dX8_inverse_2 : decode cX8_inverse 2 = .ok (.iload_n 0, 1) := by decide +kernel
theorem dX8_inverse_3 : decode cX8_inverse 3 = .ok (.iload_n 1, 1) := by decide +kernel
theorem dX8_inverse_4 : decode cX8_inverse 4 = .ok (.invokestatic 38, 3) := by decide +kernel
theorem dX8_inverse_7 : decode cX8_inverse 7 = .ok (.iconst 1, 1) := by decide +kernel
theorem dX8_inverse_8 : decode cX8_inverse 8 = .ok (.if_icmp .eq 9, 3) := by decide +kernel
theorem dX8_inverse_11 : decode cX8_inverse 11 = .ok (.iinc 1 1, 3) := by decide +kernel
theorem dX8_inverse_14 : decode cX8_inverse 14 = .ok (.goto (-12), 3) := by decide +kernel
theorem dX8_inverse_17 : decode cX8_inverse 17 = .ok (.iload_n 1, 1) := by decide +kernel
theorem dX8_inverse_18 : decode cX8_inverse 18 = .ok (.ireturn, 1) := by decide +kernel
theorem dX8_power_0 : decode cX8_power 0 = .ok (.aload_n 0, 1) := by decide +kernel
theorem dX8_power_1 : decode cX8_power 1 = .ok (.getfield 32, 3) := by decide +kernel
theorem dX8_power_4 : decode cX8_power 4 = .ok (.iload_n 1, 1) := by decide +kernel
theorem dX8_power_5 : decode cX8_power 5 = .ok (.sipush 255, 3) := by decide +kernel
theorem dX8_power_8 : decode cX8_power 8 = .ok (.irem, 1) := by decide +kernel
theorem dX8_power_9 : decode cX8_power 9 = .ok (.iaload, 1) := by decide +kernel
theorem dX8_power_10 : decode cX8_power 10 = .ok (.ireturn, 1) := by decide +kernel
theorem dX8_chance_0 : decode cX8_chance 0 = .ok (.lload_n 0, 1) := by decide +kernel
theorem dX8_chance_1 : decode cX8_chance 1 = .ok (.iload_n 2, 1) := by decide +kernel
theorem dX8_chance_2 : decode cX8_chance 2 = .ok (.i2l, 1) := by decide +kernel
theorem dX8_chance_3 : decode cX8_chance 3 = .ok (.lconst 1, 1) := by decide +kernel
theorem dX8_chance_4 : decode cX8_chance 4 = .ok (.ladd, 1) := by decide +kernel
theorem dX8_chance_5 : decode cX8_chance 5 = .ok (.ldc2_w 49, 3) := by decide +kernel
theorem dX8_chance_8 : decode cX8_chance 8 = .ok (.lmul, 1) := by decide +kernel
theorem dX8_chance_9 : decode cX8_chance 9 = .ok (.ladd, 1) := by decide +kernel
theorem dX8_chance_10 : decode cX8_chance 10 = .ok (.lstore 4, 2) := by decide +kernel
theorem dX8_chance_12 : decode cX8_chance 12 = .ok (.lload 4, 2) := by decide +kernel
theorem dX8_chance_14 : decode cX8_chance 14 = .ok (.lload 4, 2) := by decide +kernel
theorem dX8_chance_16 : decode cX8_chance 16 = .ok (.bipush 30, 2) := by decide +kernel
theorem dX8_chance_18 : decode cX8_chance 18 = .ok (.lushr, 1) := by decide +kernel
theorem dX8_chance_19 : decode cX8_chance 19 = .ok (.lxor, 1) := by decide +kernel
theorem dX8_chance_20 : decode cX8_chance 20 = .ok (.ldc2_w 51, 3) := by decide +kernel
theorem dX8_chance_23 : decode cX8_chance 23 = .ok (.lmul, 1) := by decide +kernel
theorem dX8_chance_24 : decode cX8_chance 24 = .ok (.lstore 4, 2) := by decide +kernel
theorem dX8_chance_26 : decode cX8_chance 26 = .ok (.lload 4, 2) := by decide +kernel
theorem dX8_chance_28 : decode cX8_chance 28 = .ok (.lload 4, 2) := by decide +kernel
theorem dX8_chance_30 : decode cX8_chance 30 = .ok (.bipush 27, 2) := by decide +kernel
theorem dX8_chance_32 : decode cX8_chance 32 = .ok (.lushr, 1) := by decide +kernel
theorem dX8_chance_33 : decode cX8_chance 33 = .ok (.lxor, 1) := by decide +kernel
theorem dX8_chance_34 : decode cX8_chance 34 = .ok (.ldc2_w 53, 3) := by decide +kernel
theorem dX8_chance_37 : decode cX8_chance 37 = .ok (.lmul, 1) := by decide +kernel
theorem dX8_chance_38 : decode cX8_chance 38 = .ok (.lstore 4, 2) := by decide +kernel
theorem dX8_chance_40 : decode cX8_chance 40 = .ok (.lload 4, 2) := by decide +kernel
theorem dX8_chance_42 : decode cX8_chance 42 = .ok (.lload 4, 2) := by decide +kernel
theorem dX8_chance_44 : decode cX8_chance 44 = .ok (.bipush 31, 2) := by decide +kernel
theorem dX8_chance_46 : decode cX8_chance 46 = .ok (.lushr, 1) := by decide +kernel
theorem dX8_chance_47 : decode cX8_chance 47 = .ok (.lxor, 1) := by decide +kernel
theorem dX8_chance_48 : decode cX8_chance 48 = .ok (.lstore 4, 2) := by decide +kernel
theorem dX8_chance_50 : decode cX8_chance 50 = .ok (.lload 4, 2) := by decide +kernel
theorem dX8_chance_52 : decode cX8_chance 52 = .ok (.bipush 32, 2) := by decide +kernel
theorem dX8_chance_54 : decode cX8_chance 54 = .ok (.lushr, 1) := by decide +kernel
theorem dX8_chance_55 : decode cX8_chance 55 = .ok (.iload_n 3, 1) := by decide +kernel
theorem dX8_chance_56 : decode cX8_chance 56 = .ok (.i2l, 1) := by decide +kernel
theorem dX8_chance_57 : decode cX8_chance 57 = .ok (.lrem, 1) := by decide +kernel
theorem dX8_chance_58 : decode cX8_chance 58 = .ok (.l2i, 1) := by decide +kernel
theorem dX8_chance_59 : decode cX8_chance 59 = .ok (.ireturn, 1) := by decide +kernel
theorem dX8_blank_0 : decode cX8_blank 0 = .ok (.iconst 0, 1) := by decide +kernel
theorem dX8_blank_1 : decode cX8_blank 1 = .ok (.istore_n 1, 1) := by decide +kernel
theorem dX8_blank_2 : decode cX8_blank 2 = .ok (.iload_n 1, 1) := by decide +kernel
theorem dX8_blank_3 : decode cX8_blank 3 = .ok (.bipush 75, 2) := by decide +kernel
theorem dX8_blank_5 : decode cX8_blank 5 = .ok (.if_icmp .ge 16, 3) := by decide +kernel
theorem dX8_blank_8 : decode cX8_blank 8 = .ok (.aload_n 0, 1) := by decide +kernel
theorem dX8_blank_9 : decode cX8_blank 9 = .ok (.getfield 29, 3) := by decide +kernel
theorem dX8_blank_12 : decode cX8_blank 12 = .ok (.iload_n 1, 1) := by decide +kernel
theorem dX8_blank_13 : decode cX8_blank 13 = .ok (.iconst 0, 1) := by decide +kernel
theorem dX8_blank_14 : decode cX8_blank 14 = .ok (.iastore, 1) := by decide +kernel
theorem dX8_blank_15 : decode cX8_blank 15 = .ok (.iinc 1 1, 3) := by decide +kernel
theorem dX8_blank_18 : decode cX8_blank 18 = .ok (.goto (-16), 3) := by decide +kernel
theorem dX8_blank_21 : decode cX8_blank 21 = .ok (.return_, 1) := by decide +kernel
theorem dX8_fixed_0 : decode cX8_fixed 0 = .ok (.aload_n 0, 1) := by decide +kernel
theorem dX8_fixed_1 : decode cX8_fixed 1 = .ok (.invokevirtual 55, 3) := by decide +kernel
theorem dX8_fixed_4 : decode cX8_fixed 4 = .ok (.aload_n 0, 1) := by decide +kernel
theorem dX8_fixed_5 : decode cX8_fixed 5 = .ok (.getfield 29, 3) := by decide +kernel
theorem dX8_fixed_8 : decode cX8_fixed 8 = .ok (.iload_n 1, 1) := by decide +kernel
theorem dX8_fixed_9 : decode cX8_fixed 9 = .ok (.iload_n 2, 1) := by decide +kernel
theorem dX8_fixed_10 : decode cX8_fixed 10 = .ok (.iadd, 1) := by decide +kernel
theorem dX8_fixed_11 : decode cX8_fixed 11 = .ok (.iconst 1, 1) := by decide +kernel
theorem dX8_fixed_12 : decode cX8_fixed 12 = .ok (.iastore, 1) := by decide +kernel
theorem dX8_fixed_13 : decode cX8_fixed 13 = .ok (.iload_n 2, 1) := by decide +kernel
theorem dX8_fixed_14 : decode cX8_fixed 14 = .ok (.bipush 7, 2) := by decide +kernel
theorem dX8_fixed_16 : decode cX8_fixed 16 = .ok (.if_icmp .lt 36, 3) := by decide +kernel
theorem dX8_fixed_19 : decode cX8_fixed 19 = .ok (.iconst 0, 1) := by decide +kernel
theorem dX8_fixed_20 : decode cX8_fixed 20 = .ok (.istore_n 3, 1) := by decide +kernel
theorem dX8_fixed_21 : decode cX8_fixed 21 = .ok (.iload_n 3, 1) := by decide +kernel
theorem dX8_fixed_22 : decode cX8_fixed 22 = .ok (.iload_n 1, 1) := by decide +kernel
theorem dX8_fixed_23 : decode cX8_fixed 23 = .ok (.bipush 7, 2) := by decide +kernel
theorem dX8_fixed_25 : decode cX8_fixed 25 = .ok (.iadd, 1) := by decide +kernel
theorem dX8_fixed_26 : decode cX8_fixed 26 = .ok (.if_icmp .ge 25, 3) := by decide +kernel
theorem dX8_fixed_29 : decode cX8_fixed 29 = .ok (.aload_n 0, 1) := by decide +kernel
theorem dX8_fixed_30 : decode cX8_fixed 30 = .ok (.getfield 29, 3) := by decide +kernel
theorem dX8_fixed_33 : decode cX8_fixed 33 = .ok (.iload_n 3, 1) := by decide +kernel
theorem dX8_fixed_34 : decode cX8_fixed 34 = .ok (.aload_n 0, 1) := by decide +kernel
theorem dX8_fixed_35 : decode cX8_fixed 35 = .ok (.iload_n 3, 1) := by decide +kernel
theorem dX8_fixed_36 : decode cX8_fixed 36 = .ok (.iload_n 2, 1) := by decide +kernel
theorem dX8_fixed_37 : decode cX8_fixed 37 = .ok (.bipush 6, 2) := by decide +kernel
theorem dX8_fixed_39 : decode cX8_fixed 39 = .ok (.isub, 1) := by decide +kernel
theorem dX8_fixed_40 : decode cX8_fixed 40 = .ok (.imul, 1) := by decide +kernel
theorem dX8_fixed_41 : decode cX8_fixed 41 = .ok (.invokevirtual 58, 3) := by decide +kernel
theorem dX8_fixed_44 : decode cX8_fixed 44 = .ok (.iastore, 1) := by decide +kernel
theorem dX8_fixed_45 : decode cX8_fixed 45 = .ok (.iinc 3 1, 3) := by decide +kernel
theorem dX8_fixed_48 : decode cX8_fixed 48 = .ok (.goto (-27), 3) := by decide +kernel
theorem dX8_fixed_51 : decode cX8_fixed 51 = .ok (.return_, 1) := by decide +kernel
theorem dX8_fixed_52 : decode cX8_fixed 52 = .ok (.iconst 0, 1) := by decide +kernel
theorem dX8_fixed_53 : decode cX8_fixed 53 = .ok (.istore_n 3, 1) := by decide +kernel
theorem dX8_fixed_54 : decode cX8_fixed 54 = .ok (.iload_n 3, 1) := by decide +kernel
theorem dX8_fixed_55 : decode cX8_fixed 55 = .ok (.iload_n 1, 1) := by decide +kernel
theorem dX8_fixed_56 : decode cX8_fixed 56 = .ok (.if_icmp .ge 63, 3) := by decide +kernel
theorem dX8_fixed_59 : decode cX8_fixed 59 = .ok (.iconst 1, 1) := by decide +kernel
theorem dX8_fixed_60 : decode cX8_fixed 60 = .ok (.iload_n 3, 1) := by decide +kernel
theorem dX8_fixed_61 : decode cX8_fixed 61 = .ok (.bipush 7, 2) := by decide +kernel
theorem dX8_fixed_63 : decode cX8_fixed 63 = .ok (.idiv, 1) := by decide +kernel
theorem dX8_fixed_64 : decode cX8_fixed 64 = .ok (.bipush 6, 2) := by decide +kernel
theorem dX8_fixed_66 : decode cX8_fixed 66 = .ok (.irem, 1) := by decide +kernel
theorem dX8_fixed_67 : decode cX8_fixed 67 = .ok (.iadd, 1) := by decide +kernel
theorem dX8_fixed_68 : decode cX8_fixed 68 = .ok (.istore 4, 2) := by decide +kernel
theorem dX8_fixed_70 : decode cX8_fixed 70 = .ok (.aload_n 0, 1) := by decide +kernel
theorem dX8_fixed_71 : decode cX8_fixed 71 = .ok (.getfield 29, 3) := by decide +kernel
theorem dX8_fixed_74 : decode cX8_fixed 74 = .ok (.iload_n 3, 1) := by decide +kernel
theorem dX8_fixed_75 : decode cX8_fixed 75 = .ok (.iload_n 3, 1) := by decide +kernel
theorem dX8_fixed_76 : decode cX8_fixed 76 = .ok (.bipush 7, 2) := by decide +kernel
theorem dX8_fixed_78 : decode cX8_fixed 78 = .ok (.irem, 1) := by decide +kernel
theorem dX8_fixed_79 : decode cX8_fixed 79 = .ok (.iload_n 2, 1) := by decide +kernel
theorem dX8_fixed_80 : decode cX8_fixed 80 = .ok (.if_icmp .eq 27, 3) := by decide +kernel
theorem dX8_fixed_83 : decode cX8_fixed 83 = .ok (.iload_n 3, 1) := by decide +kernel
theorem dX8_fixed_84 : decode cX8_fixed 84 = .ok (.iload 4, 2) := by decide +kernel
theorem dX8_fixed_86 : decode cX8_fixed 86 = .ok (.iadd, 1) := by decide +kernel
theorem dX8_fixed_87 : decode cX8_fixed 87 = .ok (.bipush 7, 2) := by decide +kernel
theorem dX8_fixed_89 : decode cX8_fixed 89 = .ok (.irem, 1) := by decide +kernel
theorem dX8_fixed_90 : decode cX8_fixed 90 = .ok (.iload_n 2, 1) := by decide +kernel
theorem dX8_fixed_91 : decode cX8_fixed 91 = .ok (.if_icmp .eq 16, 3) := by decide +kernel
theorem dX8_fixed_94 : decode cX8_fixed 94 = .ok (.iload_n 3, 1) := by decide +kernel
theorem dX8_fixed_95 : decode cX8_fixed 95 = .ok (.iconst 2, 1) := by decide +kernel
theorem dX8_fixed_96 : decode cX8_fixed 96 = .ok (.iload 4, 2) := by decide +kernel
theorem dX8_fixed_98 : decode cX8_fixed 98 = .ok (.imul, 1) := by decide +kernel
theorem dX8_fixed_99 : decode cX8_fixed 99 = .ok (.iadd, 1) := by decide +kernel
theorem dX8_fixed_100 : decode cX8_fixed 100 = .ok (.bipush 7, 2) := by decide +kernel
theorem dX8_fixed_102 : decode cX8_fixed 102 = .ok (.irem, 1) := by decide +kernel
theorem dX8_fixed_103 : decode cX8_fixed 103 = .ok (.iload_n 2, 1) := by decide +kernel
theorem dX8_fixed_104 : decode cX8_fixed 104 = .ok (.if_icmp .ne 7, 3) := by decide +kernel
theorem dX8_fixed_107 : decode cX8_fixed 107 = .ok (.iconst 1, 1) := by decide +kernel
theorem dX8_fixed_108 : decode cX8_fixed 108 = .ok (.goto 4, 3) := by decide +kernel
theorem dX8_fixed_111 : decode cX8_fixed 111 = .ok (.iconst 0, 1) := by decide +kernel
theorem dX8_fixed_112 : decode cX8_fixed 112 = .ok (.iastore, 1) := by decide +kernel
theorem dX8_fixed_113 : decode cX8_fixed 113 = .ok (.iinc 3 1, 3) := by decide +kernel
theorem dX8_fixed_116 : decode cX8_fixed 116 = .ok (.goto (-62), 3) := by decide +kernel
theorem dX8_fixed_119 : decode cX8_fixed 119 = .ok (.return_, 1) := by decide +kernel
theorem dX8_prime_0 : decode cX8_prime 0 = .ok (.iload_n 0, 1) := by decide +kernel
theorem dX8_prime_1 : decode cX8_prime 1 = .ok (.istore_n 1, 1) := by decide +kernel
theorem dX8_prime_2 : decode cX8_prime 2 = .ok (.iconst 0, 1) := by decide +kernel
theorem dX8_prime_3 : decode cX8_prime 3 = .ok (.istore_n 2, 1) := by decide +kernel
theorem dX8_prime_4 : decode cX8_prime 4 = .ok (.iload_n 2, 1) := by decide +kernel
theorem dX8_prime_5 : decode cX8_prime 5 = .ok (.ifCond .ne 49, 3) := by decide +kernel
theorem dX8_prime_8 : decode cX8_prime 8 = .ok (.iconst 1, 1) := by decide +kernel
theorem dX8_prime_9 : decode cX8_prime 9 = .ok (.istore_n 2, 1) := by decide +kernel
theorem dX8_prime_10 : decode cX8_prime 10 = .ok (.iconst 2, 1) := by decide +kernel
theorem dX8_prime_11 : decode cX8_prime 11 = .ok (.istore_n 3, 1) := by decide +kernel
theorem dX8_prime_12 : decode cX8_prime 12 = .ok (.iload_n 3, 1) := by decide +kernel
theorem dX8_prime_13 : decode cX8_prime 13 = .ok (.iload_n 1, 1) := by decide +kernel
theorem dX8_prime_14 : decode cX8_prime 14 = .ok (.if_icmp .ge 25, 3) := by decide +kernel
theorem dX8_prime_17 : decode cX8_prime 17 = .ok (.iload_n 2, 1) := by decide +kernel
theorem dX8_prime_18 : decode cX8_prime 18 = .ok (.ifCond .eq 13, 3) := by decide +kernel
theorem dX8_prime_21 : decode cX8_prime 21 = .ok (.iload_n 1, 1) := by decide +kernel
theorem dX8_prime_22 : decode cX8_prime 22 = .ok (.iload_n 3, 1) := by decide +kernel
theorem dX8_prime_23 : decode cX8_prime 23 = .ok (.irem, 1) := by decide +kernel
theorem dX8_prime_24 : decode cX8_prime 24 = .ok (.ifCond .eq 7, 3) := by decide +kernel
theorem dX8_prime_27 : decode cX8_prime 27 = .ok (.iconst 1, 1) := by decide +kernel
theorem dX8_prime_28 : decode cX8_prime 28 = .ok (.goto 4, 3) := by decide +kernel
theorem dX8_prime_31 : decode cX8_prime 31 = .ok (.iconst 0, 1) := by decide +kernel
theorem dX8_prime_32 : decode cX8_prime 32 = .ok (.istore_n 2, 1) := by decide +kernel
theorem dX8_prime_33 : decode cX8_prime 33 = .ok (.iinc 3 1, 3) := by decide +kernel
theorem dX8_prime_36 : decode cX8_prime 36 = .ok (.goto (-24), 3) := by decide +kernel
theorem dX8_prime_39 : decode cX8_prime 39 = .ok (.iload_n 1, 1) := by decide +kernel
theorem dX8_prime_40 : decode cX8_prime 40 = .ok (.iload_n 2, 1) := by decide +kernel
theorem dX8_prime_41 : decode cX8_prime 41 = .ok (.ifCond .eq 7, 3) := by decide +kernel
theorem dX8_prime_44 : decode cX8_prime 44 = .ok (.iconst 0, 1) := by decide +kernel
theorem dX8_prime_45 : decode cX8_prime 45 = .ok (.goto 4, 3) := by decide +kernel
theorem dX8_prime_48 : decode cX8_prime 48 = .ok (.iconst 1, 1) := by decide +kernel
theorem dX8_prime_49 : decode cX8_prime 49 = .ok (.iadd, 1) := by decide +kernel
theorem dX8_prime_50 : decode cX8_prime 50 = .ok (.istore_n 1, 1) := by decide +kernel
theorem dX8_prime_51 : decode cX8_prime 51 = .ok (.goto (-47), 3) := by decide +kernel
theorem dX8_prime_54 : decode cX8_prime 54 = .ok (.iload_n 1, 1) := by decide +kernel
theorem dX8_prime_55 : decode cX8_prime 55 = .ok (.ireturn, 1) := by decide +kernel
theorem dX8_degree_0 : decode cX8_degree 0 = .ok (.iload_n 0, 1) := by decide +kernel
theorem dX8_degree_1 : decode cX8_degree 1 = .ok (.iconst 5, 1) := by decide +kernel
theorem dX8_degree_2 : decode cX8_degree 2 = .ok (.if_icmp .ge 7, 3) := by decide +kernel
theorem dX8_degree_5 : decode cX8_degree 5 = .ok (.iconst 1, 1) := by decide +kernel
theorem dX8_degree_6 : decode cX8_degree 6 = .ok (.goto 109, 3) := by decide +kernel
theorem dX8_degree_9 : decode cX8_degree 9 = .ok (.iload_n 0, 1) := by decide +kernel
theorem dX8_degree_10 : decode cX8_degree 10 = .ok (.sipush 505, 3) := by decide +kernel
theorem dX8_degree_13 : decode cX8_degree 13 = .ok (.if_icmp .ge 7, 3) := by decide +kernel
theorem dX8_degree_16 : decode cX8_degree 16 = .ok (.iconst 2, 1) := by decide +kernel
theorem dX8_degree_17 : decode cX8_degree 17 = .ok (.goto 98, 3) := by decide +kernel
theorem dX8_degree_20 : decode cX8_degree 20 = .ok (.iload_n 0, 1) := by decide +kernel
theorem dX8_degree_21 : decode cX8_degree 21 = .ok (.sipush 671, 3) := by decide +kernel
theorem dX8_degree_24 : decode cX8_degree 24 = .ok (.if_icmp .ge 7, 3) := by decide +kernel
theorem dX8_degree_27 : decode cX8_degree 27 = .ok (.iconst 3, 1) := by decide +kernel
theorem dX8_degree_28 : decode cX8_degree 28 = .ok (.goto 87, 3) := by decide +kernel
theorem dX8_degree_31 : decode cX8_degree 31 = .ok (.iload_n 0, 1) := by decide +kernel
theorem dX8_degree_32 : decode cX8_degree 32 = .ok (.sipush 754, 3) := by decide +kernel
theorem dX8_degree_35 : decode cX8_degree 35 = .ok (.if_icmp .ge 7, 3) := by decide +kernel
theorem dX8_degree_38 : decode cX8_degree 38 = .ok (.iconst 4, 1) := by decide +kernel
theorem dX8_degree_39 : decode cX8_degree 39 = .ok (.goto 76, 3) := by decide +kernel
theorem dX8_degree_42 : decode cX8_degree 42 = .ok (.iload_n 0, 1) := by decide +kernel
theorem dX8_degree_43 : decode cX8_degree 43 = .ok (.sipush 804, 3) := by decide +kernel
theorem dX8_degree_46 : decode cX8_degree 46 = .ok (.if_icmp .ge 7, 3) := by decide +kernel
theorem dX8_degree_49 : decode cX8_degree 49 = .ok (.iconst 5, 1) := by decide +kernel
theorem dX8_degree_50 : decode cX8_degree 50 = .ok (.goto 65, 3) := by decide +kernel
theorem dX8_degree_53 : decode cX8_degree 53 = .ok (.iload_n 0, 1) := by decide +kernel
theorem dX8_degree_54 : decode cX8_degree 54 = .ok (.sipush 837, 3) := by decide +kernel
theorem dX8_degree_57 : decode cX8_degree 57 = .ok (.if_icmp .ge 8, 3) := by decide +kernel
theorem dX8_degree_60 : decode cX8_degree 60 = .ok (.bipush 6, 2) := by decide +kernel
theorem dX8_degree_62 : decode cX8_degree 62 = .ok (.goto 53, 3) := by decide +kernel
theorem dX8_degree_65 : decode cX8_degree 65 = .ok (.iload_n 0, 1) := by decide +kernel
theorem dX8_degree_66 : decode cX8_degree 66 = .ok (.sipush 861, 3) := by decide +kernel
theorem dX8_degree_69 : decode cX8_degree 69 = .ok (.if_icmp .ge 8, 3) := by decide +kernel
theorem dX8_degree_72 : decode cX8_degree 72 = .ok (.bipush 7, 2) := by decide +kernel
theorem dX8_degree_74 : decode cX8_degree 74 = .ok (.goto 41, 3) := by decide +kernel
theorem dX8_degree_77 : decode cX8_degree 77 = .ok (.iload_n 0, 1) := by decide +kernel
theorem dX8_degree_78 : decode cX8_degree 78 = .ok (.sipush 879, 3) := by decide +kernel
theorem dX8_degree_81 : decode cX8_degree 81 = .ok (.if_icmp .ge 8, 3) := by decide +kernel
theorem dX8_degree_84 : decode cX8_degree 84 = .ok (.bipush 8, 2) := by decide +kernel
theorem dX8_degree_86 : decode cX8_degree 86 = .ok (.goto 29, 3) := by decide +kernel
theorem dX8_degree_89 : decode cX8_degree 89 = .ok (.iload_n 0, 1) := by decide +kernel
theorem dX8_degree_90 : decode cX8_degree 90 = .ok (.sipush 900, 3) := by decide +kernel
theorem dX8_degree_93 : decode cX8_degree 93 = .ok (.if_icmp .ge 8, 3) := by decide +kernel
theorem dX8_degree_96 : decode cX8_degree 96 = .ok (.bipush 10, 2) := by decide +kernel
theorem dX8_degree_98 : decode cX8_degree 98 = .ok (.goto 17, 3) := by decide +kernel
theorem dX8_degree_101 : decode cX8_degree 101 = .ok (.iload_n 0, 1) := by decide +kernel
theorem dX8_degree_102 : decode cX8_degree 102 = .ok (.sipush 960, 3) := by decide +kernel
theorem dX8_degree_105 : decode cX8_degree 105 = .ok (.if_icmp .ge 8, 3) := by decide +kernel
theorem dX8_degree_108 : decode cX8_degree 108 = .ok (.bipush 20, 2) := by decide +kernel
theorem dX8_degree_110 : decode cX8_degree 110 = .ok (.goto 5, 3) := by decide +kernel
theorem dX8_degree_113 : decode cX8_degree 113 = .ok (.bipush 40, 2) := by decide +kernel
theorem dX8_degree_115 : decode cX8_degree 115 = .ok (.ireturn, 1) := by decide +kernel
theorem dX8_packet_0 : decode cX8_packet 0 = .ok (.aload_n 0, 1) := by decide +kernel
theorem dX8_packet_1 : decode cX8_packet 1 = .ok (.invokevirtual 55, 3) := by decide +kernel
theorem dX8_packet_4 : decode cX8_packet 4 = .ok (.iload_n 1, 1) := by decide +kernel
theorem dX8_packet_5 : decode cX8_packet 5 = .ok (.bipush 11, 2) := by decide +kernel
theorem dX8_packet_7 : decode cX8_packet 7 = .ok (.iadd, 1) := by decide +kernel
theorem dX8_packet_8 : decode cX8_packet 8 = .ok (.istore 4, 2) := by decide +kernel
theorem dX8_packet_10 : decode cX8_packet 10 = .ok (.iload_n 3, 1) := by decide +kernel
theorem dX8_packet_11 : decode cX8_packet 11 = .ok (.i2l, 1) := by decide +kernel
theorem dX8_packet_12 : decode cX8_packet 12 = .ok (.ldc2_w 62, 3) := by decide +kernel
theorem dX8_packet_15 : decode cX8_packet 15 = .ok (.iload_n 2, 1) := by decide +kernel
theorem dX8_packet_16 : decode cX8_packet 16 = .ok (.i2l, 1) := by decide +kernel
theorem dX8_packet_17 : decode cX8_packet 17 = .ok (.lmul, 1) := by decide +kernel
theorem dX8_packet_18 : decode cX8_packet 18 = .ok (.ladd, 1) := by decide +kernel
theorem dX8_packet_19 : decode cX8_packet 19 = .ok (.lstore 5, 2) := by decide +kernel
theorem dX8_packet_21 : decode cX8_packet 21 = .ok (.lload 5, 2) := by decide +kernel
theorem dX8_packet_23 : decode cX8_packet 23 = .ok (.iconst 0, 1) := by decide +kernel
theorem dX8_packet_24 : decode cX8_packet 24 = .ok (.sipush 1000, 3) := by decide +kernel
theorem dX8_packet_27 : decode cX8_packet 27 = .ok (.invokestatic 64, 3) := by decide +kernel
theorem dX8_packet_30 : decode cX8_packet 30 = .ok (.invokestatic 68, 3) := by decide +kernel
theorem dX8_packet_33 : decode cX8_packet 33 = .ok (.istore 7, 2) := by decide +kernel
theorem dX8_packet_35 : decode cX8_packet 35 = .ok (.iload 7, 2) := by decide +kernel
theorem dX8_packet_37 : decode cX8_packet 37 = .ok (.iload 4, 2) := by decide +kernel
theorem dX8_packet_39 : decode cX8_packet 39 = .ok (.if_icmp .le 8, 3) := by decide +kernel
theorem dX8_packet_42 : decode cX8_packet 42 = .ok (.iload 4, 2) := by decide +kernel
theorem dX8_packet_44 : decode cX8_packet 44 = .ok (.goto 5, 3) := by decide +kernel
theorem dX8_packet_47 : decode cX8_packet 47 = .ok (.iload 7, 2) := by decide +kernel
theorem dX8_packet_49 : decode cX8_packet 49 = .ok (.istore 7, 2) := by decide +kernel
theorem dX8_packet_51 : decode cX8_packet 51 = .ok (.iload 4, 2) := by decide +kernel
theorem dX8_packet_53 : decode cX8_packet 53 = .ok (.invokestatic 71, 3) := by decide +kernel
theorem dX8_packet_56 : decode cX8_packet 56 = .ok (.istore 8, 2) := by decide +kernel
theorem dX8_packet_58 : decode cX8_packet 58 = .ok (.lload 5, 2) := by decide +kernel
theorem dX8_packet_60 : decode cX8_packet 60 = .ok (.iconst 2, 1) := by decide +kernel
theorem dX8_packet_61 : decode cX8_packet 61 = .ok (.iload 8, 2) := by decide +kernel
theorem dX8_packet_63 : decode cX8_packet 63 = .ok (.invokestatic 64, 3) := by decide +kernel
theorem dX8_packet_66 : decode cX8_packet 66 = .ok (.istore 9, 2) := by decide +kernel
theorem dX8_packet_68 : decode cX8_packet 68 = .ok (.iconst 1, 1) := by decide +kernel
theorem dX8_packet_69 : decode cX8_packet 69 = .ok (.lload 5, 2) := by decide +kernel
theorem dX8_packet_71 : decode cX8_packet 71 = .ok (.iconst 1, 1) := by decide +kernel
theorem dX8_packet_72 : decode cX8_packet 72 = .ok (.iload 8, 2) := by decide +kernel
theorem dX8_packet_74 : decode cX8_packet 74 = .ok (.iconst 1, 1) := by decide +kernel
theorem dX8_packet_75 : decode cX8_packet 75 = .ok (.isub, 1) := by decide +kernel
theorem dX8_packet_76 : decode cX8_packet 76 = .ok (.invokestatic 64, 3) := by decide +kernel
theorem dX8_packet_79 : decode cX8_packet 79 = .ok (.iadd, 1) := by decide +kernel
theorem dX8_packet_80 : decode cX8_packet 80 = .ok (.istore 10, 2) := by decide +kernel
theorem dX8_packet_82 : decode cX8_packet 82 = .ok (.iconst 0, 1) := by decide +kernel
theorem dX8_packet_83 : decode cX8_packet 83 = .ok (.istore 11, 2) := by decide +kernel
theorem dX8_packet_85 : decode cX8_packet 85 = .ok (.iload 11, 2) := by decide +kernel
theorem dX8_packet_87 : decode cX8_packet 87 = .ok (.iload 7, 2) := by decide +kernel
theorem dX8_packet_89 : decode cX8_packet 89 = .ok (.if_icmp .ge 34, 3) := by decide +kernel
theorem dX8_packet_92 : decode cX8_packet 92 = .ok (.iload 9, 2) := by decide +kernel
theorem dX8_packet_94 : decode cX8_packet 94 = .ok (.iload 4, 2) := by decide +kernel
theorem dX8_packet_96 : decode cX8_packet 96 = .ok (.if_icmp .ge 14, 3) := by decide +kernel
theorem dX8_packet_99 : decode cX8_packet 99 = .ok (.aload_n 0, 1) := by decide +kernel
theorem dX8_packet_100 : decode cX8_packet 100 = .ok (.getfield 29, 3) := by decide +kernel
theorem dX8_packet_103 : decode cX8_packet 103 = .ok (.iload 9, 2) := by decide +kernel
theorem dX8_packet_105 : decode cX8_packet 105 = .ok (.iconst 1, 1) := by decide +kernel
theorem dX8_packet_106 : decode cX8_packet 106 = .ok (.iastore, 1) := by decide +kernel
theorem dX8_packet_107 : decode cX8_packet 107 = .ok (.iinc 11 1, 3) := by decide +kernel
theorem dX8_packet_110 : decode cX8_packet 110 = .ok (.iload 9, 2) := by decide +kernel
theorem dX8_packet_112 : decode cX8_packet 112 = .ok (.iload 10, 2) := by decide +kernel
theorem dX8_packet_114 : decode cX8_packet 114 = .ok (.iadd, 1) := by decide +kernel
theorem dX8_packet_115 : decode cX8_packet 115 = .ok (.iload 8, 2) := by decide +kernel
theorem dX8_packet_117 : decode cX8_packet 117 = .ok (.irem, 1) := by decide +kernel
theorem dX8_packet_118 : decode cX8_packet 118 = .ok (.istore 9, 2) := by decide +kernel
theorem dX8_packet_120 : decode cX8_packet 120 = .ok (.goto (-35), 3) := by decide +kernel
theorem dX8_packet_123 : decode cX8_packet 123 = .ok (.iload 7, 2) := by decide +kernel
theorem dX8_packet_125 : decode cX8_packet 125 = .ok (.ireturn, 1) := by decide +kernel
theorem dX8_isReduced_0 : decode cX8_isReduced 0 = .ok (.iconst 0, 1) := by decide +kernel
theorem dX8_isReduced_1 : decode cX8_isReduced 1 = .ok (.istore_n 2, 1) := by decide +kernel
theorem dX8_isReduced_2 : decode cX8_isReduced 2 = .ok (.iload_n 2, 1) := by decide +kernel
theorem dX8_isReduced_3 : decode cX8_isReduced 3 = .ok (.aload_n 0, 1) := by decide +kernel
theorem dX8_isReduced_4 : decode cX8_isReduced 4 = .ok (.getfield 74, 3) := by decide +kernel
theorem dX8_isReduced_7 : decode cX8_isReduced 7 = .ok (.if_icmp .ge 67, 3) := by decide +kernel
theorem dX8_isReduced_10 : decode cX8_isReduced 10 = .ok (.aload_n 0, 1) := by decide +kernel
theorem dX8_isReduced_11 : decode cX8_isReduced 11 = .ok (.getfield 29, 3) := by decide +kernel
theorem dX8_isReduced_14 : decode cX8_isReduced 14 = .ok (.aload_n 0, 1) := by decide +kernel
theorem dX8_isReduced_15 : decode cX8_isReduced 15 = .ok (.getfield 26, 3) := by decide +kernel
theorem dX8_isReduced_18 : decode cX8_isReduced 18 = .ok (.iload_n 2, 1) := by decide +kernel
theorem dX8_isReduced_19 : decode cX8_isReduced 19 = .ok (.iaload, 1) := by decide +kernel
theorem dX8_isReduced_20 : decode cX8_isReduced 20 = .ok (.iaload, 1) := by decide +kernel
theorem dX8_isReduced_21 : decode cX8_isReduced 21 = .ok (.istore_n 3, 1) := by decide +kernel
theorem dX8_isReduced_22 : decode cX8_isReduced 22 = .ok (.iconst 0, 1) := by decide +kernel
theorem dX8_isReduced_23 : decode cX8_isReduced 23 = .ok (.istore 4, 2) := by decide +kernel
theorem dX8_isReduced_25 : decode cX8_isReduced 25 = .ok (.iload 4, 2) := by decide +kernel
theorem dX8_isReduced_27 : decode cX8_isReduced 27 = .ok (.bipush 75, 2) := by decide +kernel
theorem dX8_isReduced_29 : decode cX8_isReduced 29 = .ok (.if_icmp .ge 39, 3) := by decide +kernel
theorem dX8_isReduced_32 : decode cX8_isReduced 32 = .ok (.iload_n 3, 1) := by decide +kernel
theorem dX8_isReduced_33 : decode cX8_isReduced 33 = .ok (.ifCond .eq 35, 3) := by decide +kernel
theorem dX8_isReduced_36 : decode cX8_isReduced 36 = .ok (.aload_n 0, 1) := by decide +kernel
theorem dX8_isReduced_37 : decode cX8_isReduced 37 = .ok (.getfield 29, 3) := by decide +kernel
theorem dX8_isReduced_40 : decode cX8_isReduced 40 = .ok (.iload 4, 2) := by decide +kernel
theorem dX8_isReduced_42 : decode cX8_isReduced 42 = .ok (.dup2, 1) := by decide +kernel
theorem dX8_isReduced_43 : decode cX8_isReduced 43 = .ok (.iaload, 1) := by decide +kernel
theorem dX8_isReduced_44 : decode cX8_isReduced 44 = .ok (.iload_n 3, 1) := by decide +kernel
theorem dX8_isReduced_45 : decode cX8_isReduced 45 = .ok (.aload_n 0, 1) := by decide +kernel
theorem dX8_isReduced_46 : decode cX8_isReduced 46 = .ok (.getfield 23, 3) := by decide +kernel
theorem dX8_isReduced_49 : decode cX8_isReduced 49 = .ok (.bipush 75, 2) := by decide +kernel
theorem dX8_isReduced_51 : decode cX8_isReduced 51 = .ok (.iload_n 2, 1) := by decide +kernel
theorem dX8_isReduced_52 : decode cX8_isReduced 52 = .ok (.imul, 1) := by decide +kernel
theorem dX8_isReduced_53 : decode cX8_isReduced 53 = .ok (.iload 4, 2) := by decide +kernel
theorem dX8_isReduced_55 : decode cX8_isReduced 55 = .ok (.iadd, 1) := by decide +kernel
theorem dX8_isReduced_56 : decode cX8_isReduced 56 = .ok (.iaload, 1) := by decide +kernel
theorem dX8_isReduced_57 : decode cX8_isReduced 57 = .ok (.invokestatic 38, 3) := by decide +kernel
theorem dX8_isReduced_60 : decode cX8_isReduced 60 = .ok (.ixor, 1) := by decide +kernel
theorem dX8_isReduced_61 : decode cX8_isReduced 61 = .ok (.iastore, 1) := by decide +kernel
theorem dX8_isReduced_62 : decode cX8_isReduced 62 = .ok (.iinc 4 1, 3) := by decide +kernel
theorem dX8_isReduced_65 : decode cX8_isReduced 65 = .ok (.goto (-40), 3) := by decide +kernel
theorem dX8_isReduced_68 : decode cX8_isReduced 68 = .ok (.iinc 2 1, 3) := by decide +kernel
theorem dX8_isReduced_71 : decode cX8_isReduced 71 = .ok (.goto (-69), 3) := by decide +kernel
theorem dX8_isReduced_74 : decode cX8_isReduced 74 = .ok (.iconst 1, 1) := by decide +kernel
theorem dX8_isReduced_75 : decode cX8_isReduced 75 = .ok (.istore_n 2, 1) := by decide +kernel
theorem dX8_isReduced_76 : decode cX8_isReduced 76 = .ok (.iconst 0, 1) := by decide +kernel
theorem dX8_isReduced_77 : decode cX8_isReduced 77 = .ok (.istore_n 3, 1) := by decide +kernel
theorem dX8_isReduced_78 : decode cX8_isReduced 78 = .ok (.iload_n 3, 1) := by decide +kernel
theorem dX8_isReduced_79 : decode cX8_isReduced 79 = .ok (.iload_n 1, 1) := by decide +kernel
theorem dX8_isReduced_80 : decode cX8_isReduced 80 = .ok (.if_icmp .ge 28, 3) := by decide +kernel
theorem dX8_isReduced_83 : decode cX8_isReduced 83 = .ok (.iload_n 2, 1) := by decide +kernel
theorem dX8_isReduced_84 : decode cX8_isReduced 84 = .ok (.ifCond .eq 16, 3) := by decide +kernel
theorem dX8_isReduced_87 : decode cX8_isReduced 87 = .ok (.aload_n 0, 1) := by decide +kernel
theorem dX8_isReduced_88 : decode cX8_isReduced 88 = .ok (.getfield 29, 3) := by decide +kernel
theorem dX8_isReduced_91 : decode cX8_isReduced 91 = .ok (.iload_n 3, 1) := by decide +kernel
theorem dX8_isReduced_92 : decode cX8_isReduced 92 = .ok (.iaload, 1) := by decide +kernel
theorem dX8_isReduced_93 : decode cX8_isReduced 93 = .ok (.ifCond .ne 7, 3) := by decide +kernel
theorem dX8_isReduced_96 : decode cX8_isReduced 96 = .ok (.iconst 1, 1) := by decide +kernel
theorem dX8_isReduced_97 : decode cX8_isReduced 97 = .ok (.goto 4, 3) := by decide +kernel
theorem dX8_isReduced_100 : decode cX8_isReduced 100 = .ok (.iconst 0, 1) := by decide +kernel
theorem dX8_isReduced_101 : decode cX8_isReduced 101 = .ok (.istore_n 2, 1) := by decide +kernel
theorem dX8_isReduced_102 : decode cX8_isReduced 102 = .ok (.iinc 3 1, 3) := by decide +kernel
theorem dX8_isReduced_105 : decode cX8_isReduced 105 = .ok (.goto (-27), 3) := by decide +kernel
theorem dX8_isReduced_108 : decode cX8_isReduced 108 = .ok (.iload_n 2, 1) := by decide +kernel
theorem dX8_isReduced_109 : decode cX8_isReduced 109 = .ok (.ireturn, 1) := by decide +kernel
theorem dX8_isAdded_0 : decode cX8_isAdded 0 = .ok (.aload_n 0, 1) := by decide +kernel
theorem dX8_isAdded_1 : decode cX8_isAdded 1 = .ok (.iload_n 1, 1) := by decide +kernel
theorem dX8_isAdded_2 : decode cX8_isAdded 2 = .ok (.invokevirtual 77, 3) := by decide +kernel
theorem dX8_isAdded_5 : decode cX8_isAdded 5 = .ok (.ifCond .eq 5, 3) := by decide +kernel
theorem dX8_isAdded_8 : decode cX8_isAdded 8 = .ok (.iconst 0, 1) := by decide +kernel
theorem dX8_isAdded_9 : decode cX8_isAdded 9 = .ok (.ireturn, 1) := by decide +kernel
theorem dX8_isAdded_10 : decode cX8_isAdded 10 = .ok (.iconst 0, 1) := by decide +kernel
theorem dX8_isAdded_11 : decode cX8_isAdded 11 = .ok (.istore_n 2, 1) := by decide +kernel
theorem dX8_isAdded_12 : decode cX8_isAdded 12 = .ok (.aload_n 0, 1) := by decide +kernel
theorem dX8_isAdded_13 : decode cX8_isAdded 13 = .ok (.getfield 29, 3) := by decide +kernel
theorem dX8_isAdded_16 : decode cX8_isAdded 16 = .ok (.iload_n 2, 1) := by decide +kernel
theorem dX8_isAdded_17 : decode cX8_isAdded 17 = .ok (.iaload, 1) := by decide +kernel
theorem dX8_isAdded_18 : decode cX8_isAdded 18 = .ok (.ifCond .ne 9, 3) := by decide +kernel
theorem dX8_isAdded_21 : decode cX8_isAdded 21 = .ok (.iinc 2 1, 3) := by decide +kernel
theorem dX8_isAdded_24 : decode cX8_isAdded 24 = .ok (.goto (-12), 3) := by decide +kernel
theorem dX8_isAdded_27 : decode cX8_isAdded 27 = .ok (.aload_n 0, 1) := by decide +kernel
theorem dX8_isAdded_28 : decode cX8_isAdded 28 = .ok (.getfield 29, 3) := by decide +kernel
theorem dX8_isAdded_31 : decode cX8_isAdded 31 = .ok (.iload_n 2, 1) := by decide +kernel
theorem dX8_isAdded_32 : decode cX8_isAdded 32 = .ok (.iaload, 1) := by decide +kernel
theorem dX8_isAdded_33 : decode cX8_isAdded 33 = .ok (.invokestatic 81, 3) := by decide +kernel
theorem dX8_isAdded_36 : decode cX8_isAdded 36 = .ok (.istore_n 3, 1) := by decide +kernel
theorem dX8_isAdded_37 : decode cX8_isAdded 37 = .ok (.iconst 0, 1) := by decide +kernel
theorem dX8_isAdded_38 : decode cX8_isAdded 38 = .ok (.istore 4, 2) := by decide +kernel
theorem dX8_isAdded_40 : decode cX8_isAdded 40 = .ok (.iload 4, 2) := by decide +kernel
theorem dX8_isAdded_42 : decode cX8_isAdded 42 = .ok (.bipush 75, 2) := by decide +kernel
theorem dX8_isAdded_44 : decode cX8_isAdded 44 = .ok (.if_icmp .ge 35, 3) := by decide +kernel
theorem dX8_isAdded_47 : decode cX8_isAdded 47 = .ok (.aload_n 0, 1) := by decide +kernel
theorem dX8_isAdded_48 : decode cX8_isAdded 48 = .ok (.getfield 23, 3) := by decide +kernel
theorem dX8_isAdded_51 : decode cX8_isAdded 51 = .ok (.bipush 75, 2) := by decide +kernel
theorem dX8_isAdded_53 : decode cX8_isAdded 53 = .ok (.aload_n 0, 1) := by decide +kernel
theorem dX8_isAdded_54 : decode cX8_isAdded 54 = .ok (.getfield 74, 3) := by decide +kernel
theorem dX8_isAdded_57 : decode cX8_isAdded 57 = .ok (.imul, 1) := by decide +kernel
theorem dX8_isAdded_58 : decode cX8_isAdded 58 = .ok (.iload 4, 2) := by decide +kernel
theorem dX8_isAdded_60 : decode cX8_isAdded 60 = .ok (.iadd, 1) := by decide +kernel
theorem dX8_isAdded_61 : decode cX8_isAdded 61 = .ok (.iload_n 3, 1) := by decide +kernel
theorem dX8_isAdded_62 : decode cX8_isAdded 62 = .ok (.aload_n 0, 1) := by decide +kernel
theorem dX8_isAdded_63 : decode cX8_isAdded 63 = .ok (.getfield 29, 3) := by decide +kernel
theorem dX8_isAdded_66 : decode cX8_isAdded 66 = .ok (.iload 4, 2) := by decide +kernel
theorem dX8_isAdded_68 : decode cX8_isAdded 68 = .ok (.iaload, 1) := by decide +kernel
theorem dX8_isAdded_69 : decode cX8_isAdded 69 = .ok (.invokestatic 38, 3) := by decide +kernel
theorem dX8_isAdded_72 : decode cX8_isAdded 72 = .ok (.iastore, 1) := by decide +kernel
theorem dX8_isAdded_73 : decode cX8_isAdded 73 = .ok (.iinc 4 1, 3) := by decide +kernel
theorem dX8_isAdded_76 : decode cX8_isAdded 76 = .ok (.goto (-36), 3) := by decide +kernel
theorem dX8_isAdded_79 : decode cX8_isAdded 79 = .ok (.aload_n 0, 1) := by decide +kernel
theorem dX8_isAdded_80 : decode cX8_isAdded 80 = .ok (.getfield 26, 3) := by decide +kernel
theorem dX8_isAdded_83 : decode cX8_isAdded 83 = .ok (.aload_n 0, 1) := by decide +kernel
theorem dX8_isAdded_84 : decode cX8_isAdded 84 = .ok (.getfield 74, 3) := by decide +kernel
theorem dX8_isAdded_87 : decode cX8_isAdded 87 = .ok (.iload_n 2, 1) := by decide +kernel
theorem dX8_isAdded_88 : decode cX8_isAdded 88 = .ok (.iastore, 1) := by decide +kernel
theorem dX8_isAdded_89 : decode cX8_isAdded 89 = .ok (.aload_n 0, 1) := by decide +kernel
theorem dX8_isAdded_90 : decode cX8_isAdded 90 = .ok (.dup, 1) := by decide +kernel
theorem dX8_isAdded_91 : decode cX8_isAdded 91 = .ok (.getfield 74, 3) := by decide +kernel
theorem dX8_isAdded_94 : decode cX8_isAdded 94 = .ok (.iconst 1, 1) := by decide +kernel
theorem dX8_isAdded_95 : decode cX8_isAdded 95 = .ok (.iadd, 1) := by decide +kernel
theorem dX8_isAdded_96 : decode cX8_isAdded 96 = .ok (.putfield 74, 3) := by decide +kernel
theorem dX8_isAdded_99 : decode cX8_isAdded 99 = .ok (.iconst 0, 1) := by decide +kernel
theorem dX8_isAdded_100 : decode cX8_isAdded 100 = .ok (.istore 4, 2) := by decide +kernel
theorem dX8_isAdded_102 : decode cX8_isAdded 102 = .ok (.iload 4, 2) := by decide +kernel
theorem dX8_isAdded_104 : decode cX8_isAdded 104 = .ok (.aload_n 0, 1) := by decide +kernel
theorem dX8_isAdded_105 : decode cX8_isAdded 105 = .ok (.getfield 74, 3) := by decide +kernel
theorem dX8_isAdded_108 : decode cX8_isAdded 108 = .ok (.iconst 1, 1) := by decide +kernel
theorem dX8_isAdded_109 : decode cX8_isAdded 109 = .ok (.isub, 1) := by decide +kernel
theorem dX8_isAdded_110 : decode cX8_isAdded 110 = .ok (.if_icmp .ge 82, 3) := by decide +kernel
theorem dX8_isAdded_113 : decode cX8_isAdded 113 = .ok (.aload_n 0, 1) := by decide +kernel
theorem dX8_isAdded_114 : decode cX8_isAdded 114 = .ok (.getfield 23, 3) := by decide +kernel
theorem dX8_isAdded_117 : decode cX8_isAdded 117 = .ok (.bipush 75, 2) := by decide +kernel
theorem dX8_isAdded_119 : decode cX8_isAdded 119 = .ok (.iload 4, 2) := by decide +kernel
theorem dX8_isAdded_121 : decode cX8_isAdded 121 = .ok (.imul, 1) := by decide +kernel
theorem dX8_isAdded_122 : decode cX8_isAdded 122 = .ok (.iload_n 2, 1) := by decide +kernel
theorem dX8_isAdded_123 : decode cX8_isAdded 123 = .ok (.iadd, 1) := by decide +kernel
theorem dX8_isAdded_124 : decode cX8_isAdded 124 = .ok (.iaload, 1) := by decide +kernel
theorem dX8_isAdded_125 : decode cX8_isAdded 125 = .ok (.istore 5, 2) := by decide +kernel
theorem dX8_isAdded_127 : decode cX8_isAdded 127 = .ok (.iconst 0, 1) := by decide +kernel
theorem dX8_isAdded_128 : decode cX8_isAdded 128 = .ok (.istore 6, 2) := by decide +kernel
theorem dX8_isAdded_130 : decode cX8_isAdded 130 = .ok (.iload 6, 2) := by decide +kernel
theorem dX8_isAdded_132 : decode cX8_isAdded 132 = .ok (.bipush 75, 2) := by decide +kernel
theorem dX8_isAdded_134 : decode cX8_isAdded 134 = .ok (.if_icmp .ge 52, 3) := by decide +kernel
theorem dX8_isAdded_137 : decode cX8_isAdded 137 = .ok (.iload 5, 2) := by decide +kernel
theorem dX8_isAdded_139 : decode cX8_isAdded 139 = .ok (.ifCond .eq 47, 3) := by decide +kernel
theorem dX8_isAdded_142 : decode cX8_isAdded 142 = .ok (.aload_n 0, 1) := by decide +kernel
theorem dX8_isAdded_143 : decode cX8_isAdded 143 = .ok (.getfield 23, 3) := by decide +kernel
theorem dX8_isAdded_146 : decode cX8_isAdded 146 = .ok (.bipush 75, 2) := by decide +kernel
theorem dX8_isAdded_148 : decode cX8_isAdded 148 = .ok (.iload 4, 2) := by decide +kernel
theorem dX8_isAdded_150 : decode cX8_isAdded 150 = .ok (.imul, 1) := by decide +kernel
theorem dX8_isAdded_151 : decode cX8_isAdded 151 = .ok (.iload 6, 2) := by decide +kernel
theorem dX8_isAdded_153 : decode cX8_isAdded 153 = .ok (.iadd, 1) := by decide +kernel
theorem dX8_isAdded_154 : decode cX8_isAdded 154 = .ok (.dup2, 1) := by decide +kernel
theorem dX8_isAdded_155 : decode cX8_isAdded 155 = .ok (.iaload, 1) := by decide +kernel
theorem dX8_isAdded_156 : decode cX8_isAdded 156 = .ok (.iload 5, 2) := by decide +kernel
theorem dX8_isAdded_158 : decode cX8_isAdded 158 = .ok (.aload_n 0, 1) := by decide +kernel
theorem dX8_isAdded_159 : decode cX8_isAdded 159 = .ok (.getfield 23, 3) := by decide +kernel
theorem dX8_isAdded_162 : decode cX8_isAdded 162 = .ok (.bipush 75, 2) := by decide +kernel
theorem dX8_isAdded_164 : decode cX8_isAdded 164 = .ok (.aload_n 0, 1) := by decide +kernel
theorem dX8_isAdded_165 : decode cX8_isAdded 165 = .ok (.getfield 74, 3) := by decide +kernel
theorem dX8_isAdded_168 : decode cX8_isAdded 168 = .ok (.iconst 1, 1) := by decide +kernel
theorem dX8_isAdded_169 : decode cX8_isAdded 169 = .ok (.isub, 1) := by decide +kernel
theorem dX8_isAdded_170 : decode cX8_isAdded 170 = .ok (.imul, 1) := by decide +kernel
theorem dX8_isAdded_171 : decode cX8_isAdded 171 = .ok (.iload 6, 2) := by decide +kernel
theorem dX8_isAdded_173 : decode cX8_isAdded 173 = .ok (.iadd, 1) := by decide +kernel
theorem dX8_isAdded_174 : decode cX8_isAdded 174 = .ok (.iaload, 1) := by decide +kernel
theorem dX8_isAdded_175 : decode cX8_isAdded 175 = .ok (.invokestatic 38, 3) := by decide +kernel
theorem dX8_isAdded_178 : decode cX8_isAdded 178 = .ok (.ixor, 1) := by decide +kernel
theorem dX8_isAdded_179 : decode cX8_isAdded 179 = .ok (.iastore, 1) := by decide +kernel
theorem dX8_isAdded_180 : decode cX8_isAdded 180 = .ok (.iinc 6 1, 3) := by decide +kernel
theorem dX8_isAdded_183 : decode cX8_isAdded 183 = .ok (.goto (-53), 3) := by decide +kernel
theorem dX8_isAdded_186 : decode cX8_isAdded 186 = .ok (.iinc 4 1, 3) := by decide +kernel
theorem dX8_isAdded_189 : decode cX8_isAdded 189 = .ok (.goto (-87), 3) := by decide +kernel
theorem dX8_isAdded_192 : decode cX8_isAdded 192 = .ok (.iconst 1, 1) := by decide +kernel
theorem dX8_isAdded_193 : decode cX8_isAdded 193 = .ok (.ireturn, 1) := by decide +kernel
theorem dX8_start_0 : decode cX8_start 0 = .ok (.aload_n 0, 1) := by decide +kernel
theorem dX8_start_1 : decode cX8_start 1 = .ok (.iconst 0, 1) := by decide +kernel
theorem dX8_start_2 : decode cX8_start 2 = .ok (.putfield 84, 3) := by decide +kernel
theorem dX8_start_5 : decode cX8_start 5 = .ok (.aload_n 0, 1) := by decide +kernel
theorem dX8_start_6 : decode cX8_start 6 = .ok (.iconst 0, 1) := by decide +kernel
theorem dX8_start_7 : decode cX8_start 7 = .ok (.putfield 74, 3) := by decide +kernel
theorem dX8_start_10 : decode cX8_start 10 = .ok (.iconst 0, 1) := by decide +kernel
theorem dX8_start_11 : decode cX8_start 11 = .ok (.istore_n 2, 1) := by decide +kernel
theorem dX8_start_12 : decode cX8_start 12 = .ok (.iload_n 2, 1) := by decide +kernel
theorem dX8_start_13 : decode cX8_start 13 = .ok (.bipush 11, 2) := by decide +kernel
theorem dX8_start_15 : decode cX8_start 15 = .ok (.if_icmp .ge 24, 3) := by decide +kernel
theorem dX8_start_18 : decode cX8_start 18 = .ok (.aload_n 0, 1) := by decide +kernel
theorem dX8_start_19 : decode cX8_start 19 = .ok (.iload_n 1, 1) := by decide +kernel
theorem dX8_start_20 : decode cX8_start 20 = .ok (.iload_n 2, 1) := by decide +kernel
theorem dX8_start_21 : decode cX8_start 21 = .ok (.invokevirtual 88, 3) := by decide +kernel
theorem dX8_start_24 : decode cX8_start 24 = .ok (.aload_n 0, 1) := by decide +kernel
theorem dX8_start_25 : decode cX8_start 25 = .ok (.iload_n 1, 1) := by decide +kernel
theorem dX8_start_26 : decode cX8_start 26 = .ok (.bipush 11, 2) := by decide +kernel
theorem dX8_start_28 : decode cX8_start 28 = .ok (.iadd, 1) := by decide +kernel
theorem dX8_start_29 : decode cX8_start 29 = .ok (.invokevirtual 92, 3) := by decide +kernel
theorem dX8_start_32 : decode cX8_start 32 = .ok (.pop, 1) := by decide +kernel
theorem dX8_start_33 : decode cX8_start 33 = .ok (.iinc 2 1, 3) := by decide +kernel
theorem dX8_start_36 : decode cX8_start 36 = .ok (.goto (-24), 3) := by decide +kernel
theorem dX8_start_39 : decode cX8_start 39 = .ok (.return_, 1) := by decide +kernel
theorem dX8_isK_0 : decode cX8_isK 0 = .ok (.iload_n 0, 1) := by decide +kernel
theorem dX8_isK_1 : decode cX8_isK 1 = .ok (.iconst 1, 1) := by decide +kernel
theorem dX8_isK_2 : decode cX8_isK 2 = .ok (.if_icmp .lt 13, 3) := by decide +kernel
theorem dX8_isK_5 : decode cX8_isK 5 = .ok (.iload_n 0, 1) := by decide +kernel
theorem dX8_isK_6 : decode cX8_isK 6 = .ok (.bipush 48, 2) := by decide +kernel
theorem dX8_isK_8 : decode cX8_isK 8 = .ok (.if_icmp .gt 7, 3) := by decide +kernel
theorem dX8_isK_11 : decode cX8_isK 11 = .ok (.iconst 1, 1) := by decide +kernel
theorem dX8_isK_12 : decode cX8_isK 12 = .ok (.goto 4, 3) := by decide +kernel
theorem dX8_isK_15 : decode cX8_isK 15 = .ok (.iconst 0, 1) := by decide +kernel
theorem dX8_isK_16 : decode cX8_isK 16 = .ok (.ireturn, 1) := by decide +kernel
theorem dX8_isT_0 : decode cX8_isT 0 = .ok (.iload_n 0, 1) := by decide +kernel
theorem dX8_isT_1 : decode cX8_isT 1 = .ok (.iconst 1, 1) := by decide +kernel
theorem dX8_isT_2 : decode cX8_isT 2 = .ok (.if_icmp .lt 13, 3) := by decide +kernel
theorem dX8_isT_5 : decode cX8_isT 5 = .ok (.iload_n 0, 1) := by decide +kernel
theorem dX8_isT_6 : decode cX8_isT 6 = .ok (.bipush 16, 2) := by decide +kernel
theorem dX8_isT_8 : decode cX8_isT 8 = .ok (.if_icmp .gt 7, 3) := by decide +kernel
theorem dX8_isT_11 : decode cX8_isT 11 = .ok (.iconst 1, 1) := by decide +kernel
theorem dX8_isT_12 : decode cX8_isT 12 = .ok (.goto 4, 3) := by decide +kernel
theorem dX8_isT_15 : decode cX8_isT 15 = .ok (.iconst 0, 1) := by decide +kernel
theorem dX8_isT_16 : decode cX8_isT 16 = .ok (.ireturn, 1) := by decide +kernel
theorem dX8_isFull_0 : decode cX8_isFull 0 = .ok (.aload_n 0, 1) := by decide +kernel
theorem dX8_isFull_1 : decode cX8_isFull 1 = .ok (.iload_n 1, 1) := by decide +kernel
theorem dX8_isFull_2 : decode cX8_isFull 2 = .ok (.invokevirtual 95, 3) := by decide +kernel
theorem dX8_isFull_5 : decode cX8_isFull 5 = .ok (.iconst 0, 1) := by decide +kernel
theorem dX8_isFull_6 : decode cX8_isFull 6 = .ok (.istore_n 3, 1) := by decide +kernel
theorem dX8_isFull_7 : decode cX8_isFull 7 = .ok (.iload_n 3, 1) := by decide +kernel
theorem dX8_isFull_8 : decode cX8_isFull 8 = .ok (.iload_n 1, 1) := by decide +kernel
theorem dX8_isFull_9 : decode cX8_isFull 9 = .ok (.if_icmp .ge 26, 3) := by decide +kernel
theorem dX8_isFull_12 : decode cX8_isFull 12 = .ok (.aload_n 0, 1) := by decide +kernel
theorem dX8_isFull_13 : decode cX8_isFull 13 = .ok (.iload_n 1, 1) := by decide +kernel
theorem dX8_isFull_14 : decode cX8_isFull 14 = .ok (.iload_n 2, 1) := by decide +kernel
theorem dX8_isFull_15 : decode cX8_isFull 15 = .ok (.iload_n 3, 1) := by decide +kernel
theorem dX8_isFull_16 : decode cX8_isFull 16 = .ok (.invokevirtual 99, 3) := by decide +kernel
theorem dX8_isFull_19 : decode cX8_isFull 19 = .ok (.pop, 1) := by decide +kernel
theorem dX8_isFull_20 : decode cX8_isFull 20 = .ok (.aload_n 0, 1) := by decide +kernel
theorem dX8_isFull_21 : decode cX8_isFull 21 = .ok (.iload_n 1, 1) := by decide +kernel
theorem dX8_isFull_22 : decode cX8_isFull 22 = .ok (.bipush 11, 2) := by decide +kernel
theorem dX8_isFull_24 : decode cX8_isFull 24 = .ok (.iadd, 1) := by decide +kernel
theorem dX8_isFull_25 : decode cX8_isFull 25 = .ok (.invokevirtual 92, 3) := by decide +kernel
theorem dX8_isFull_28 : decode cX8_isFull 28 = .ok (.pop, 1) := by decide +kernel
theorem dX8_isFull_29 : decode cX8_isFull 29 = .ok (.iinc 3 1, 3) := by decide +kernel
theorem dX8_isFull_32 : decode cX8_isFull 32 = .ok (.goto (-25), 3) := by decide +kernel
theorem dX8_isFull_35 : decode cX8_isFull 35 = .ok (.aload_n 0, 1) := by decide +kernel
theorem dX8_isFull_36 : decode cX8_isFull 36 = .ok (.getfield 74, 3) := by decide +kernel
theorem dX8_isFull_39 : decode cX8_isFull 39 = .ok (.iload_n 1, 1) := by decide +kernel
theorem dX8_isFull_40 : decode cX8_isFull 40 = .ok (.bipush 11, 2) := by decide +kernel
theorem dX8_isFull_42 : decode cX8_isFull 42 = .ok (.iadd, 1) := by decide +kernel
theorem dX8_isFull_43 : decode cX8_isFull 43 = .ok (.if_icmp .ne 7, 3) := by decide +kernel
theorem dX8_isFull_46 : decode cX8_isFull 46 = .ok (.iconst 1, 1) := by decide +kernel
theorem dX8_isFull_47 : decode cX8_isFull 47 = .ok (.goto 4, 3) := by decide +kernel
theorem dX8_isFull_50 : decode cX8_isFull 50 = .ok (.iconst 0, 1) := by decide +kernel
theorem dX8_isFull_51 : decode cX8_isFull 51 = .ok (.ireturn, 1) := by decide +kernel
theorem dX8_turnOf_0 : decode cX8_turnOf 0 = .ok (.aload_n 0, 1) := by decide +kernel
theorem dX8_turnOf_1 : decode cX8_turnOf 1 = .ok (.getfield 13, 3) := by decide +kernel
theorem dX8_turnOf_4 : decode cX8_turnOf 4 = .ok (.iload_n 1, 1) := by decide +kernel
theorem dX8_turnOf_5 : decode cX8_turnOf 5 = .ok (.iaload, 1) := by decide +kernel
theorem dX8_turnOf_6 : decode cX8_turnOf 6 = .ok (.iconst (-1), 1) := by decide +kernel
theorem dX8_turnOf_7 : decode cX8_turnOf 7 = .ok (.if_icmp .ne 27, 3) := by decide +kernel
theorem dX8_turnOf_10 : decode cX8_turnOf 10 = .ok (.iconst 0, 1) := by decide +kernel
theorem dX8_turnOf_11 : decode cX8_turnOf 11 = .ok (.istore_n 2, 1) := by decide +kernel
theorem dX8_turnOf_12 : decode cX8_turnOf 12 = .ok (.aload_n 0, 1) := by decide +kernel
theorem dX8_turnOf_13 : decode cX8_turnOf 13 = .ok (.iload_n 1, 1) := by decide +kernel
theorem dX8_turnOf_14 : decode cX8_turnOf 14 = .ok (.iload_n 2, 1) := by decide +kernel
theorem dX8_turnOf_15 : decode cX8_turnOf 15 = .ok (.invokevirtual 103, 3) := by decide +kernel
theorem dX8_turnOf_18 : decode cX8_turnOf 18 = .ok (.ifCond .ne 9, 3) := by decide +kernel
theorem dX8_turnOf_21 : decode cX8_turnOf 21 = .ok (.iinc 2 1, 3) := by decide +kernel
theorem dX8_turnOf_24 : decode cX8_turnOf 24 = .ok (.goto (-12), 3) := by decide +kernel
theorem dX8_turnOf_27 : decode cX8_turnOf 27 = .ok (.aload_n 0, 1) := by decide +kernel
theorem dX8_turnOf_28 : decode cX8_turnOf 28 = .ok (.getfield 13, 3) := by decide +kernel
theorem dX8_turnOf_31 : decode cX8_turnOf 31 = .ok (.iload_n 1, 1) := by decide +kernel
theorem dX8_turnOf_32 : decode cX8_turnOf 32 = .ok (.iload_n 2, 1) := by decide +kernel
theorem dX8_turnOf_33 : decode cX8_turnOf 33 = .ok (.iastore, 1) := by decide +kernel
theorem dX8_turnOf_34 : decode cX8_turnOf 34 = .ok (.aload_n 0, 1) := by decide +kernel
theorem dX8_turnOf_35 : decode cX8_turnOf 35 = .ok (.getfield 13, 3) := by decide +kernel
theorem dX8_turnOf_38 : decode cX8_turnOf 38 = .ok (.iload_n 1, 1) := by decide +kernel
theorem dX8_turnOf_39 : decode cX8_turnOf 39 = .ok (.iaload, 1) := by decide +kernel
theorem dX8_turnOf_40 : decode cX8_turnOf 40 = .ok (.ireturn, 1) := by decide +kernel
theorem dX8_turn_0 : decode cX8_turn 0 = .ok (.aload_n 0, 1) := by decide +kernel
theorem dX8_turn_1 : decode cX8_turn 1 = .ok (.iload_n 1, 1) := by decide +kernel
theorem dX8_turn_2 : decode cX8_turn 2 = .ok (.invokestatic 107, 3) := by decide +kernel
theorem dX8_turn_5 : decode cX8_turn 5 = .ok (.ifCond .eq 7, 3) := by decide +kernel
theorem dX8_turn_8 : decode cX8_turn 8 = .ok (.iconst 0, 1) := by decide +kernel
theorem dX8_turn_9 : decode cX8_turn 9 = .ok (.goto 4, 3) := by decide +kernel
theorem dX8_turn_12 : decode cX8_turn 12 = .ok (.iconst 1, 1) := by decide +kernel
theorem dX8_turn_13 : decode cX8_turn 13 = .ok (.putfield 42, 3) := by decide +kernel
theorem dX8_turn_16 : decode cX8_turn 16 = .ok (.aload_n 0, 1) := by decide +kernel
theorem dX8_turn_17 : decode cX8_turn 17 = .ok (.getfield 42, 3) := by decide +kernel
theorem dX8_turn_20 : decode cX8_turn 20 = .ok (.ifCond .le 7, 3) := by decide +kernel
theorem dX8_turn_23 : decode cX8_turn 23 = .ok (.iconst 0, 1) := by decide +kernel
theorem dX8_turn_24 : decode cX8_turn 24 = .ok (.goto 8, 3) := by decide +kernel
theorem dX8_turn_27 : decode cX8_turn 27 = .ok (.aload_n 0, 1) := by decide +kernel
theorem dX8_turn_28 : decode cX8_turn 28 = .ok (.iload_n 1, 1) := by decide +kernel
theorem dX8_turn_29 : decode cX8_turn 29 = .ok (.invokevirtual 110, 3) := by decide +kernel
theorem dX8_turn_32 : decode cX8_turn 32 = .ok (.ireturn, 1) := by decide +kernel
theorem dX8_block_0 : decode cX8_block 0 = .ok (.aload_n 0, 1) := by decide +kernel
theorem dX8_block_1 : decode cX8_block 1 = .ok (.iload_n 1, 1) := by decide +kernel
theorem dX8_block_2 : decode cX8_block 2 = .ok (.invokestatic 107, 3) := by decide +kernel
theorem dX8_block_5 : decode cX8_block 5 = .ok (.ifCond .eq 20, 3) := by decide +kernel
theorem dX8_block_8 : decode cX8_block 8 = .ok (.iload_n 2, 1) := by decide +kernel
theorem dX8_block_9 : decode cX8_block 9 = .ok (.invokestatic 113, 3) := by decide +kernel
theorem dX8_block_12 : decode cX8_block 12 = .ok (.ifCond .eq 13, 3) := by decide +kernel
theorem dX8_block_15 : decode cX8_block 15 = .ok (.aload_n 0, 1) := by decide +kernel
theorem dX8_block_16 : decode cX8_block 16 = .ok (.getfield 46, 3) := by decide +kernel
theorem dX8_block_19 : decode cX8_block 19 = .ok (.iload_n 1, 1) := by decide +kernel
theorem dX8_block_20 : decode cX8_block 20 = .ok (.iload_n 2, 1) := by decide +kernel
theorem dX8_block_21 : decode cX8_block 21 = .ok (.imul, 1) := by decide +kernel
theorem dX8_block_22 : decode cX8_block 22 = .ok (.if_icmp .eq 7, 3) := by decide +kernel
theorem dX8_block_25 : decode cX8_block 25 = .ok (.iconst 1, 1) := by decide +kernel
theorem dX8_block_26 : decode cX8_block 26 = .ok (.goto 4, 3) := by decide +kernel
theorem dX8_block_29 : decode cX8_block 29 = .ok (.iconst 0, 1) := by decide +kernel
theorem dX8_block_30 : decode cX8_block 30 = .ok (.putfield 42, 3) := by decide +kernel
theorem dX8_block_33 : decode cX8_block 33 = .ok (.aload_n 0, 1) := by decide +kernel
theorem dX8_block_34 : decode cX8_block 34 = .ok (.getfield 42, 3) := by decide +kernel
theorem dX8_block_37 : decode cX8_block 37 = .ok (.ifCond .le 4, 3) := by decide +kernel
theorem dX8_block_40 : decode cX8_block 40 = .ok (.return_, 1) := by decide +kernel
theorem dX8_block_41 : decode cX8_block 41 = .ok (.aload_n 0, 1) := by decide +kernel
theorem dX8_block_42 : decode cX8_block 42 = .ok (.iload_n 1, 1) := by decide +kernel
theorem dX8_block_43 : decode cX8_block 43 = .ok (.invokevirtual 110, 3) := by decide +kernel
theorem dX8_block_46 : decode cX8_block 46 = .ok (.istore_n 3, 1) := by decide +kernel
theorem dX8_block_47 : decode cX8_block 47 = .ok (.iload_n 1, 1) := by decide +kernel
theorem dX8_block_48 : decode cX8_block 48 = .ok (.bipush 11, 2) := by decide +kernel
theorem dX8_block_50 : decode cX8_block 50 = .ok (.iadd, 1) := by decide +kernel
theorem dX8_block_51 : decode cX8_block 51 = .ok (.istore 4, 2) := by decide +kernel
theorem dX8_block_53 : decode cX8_block 53 = .ok (.aload_n 0, 1) := by decide +kernel
theorem dX8_block_54 : decode cX8_block 54 = .ok (.iload_n 1, 1) := by decide +kernel
theorem dX8_block_55 : decode cX8_block 55 = .ok (.invokevirtual 95, 3) := by decide +kernel
theorem dX8_block_58 : decode cX8_block 58 = .ok (.iconst 0, 1) := by decide +kernel
theorem dX8_block_59 : decode cX8_block 59 = .ok (.istore 5, 2) := by decide +kernel
theorem dX8_block_61 : decode cX8_block 61 = .ok (.iload 5, 2) := by decide +kernel
theorem dX8_block_63 : decode cX8_block 63 = .ok (.iload_n 1, 1) := by decide +kernel
theorem dX8_block_64 : decode cX8_block 64 = .ok (.if_icmp .ge 66, 3) := by decide +kernel
theorem dX8_block_67 : decode cX8_block 67 = .ok (.aload_n 0, 1) := by decide +kernel
theorem dX8_block_68 : decode cX8_block 68 = .ok (.iload_n 1, 1) := by decide +kernel
theorem dX8_block_69 : decode cX8_block 69 = .ok (.iload_n 3, 1) := by decide +kernel
theorem dX8_block_70 : decode cX8_block 70 = .ok (.iload 5, 2) := by decide +kernel
theorem dX8_block_72 : decode cX8_block 72 = .ok (.invokevirtual 99, 3) := by decide +kernel
theorem dX8_block_75 : decode cX8_block 75 = .ok (.pop, 1) := by decide +kernel
theorem dX8_block_76 : decode cX8_block 76 = .ok (.iconst 0, 1) := by decide +kernel
theorem dX8_block_77 : decode cX8_block 77 = .ok (.istore 6, 2) := by decide +kernel
theorem dX8_block_79 : decode cX8_block 79 = .ok (.iload 6, 2) := by decide +kernel
theorem dX8_block_81 : decode cX8_block 81 = .ok (.iload_n 2, 1) := by decide +kernel
theorem dX8_block_82 : decode cX8_block 82 = .ok (.if_icmp .ge 35, 3) := by decide +kernel
theorem dX8_block_85 : decode cX8_block 85 = .ok (.aload_n 0, 1) := by decide +kernel
theorem dX8_block_86 : decode cX8_block 86 = .ok (.getfield 29, 3) := by decide +kernel
theorem dX8_block_89 : decode cX8_block 89 = .ok (.bipush 59, 2) := by decide +kernel
theorem dX8_block_91 : decode cX8_block 91 = .ok (.iload 6, 2) := by decide +kernel
theorem dX8_block_93 : decode cX8_block 93 = .ok (.iadd, 1) := by decide +kernel
theorem dX8_block_94 : decode cX8_block 94 = .ok (.aload_n 0, 1) := by decide +kernel
theorem dX8_block_95 : decode cX8_block 95 = .ok (.getfield 7, 3) := by decide +kernel
theorem dX8_block_98 : decode cX8_block 98 = .ok (.iload_n 2, 1) := by decide +kernel
theorem dX8_block_99 : decode cX8_block 99 = .ok (.iload 5, 2) := by decide +kernel
theorem dX8_block_101 : decode cX8_block 101 = .ok (.imul, 1) := by decide +kernel
theorem dX8_block_102 : decode cX8_block 102 = .ok (.iload 6, 2) := by decide +kernel
theorem dX8_block_104 : decode cX8_block 104 = .ok (.iadd, 1) := by decide +kernel
theorem dX8_block_105 : decode cX8_block 105 = .ok (.baload, 1) := by decide +kernel
theorem dX8_block_106 : decode cX8_block 106 = .ok (.sipush 255, 3) := by decide +kernel
theorem dX8_block_109 : decode cX8_block 109 = .ok (.iand, 1) := by decide +kernel
theorem dX8_block_110 : decode cX8_block 110 = .ok (.iastore, 1) := by decide +kernel
theorem dX8_block_111 : decode cX8_block 111 = .ok (.iinc 6 1, 3) := by decide +kernel
theorem dX8_block_114 : decode cX8_block 114 = .ok (.goto (-35), 3) := by decide +kernel
theorem dX8_block_117 : decode cX8_block 117 = .ok (.aload_n 0, 1) := by decide +kernel
theorem dX8_block_118 : decode cX8_block 118 = .ok (.iload 4, 2) := by decide +kernel
theorem dX8_block_120 : decode cX8_block 120 = .ok (.invokevirtual 92, 3) := by decide +kernel
theorem dX8_block_123 : decode cX8_block 123 = .ok (.pop, 1) := by decide +kernel
theorem dX8_block_124 : decode cX8_block 124 = .ok (.iinc 5 1, 3) := by decide +kernel
theorem dX8_block_127 : decode cX8_block 127 = .ok (.goto (-66), 3) := by decide +kernel
theorem dX8_block_130 : decode cX8_block 130 = .ok (.iconst 0, 1) := by decide +kernel
theorem dX8_block_131 : decode cX8_block 131 = .ok (.istore 5, 2) := by decide +kernel
theorem dX8_block_133 : decode cX8_block 133 = .ok (.iload 5, 2) := by decide +kernel
theorem dX8_block_135 : decode cX8_block 135 = .ok (.iload 4, 2) := by decide +kernel
theorem dX8_block_137 : decode cX8_block 137 = .ok (.if_icmp .ge 58, 3) := by decide +kernel
theorem dX8_block_140 : decode cX8_block 140 = .ok (.iconst 0, 1) := by decide +kernel
theorem dX8_block_141 : decode cX8_block 141 = .ok (.istore 6, 2) := by decide +kernel
theorem dX8_block_143 : decode cX8_block 143 = .ok (.iload 6, 2) := by decide +kernel
theorem dX8_block_145 : decode cX8_block 145 = .ok (.iload_n 2, 1) := by decide +kernel
theorem dX8_block_146 : decode cX8_block 146 = .ok (.if_icmp .ge 43, 3) := by decide +kernel
theorem dX8_block_149 : decode cX8_block 149 = .ok (.aload_n 0, 1) := by decide +kernel
theorem dX8_block_150 : decode cX8_block 150 = .ok (.getfield 17, 3) := by decide +kernel
theorem dX8_block_153 : decode cX8_block 153 = .ok (.bipush 16, 2) := by decide +kernel
theorem dX8_block_155 : decode cX8_block 155 = .ok (.aload_n 0, 1) := by decide +kernel
theorem dX8_block_156 : decode cX8_block 156 = .ok (.getfield 26, 3) := by decide +kernel
theorem dX8_block_159 : decode cX8_block 159 = .ok (.iload 5, 2) := by decide +kernel
theorem dX8_block_161 : decode cX8_block 161 = .ok (.iaload, 1) := by decide +kernel
theorem dX8_block_162 : decode cX8_block 162 = .ok (.imul, 1) := by decide +kernel
theorem dX8_block_163 : decode cX8_block 163 = .ok (.iload 6, 2) := by decide +kernel
theorem dX8_block_165 : decode cX8_block 165 = .ok (.iadd, 1) := by decide +kernel
theorem dX8_block_166 : decode cX8_block 166 = .ok (.aload_n 0, 1) := by decide +kernel
theorem dX8_block_167 : decode cX8_block 167 = .ok (.getfield 23, 3) := by decide +kernel
theorem dX8_block_170 : decode cX8_block 170 = .ok (.bipush 75, 2) := by decide +kernel
theorem dX8_block_172 : decode cX8_block 172 = .ok (.iload 5, 2) := by decide +kernel
theorem dX8_block_174 : decode cX8_block 174 = .ok (.imul, 1) := by decide +kernel
theorem dX8_block_175 : decode cX8_block 175 = .ok (.bipush 59, 2) := by decide +kernel
theorem dX8_block_177 : decode cX8_block 177 = .ok (.iadd, 1) := by decide +kernel
theorem dX8_block_178 : decode cX8_block 178 = .ok (.iload 6, 2) := by decide +kernel
theorem dX8_block_180 : decode cX8_block 180 = .ok (.iadd, 1) := by decide +kernel
theorem dX8_block_181 : decode cX8_block 181 = .ok (.iaload, 1) := by decide +kernel
theorem dX8_block_182 : decode cX8_block 182 = .ok (.iastore, 1) := by decide +kernel
theorem dX8_block_183 : decode cX8_block 183 = .ok (.iinc 6 1, 3) := by decide +kernel
theorem dX8_block_186 : decode cX8_block 186 = .ok (.goto (-43), 3) := by decide +kernel
theorem dX8_block_189 : decode cX8_block 189 = .ok (.iinc 5 1, 3) := by decide +kernel
theorem dX8_block_192 : decode cX8_block 192 = .ok (.goto (-59), 3) := by decide +kernel
theorem dX8_block_195 : decode cX8_block 195 = .ok (.aload_n 0, 1) := by decide +kernel
theorem dX8_block_196 : decode cX8_block 196 = .ok (.iload_n 1, 1) := by decide +kernel
theorem dX8_block_197 : decode cX8_block 197 = .ok (.putfield 116, 3) := by decide +kernel
theorem dX8_block_200 : decode cX8_block 200 = .ok (.aload_n 0, 1) := by decide +kernel
theorem dX8_block_201 : decode cX8_block 201 = .ok (.iload_n 2, 1) := by decide +kernel
theorem dX8_block_202 : decode cX8_block 202 = .ok (.putfield 119, 3) := by decide +kernel
theorem dX8_block_205 : decode cX8_block 205 = .ok (.aload_n 0, 1) := by decide +kernel
theorem dX8_block_206 : decode cX8_block 206 = .ok (.iconst 0, 1) := by decide +kernel
theorem dX8_block_207 : decode cX8_block 207 = .ok (.putfield 46, 3) := by decide +kernel
theorem dX8_block_210 : decode cX8_block 210 = .ok (.return_, 1) := by decide +kernel
theorem dX8_isPacket_0 : decode cX8_isPacket 0 = .ok (.iload_n 0, 1) := by decide +kernel
theorem dX8_isPacket_1 : decode cX8_isPacket 1 = .ok (.ifCond .lt 13, 3) := by decide +kernel
theorem dX8_isPacket_4 : decode cX8_isPacket 4 = .ok (.iload_n 0, 1) := by decide +kernel
theorem dX8_isPacket_5 : decode cX8_isPacket 5 = .ok (.ldc 122, 2) := by decide +kernel
theorem dX8_isPacket_7 : decode cX8_isPacket 7 = .ok (.if_icmp .ge 7, 3) := by decide +kernel
theorem dX8_isPacket_10 : decode cX8_isPacket 10 = .ok (.iconst 1, 1) := by decide +kernel
theorem dX8_isPacket_11 : decode cX8_isPacket 11 = .ok (.goto 4, 3) := by decide +kernel
theorem dX8_isPacket_14 : decode cX8_isPacket 14 = .ok (.iconst 0, 1) := by decide +kernel
theorem dX8_isPacket_15 : decode cX8_isPacket 15 = .ok (.ireturn, 1) := by decide +kernel
theorem dX8_summed_0 : decode cX8_summed 0 = .ok (.iconst 0, 1) := by decide +kernel
theorem dX8_summed_1 : decode cX8_summed 1 = .ok (.istore_n 2, 1) := by decide +kernel
theorem dX8_summed_2 : decode cX8_summed 2 = .ok (.iconst 0, 1) := by decide +kernel
theorem dX8_summed_3 : decode cX8_summed 3 = .ok (.istore_n 3, 1) := by decide +kernel
theorem dX8_summed_4 : decode cX8_summed 4 = .ok (.iload_n 3, 1) := by decide +kernel
theorem dX8_summed_5 : decode cX8_summed 5 = .ok (.aload_n 0, 1) := by decide +kernel
theorem dX8_summed_6 : decode cX8_summed 6 = .ok (.getfield 116, 3) := by decide +kernel
theorem dX8_summed_9 : decode cX8_summed 9 = .ok (.bipush 11, 2) := by decide +kernel
theorem dX8_summed_11 : decode cX8_summed 11 = .ok (.iadd, 1) := by decide +kernel
theorem dX8_summed_12 : decode cX8_summed 12 = .ok (.if_icmp .ge 37, 3) := by decide +kernel
theorem dX8_summed_15 : decode cX8_summed 15 = .ok (.iload_n 2, 1) := by decide +kernel
theorem dX8_summed_16 : decode cX8_summed 16 = .ok (.aload_n 0, 1) := by decide +kernel
theorem dX8_summed_17 : decode cX8_summed 17 = .ok (.getfield 29, 3) := by decide +kernel
theorem dX8_summed_20 : decode cX8_summed 20 = .ok (.iload_n 3, 1) := by decide +kernel
theorem dX8_summed_21 : decode cX8_summed 21 = .ok (.iaload, 1) := by decide +kernel
theorem dX8_summed_22 : decode cX8_summed 22 = .ok (.iconst 1, 1) := by decide +kernel
theorem dX8_summed_23 : decode cX8_summed 23 = .ok (.if_icmp .ne 17, 3) := by decide +kernel
theorem dX8_summed_26 : decode cX8_summed 26 = .ok (.aload_n 0, 1) := by decide +kernel
theorem dX8_summed_27 : decode cX8_summed 27 = .ok (.getfield 17, 3) := by decide +kernel
theorem dX8_summed_30 : decode cX8_summed 30 = .ok (.bipush 16, 2) := by decide +kernel
theorem dX8_summed_32 : decode cX8_summed 32 = .ok (.iload_n 3, 1) := by decide +kernel
theorem dX8_summed_33 : decode cX8_summed 33 = .ok (.imul, 1) := by decide +kernel
theorem dX8_summed_34 : decode cX8_summed 34 = .ok (.iload_n 1, 1) := by decide +kernel
theorem dX8_summed_35 : decode cX8_summed 35 = .ok (.iadd, 1) := by decide +kernel
theorem dX8_summed_36 : decode cX8_summed 36 = .ok (.iaload, 1) := by decide +kernel
theorem dX8_summed_37 : decode cX8_summed 37 = .ok (.goto 4, 3) := by decide +kernel
theorem dX8_summed_40 : decode cX8_summed 40 = .ok (.iconst 0, 1) := by decide +kernel
theorem dX8_summed_41 : decode cX8_summed 41 = .ok (.ixor, 1) := by decide +kernel
theorem dX8_summed_42 : decode cX8_summed 42 = .ok (.istore_n 2, 1) := by decide +kernel
theorem dX8_summed_43 : decode cX8_summed 43 = .ok (.iinc 3 1, 3) := by decide +kernel
theorem dX8_summed_46 : decode cX8_summed 46 = .ok (.goto (-42), 3) := by decide +kernel
theorem dX8_summed_49 : decode cX8_summed 49 = .ok (.iload_n 2, 1) := by decide +kernel
theorem dX8_summed_50 : decode cX8_summed 50 = .ok (.ireturn, 1) := by decide +kernel
theorem dX8_byteAt_0 : decode cX8_byteAt 0 = .ok (.aload_n 0, 1) := by decide +kernel
theorem dX8_byteAt_1 : decode cX8_byteAt 1 = .ok (.aload_n 0, 1) := by decide +kernel
theorem dX8_byteAt_2 : decode cX8_byteAt 2 = .ok (.getfield 116, 3) := by decide +kernel
theorem dX8_byteAt_5 : decode cX8_byteAt 5 = .ok (.ifCond .ne 7, 3) := by decide +kernel
theorem dX8_byteAt_8 : decode cX8_byteAt 8 = .ok (.iconst 1, 1) := by decide +kernel
theorem dX8_byteAt_9 : decode cX8_byteAt 9 = .ok (.goto 27, 3) := by decide +kernel
theorem dX8_byteAt_12 : decode cX8_byteAt 12 = .ok (.iload_n 1, 1) := by decide +kernel
theorem dX8_byteAt_13 : decode cX8_byteAt 13 = .ok (.invokestatic 123, 3) := by decide +kernel
theorem dX8_byteAt_16 : decode cX8_byteAt 16 = .ok (.ifCond .eq 15, 3) := by decide +kernel
theorem dX8_byteAt_19 : decode cX8_byteAt 19 = .ok (.iload_n 2, 1) := by decide +kernel
theorem dX8_byteAt_20 : decode cX8_byteAt 20 = .ok (.ifCond .lt 11, 3) := by decide +kernel
theorem dX8_byteAt_23 : decode cX8_byteAt 23 = .ok (.iload_n 2, 1) := by decide +kernel
theorem dX8_byteAt_24 : decode cX8_byteAt 24 = .ok (.aload_n 0, 1) := by decide +kernel
theorem dX8_byteAt_25 : decode cX8_byteAt 25 = .ok (.getfield 119, 3) := by decide +kernel
theorem dX8_byteAt_28 : decode cX8_byteAt 28 = .ok (.if_icmp .lt 7, 3) := by decide +kernel
theorem dX8_byteAt_31 : decode cX8_byteAt 31 = .ok (.iconst 2, 1) := by decide +kernel
theorem dX8_byteAt_32 : decode cX8_byteAt 32 = .ok (.goto 4, 3) := by decide +kernel
theorem dX8_byteAt_35 : decode cX8_byteAt 35 = .ok (.iconst 0, 1) := by decide +kernel
theorem dX8_byteAt_36 : decode cX8_byteAt 36 = .ok (.putfield 42, 3) := by decide +kernel
theorem dX8_byteAt_39 : decode cX8_byteAt 39 = .ok (.aload_n 0, 1) := by decide +kernel
theorem dX8_byteAt_40 : decode cX8_byteAt 40 = .ok (.getfield 42, 3) := by decide +kernel
theorem dX8_byteAt_43 : decode cX8_byteAt 43 = .ok (.ifCond .le 5, 3) := by decide +kernel
theorem dX8_byteAt_46 : decode cX8_byteAt 46 = .ok (.iconst 0, 1) := by decide +kernel
theorem dX8_byteAt_47 : decode cX8_byteAt 47 = .ok (.ireturn, 1) := by decide +kernel
theorem dX8_byteAt_48 : decode cX8_byteAt 48 = .ok (.aload_n 0, 1) := by decide +kernel
theorem dX8_byteAt_49 : decode cX8_byteAt 49 = .ok (.aload_n 0, 1) := by decide +kernel
theorem dX8_byteAt_50 : decode cX8_byteAt 50 = .ok (.getfield 116, 3) := by decide +kernel
theorem dX8_byteAt_53 : decode cX8_byteAt 53 = .ok (.aload_n 0, 1) := by decide +kernel
theorem dX8_byteAt_54 : decode cX8_byteAt 54 = .ok (.aload_n 0, 1) := by decide +kernel
theorem dX8_byteAt_55 : decode cX8_byteAt 55 = .ok (.getfield 116, 3) := by decide +kernel
theorem dX8_byteAt_58 : decode cX8_byteAt 58 = .ok (.invokevirtual 110, 3) := by decide +kernel
theorem dX8_byteAt_61 : decode cX8_byteAt 61 = .ok (.iload_n 1, 1) := by decide +kernel
theorem dX8_byteAt_62 : decode cX8_byteAt 62 = .ok (.invokevirtual 99, 3) := by decide +kernel
theorem dX8_byteAt_65 : decode cX8_byteAt 65 = .ok (.pop, 1) := by decide +kernel
theorem dX8_byteAt_66 : decode cX8_byteAt 66 = .ok (.aload_n 0, 1) := by decide +kernel
theorem dX8_byteAt_67 : decode cX8_byteAt 67 = .ok (.iload_n 2, 1) := by decide +kernel
theorem dX8_byteAt_68 : decode cX8_byteAt 68 = .ok (.invokevirtual 126, 3) := by decide +kernel
theorem dX8_byteAt_71 : decode cX8_byteAt 71 = .ok (.ireturn, 1) := by decide +kernel
theorem dX8_row_0 : decode cX8_row 0 = .ok (.aload_n 0, 1) := by decide +kernel
theorem dX8_row_1 : decode cX8_row 1 = .ok (.iload_n 1, 1) := by decide +kernel
theorem dX8_row_2 : decode cX8_row 2 = .ok (.invokestatic 107, 3) := by decide +kernel
theorem dX8_row_5 : decode cX8_row 5 = .ok (.ifCond .ne 7, 3) := by decide +kernel
theorem dX8_row_8 : decode cX8_row 8 = .ok (.iconst 1, 1) := by decide +kernel
theorem dX8_row_9 : decode cX8_row 9 = .ok (.goto 15, 3) := by decide +kernel
theorem dX8_row_12 : decode cX8_row 12 = .ok (.iload_n 2, 1) := by decide +kernel
theorem dX8_row_13 : decode cX8_row 13 = .ok (.invokestatic 123, 3) := by decide +kernel
theorem dX8_row_16 : decode cX8_row 16 = .ok (.ifCond .eq 7, 3) := by decide +kernel
theorem dX8_row_19 : decode cX8_row 19 = .ok (.iconst 0, 1) := by decide +kernel
theorem dX8_row_20 : decode cX8_row 20 = .ok (.goto 4, 3) := by decide +kernel
theorem dX8_row_23 : decode cX8_row 23 = .ok (.iconst 2, 1) := by decide +kernel
theorem dX8_row_24 : decode cX8_row 24 = .ok (.putfield 42, 3) := by decide +kernel
theorem dX8_row_27 : decode cX8_row 27 = .ok (.aload_n 0, 1) := by decide +kernel
theorem dX8_row_28 : decode cX8_row 28 = .ok (.getfield 42, 3) := by decide +kernel
theorem dX8_row_31 : decode cX8_row 31 = .ok (.ifCond .le 5, 3) := by decide +kernel
theorem dX8_row_34 : decode cX8_row 34 = .ok (.iconst 0, 1) := by decide +kernel
theorem dX8_row_35 : decode cX8_row 35 = .ok (.ireturn, 1) := by decide +kernel
theorem dX8_row_36 : decode cX8_row 36 = .ok (.aload_n 0, 1) := by decide +kernel
theorem dX8_row_37 : decode cX8_row 37 = .ok (.iload_n 1, 1) := by decide +kernel
theorem dX8_row_38 : decode cX8_row 38 = .ok (.aload_n 0, 1) := by decide +kernel
theorem dX8_row_39 : decode cX8_row 39 = .ok (.iload_n 1, 1) := by decide +kernel
theorem dX8_row_40 : decode cX8_row 40 = .ok (.invokevirtual 110, 3) := by decide +kernel
theorem dX8_row_43 : decode cX8_row 43 = .ok (.iload_n 2, 1) := by decide +kernel
theorem dX8_row_44 : decode cX8_row 44 = .ok (.invokevirtual 99, 3) := by decide +kernel
theorem dX8_row_47 : decode cX8_row 47 = .ok (.istore 4, 2) := by decide +kernel
theorem dX8_row_49 : decode cX8_row 49 = .ok (.iload_n 1, 1) := by decide +kernel
theorem dX8_row_50 : decode cX8_row 50 = .ok (.bipush 10, 2) := by decide +kernel
theorem dX8_row_52 : decode cX8_row 52 = .ok (.iadd, 1) := by decide +kernel
theorem dX8_row_53 : decode cX8_row 53 = .ok (.istore 5, 2) := by decide +kernel
theorem dX8_row_55 : decode cX8_row 55 = .ok (.aload_n 0, 1) := by decide +kernel
theorem dX8_row_56 : decode cX8_row 56 = .ok (.getfield 29, 3) := by decide +kernel
theorem dX8_row_59 : decode cX8_row 59 = .ok (.iload 5, 2) := by decide +kernel
theorem dX8_row_61 : decode cX8_row 61 = .ok (.iaload, 1) := by decide +kernel
theorem dX8_row_62 : decode cX8_row 62 = .ok (.ifCond .ne 9, 3) := by decide +kernel
theorem dX8_row_65 : decode cX8_row 65 = .ok (.iinc 5 (-1), 3) := by decide +kernel
theorem dX8_row_68 : decode cX8_row 68 = .ok (.goto (-13), 3) := by decide +kernel
theorem dX8_row_71 : decode cX8_row 71 = .ok (.iload_n 3, 1) := by decide +kernel
theorem dX8_row_72 : decode cX8_row 72 = .ok (.ifCond .eq 8, 3) := by decide +kernel
theorem dX8_row_75 : decode cX8_row 75 = .ok (.iload 5, 2) := by decide +kernel
theorem dX8_row_77 : decode cX8_row 77 = .ok (.goto 5, 3) := by decide +kernel
theorem dX8_row_80 : decode cX8_row 80 = .ok (.iload 4, 2) := by decide +kernel
theorem dX8_row_82 : decode cX8_row 82 = .ok (.ireturn, 1) := by decide +kernel
theorem dX8_open_0 : decode cX8_open 0 = .ok (.aload_n 0, 1) := by decide +kernel
theorem dX8_open_1 : decode cX8_open 1 = .ok (.iload_n 1, 1) := by decide +kernel
theorem dX8_open_2 : decode cX8_open 2 = .ok (.invokestatic 107, 3) := by decide +kernel
theorem dX8_open_5 : decode cX8_open 5 = .ok (.ifCond .eq 14, 3) := by decide +kernel
theorem dX8_open_8 : decode cX8_open 8 = .ok (.iload_n 2, 1) := by decide +kernel
theorem dX8_open_9 : decode cX8_open 9 = .ok (.invokestatic 113, 3) := by decide +kernel
theorem dX8_open_12 : decode cX8_open 12 = .ok (.ifCond .eq 7, 3) := by decide +kernel
theorem dX8_open_15 : decode cX8_open 15 = .ok (.iconst 0, 1) := by decide +kernel
theorem dX8_open_16 : decode cX8_open 16 = .ok (.goto 4, 3) := by decide +kernel
theorem dX8_open_19 : decode cX8_open 19 = .ok (.iconst 1, 1) := by decide +kernel
theorem dX8_open_20 : decode cX8_open 20 = .ok (.putfield 42, 3) := by decide +kernel
theorem dX8_open_23 : decode cX8_open 23 = .ok (.aload_n 0, 1) := by decide +kernel
theorem dX8_open_24 : decode cX8_open 24 = .ok (.getfield 42, 3) := by decide +kernel
theorem dX8_open_27 : decode cX8_open 27 = .ok (.ifCond .ne 34, 3) := by decide +kernel
theorem dX8_open_30 : decode cX8_open 30 = .ok (.aload_n 0, 1) := by decide +kernel
theorem dX8_open_31 : decode cX8_open 31 = .ok (.iload_n 1, 1) := by decide +kernel
theorem dX8_open_32 : decode cX8_open 32 = .ok (.invokevirtual 110, 3) := by decide +kernel
theorem dX8_open_35 : decode cX8_open 35 = .ok (.pop, 1) := by decide +kernel
theorem dX8_open_36 : decode cX8_open 36 = .ok (.aload_n 0, 1) := by decide +kernel
theorem dX8_open_37 : decode cX8_open 37 = .ok (.iload_n 1, 1) := by decide +kernel
theorem dX8_open_38 : decode cX8_open 38 = .ok (.putfield 129, 3) := by decide +kernel
theorem dX8_open_41 : decode cX8_open 41 = .ok (.aload_n 0, 1) := by decide +kernel
theorem dX8_open_42 : decode cX8_open 42 = .ok (.iload_n 2, 1) := by decide +kernel
theorem dX8_open_43 : decode cX8_open 43 = .ok (.putfield 132, 3) := by decide +kernel
theorem dX8_open_46 : decode cX8_open 46 = .ok (.aload_n 0, 1) := by decide +kernel
theorem dX8_open_47 : decode cX8_open 47 = .ok (.iconst 0, 1) := by decide +kernel
theorem dX8_open_48 : decode cX8_open 48 = .ok (.putfield 84, 3) := by decide +kernel
theorem dX8_open_51 : decode cX8_open 51 = .ok (.aload_n 0, 1) := by decide +kernel
theorem dX8_open_52 : decode cX8_open 52 = .ok (.iconst 0, 1) := by decide +kernel
theorem dX8_open_53 : decode cX8_open 53 = .ok (.putfield 135, 3) := by decide +kernel
theorem dX8_open_56 : decode cX8_open 56 = .ok (.aload_n 0, 1) := by decide +kernel
theorem dX8_open_57 : decode cX8_open 57 = .ok (.iconst 0, 1) := by decide +kernel
theorem dX8_open_58 : decode cX8_open 58 = .ok (.putfield 138, 3) := by decide +kernel
theorem dX8_open_61 : decode cX8_open 61 = .ok (.return_, 1) := by decide +kernel
theorem dX8_gather_0 : decode cX8_gather 0 = .ok (.aload_n 0, 1) := by decide +kernel
theorem dX8_gather_1 : decode cX8_gather 1 = .ok (.getfield 84, 3) := by decide +kernel
theorem dX8_gather_4 : decode cX8_gather 4 = .ok (.ifCond .eq 4, 3) := by decide +kernel
theorem dX8_gather_7 : decode cX8_gather 7 = .ok (.return_, 1) := by decide +kernel
theorem dX8_gather_8 : decode cX8_gather 8 = .ok (.aload_n 0, 1) := by decide +kernel
theorem dX8_gather_9 : decode cX8_gather 9 = .ok (.aload_n 0, 1) := by decide +kernel
theorem dX8_gather_10 : decode cX8_gather 10 = .ok (.getfield 129, 3) := by decide +kernel
theorem dX8_gather_13 : decode cX8_gather 13 = .ok (.invokevirtual 95, 3) := by decide +kernel
theorem dX8_gather_16 : decode cX8_gather 16 = .ok (.iconst 0, 1) := by decide +kernel
theorem dX8_gather_17 : decode cX8_gather 17 = .ok (.istore_n 1, 1) := by decide +kernel
theorem dX8_gather_18 : decode cX8_gather 18 = .ok (.iload_n 1, 1) := by decide +kernel
theorem dX8_gather_19 : decode cX8_gather 19 = .ok (.aload_n 0, 1) := by decide +kernel
theorem dX8_gather_20 : decode cX8_gather 20 = .ok (.getfield 135, 3) := by decide +kernel
theorem dX8_gather_23 : decode cX8_gather 23 = .ok (.if_icmp .ge 52, 3) := by decide +kernel
theorem dX8_gather_26 : decode cX8_gather 26 = .ok (.iconst 0, 1) := by decide +kernel
theorem dX8_gather_27 : decode cX8_gather 27 = .ok (.istore_n 2, 1) := by decide +kernel
theorem dX8_gather_28 : decode cX8_gather 28 = .ok (.iload_n 2, 1) := by decide +kernel
theorem dX8_gather_29 : decode cX8_gather 29 = .ok (.bipush 75, 2) := by decide +kernel
theorem dX8_gather_31 : decode cX8_gather 31 = .ok (.if_icmp .ge 26, 3) := by decide +kernel
theorem dX8_gather_34 : decode cX8_gather 34 = .ok (.aload_n 0, 1) := by decide +kernel
theorem dX8_gather_35 : decode cX8_gather 35 = .ok (.getfield 29, 3) := by decide +kernel
theorem dX8_gather_38 : decode cX8_gather 38 = .ok (.iload_n 2, 1) := by decide +kernel
theorem dX8_gather_39 : decode cX8_gather 39 = .ok (.aload_n 0, 1) := by decide +kernel
theorem dX8_gather_40 : decode cX8_gather 40 = .ok (.getfield 20, 3) := by decide +kernel
theorem dX8_gather_43 : decode cX8_gather 43 = .ok (.bipush 75, 2) := by decide +kernel
theorem dX8_gather_45 : decode cX8_gather 45 = .ok (.iload_n 1, 1) := by decide +kernel
theorem dX8_gather_46 : decode cX8_gather 46 = .ok (.imul, 1) := by decide +kernel
theorem dX8_gather_47 : decode cX8_gather 47 = .ok (.iload_n 2, 1) := by decide +kernel
theorem dX8_gather_48 : decode cX8_gather 48 = .ok (.iadd, 1) := by decide +kernel
theorem dX8_gather_49 : decode cX8_gather 49 = .ok (.iaload, 1) := by decide +kernel
theorem dX8_gather_50 : decode cX8_gather 50 = .ok (.iastore, 1) := by decide +kernel
theorem dX8_gather_51 : decode cX8_gather 51 = .ok (.iinc 2 1, 3) := by decide +kernel
theorem dX8_gather_54 : decode cX8_gather 54 = .ok (.goto (-26), 3) := by decide +kernel
theorem dX8_gather_57 : decode cX8_gather 57 = .ok (.aload_n 0, 1) := by decide +kernel
theorem dX8_gather_58 : decode cX8_gather 58 = .ok (.aload_n 0, 1) := by decide +kernel
theorem dX8_gather_59 : decode cX8_gather 59 = .ok (.getfield 129, 3) := by decide +kernel
theorem dX8_gather_62 : decode cX8_gather 62 = .ok (.bipush 11, 2) := by decide +kernel
theorem dX8_gather_64 : decode cX8_gather 64 = .ok (.iadd, 1) := by decide +kernel
theorem dX8_gather_65 : decode cX8_gather 65 = .ok (.invokevirtual 92, 3) := by decide +kernel
theorem dX8_gather_68 : decode cX8_gather 68 = .ok (.pop, 1) := by decide +kernel
theorem dX8_gather_69 : decode cX8_gather 69 = .ok (.iinc 1 1, 3) := by decide +kernel
theorem dX8_gather_72 : decode cX8_gather 72 = .ok (.goto (-54), 3) := by decide +kernel
theorem dX8_gather_75 : decode cX8_gather 75 = .ok (.aload_n 0, 1) := by decide +kernel
theorem dX8_gather_76 : decode cX8_gather 76 = .ok (.iconst 1, 1) := by decide +kernel
theorem dX8_gather_77 : decode cX8_gather 77 = .ok (.putfield 84, 3) := by decide +kernel
theorem dX8_gather_80 : decode cX8_gather 80 = .ok (.return_, 1) := by decide +kernel
theorem dX8_comes_0 : decode cX8_comes 0 = .ok (.aload_n 0, 1) := by decide +kernel
theorem dX8_comes_1 : decode cX8_comes 1 = .ok (.aload_n 0, 1) := by decide +kernel
theorem dX8_comes_2 : decode cX8_comes 2 = .ok (.getfield 129, 3) := by decide +kernel
theorem dX8_comes_5 : decode cX8_comes 5 = .ok (.invokevirtual 110, 3) := by decide +kernel
theorem dX8_comes_8 : decode cX8_comes 8 = .ok (.pop, 1) := by decide +kernel
theorem dX8_comes_9 : decode cX8_comes 9 = .ok (.aload_n 0, 1) := by decide +kernel
theorem dX8_comes_10 : decode cX8_comes 10 = .ok (.invokevirtual 141, 3) := by decide +kernel
theorem dX8_comes_13 : decode cX8_comes 13 = .ok (.aload_n 0, 1) := by decide +kernel
theorem dX8_comes_14 : decode cX8_comes 14 = .ok (.aload_n 0, 1) := by decide +kernel
theorem dX8_comes_15 : decode cX8_comes 15 = .ok (.getfield 129, 3) := by decide +kernel
theorem dX8_comes_18 : decode cX8_comes 18 = .ok (.aload_n 0, 1) := by decide +kernel
theorem dX8_comes_19 : decode cX8_comes 19 = .ok (.getfield 13, 3) := by decide +kernel
theorem dX8_comes_22 : decode cX8_comes 22 = .ok (.aload_n 0, 1) := by decide +kernel
theorem dX8_comes_23 : decode cX8_comes 23 = .ok (.getfield 129, 3) := by decide +kernel
theorem dX8_comes_26 : decode cX8_comes 26 = .ok (.iaload, 1) := by decide +kernel
theorem dX8_comes_27 : decode cX8_comes 27 = .ok (.iload_n 1, 1) := by decide +kernel
theorem dX8_comes_28 : decode cX8_comes 28 = .ok (.invokevirtual 99, 3) := by decide +kernel
theorem dX8_comes_31 : decode cX8_comes 31 = .ok (.pop, 1) := by decide +kernel
theorem dX8_comes_32 : decode cX8_comes 32 = .ok (.iconst 0, 1) := by decide +kernel
theorem dX8_comes_33 : decode cX8_comes 33 = .ok (.istore_n 2, 1) := by decide +kernel
theorem dX8_comes_34 : decode cX8_comes 34 = .ok (.iload_n 2, 1) := by decide +kernel
theorem dX8_comes_35 : decode cX8_comes 35 = .ok (.aload_n 0, 1) := by decide +kernel
theorem dX8_comes_36 : decode cX8_comes 36 = .ok (.getfield 132, 3) := by decide +kernel
theorem dX8_comes_39 : decode cX8_comes 39 = .ok (.if_icmp .ge 24, 3) := by decide +kernel
theorem dX8_comes_42 : decode cX8_comes 42 = .ok (.aload_n 0, 1) := by decide +kernel
theorem dX8_comes_43 : decode cX8_comes 43 = .ok (.getfield 29, 3) := by decide +kernel
theorem dX8_comes_46 : decode cX8_comes 46 = .ok (.bipush 59, 2) := by decide +kernel
theorem dX8_comes_48 : decode cX8_comes 48 = .ok (.iload_n 2, 1) := by decide +kernel
theorem dX8_comes_49 : decode cX8_comes 49 = .ok (.iadd, 1) := by decide +kernel
theorem dX8_comes_50 : decode cX8_comes 50 = .ok (.aload_n 0, 1) := by decide +kernel
theorem dX8_comes_51 : decode cX8_comes 51 = .ok (.getfield 35, 3) := by decide +kernel
theorem dX8_comes_54 : decode cX8_comes 54 = .ok (.iload_n 2, 1) := by decide +kernel
theorem dX8_comes_55 : decode cX8_comes 55 = .ok (.iaload, 1) := by decide +kernel
theorem dX8_comes_56 : decode cX8_comes 56 = .ok (.iastore, 1) := by decide +kernel
theorem dX8_comes_57 : decode cX8_comes 57 = .ok (.iinc 2 1, 3) := by decide +kernel
theorem dX8_comes_60 : decode cX8_comes 60 = .ok (.goto (-26), 3) := by decide +kernel
theorem dX8_comes_63 : decode cX8_comes 63 = .ok (.iconst 0, 1) := by decide +kernel
theorem dX8_comes_64 : decode cX8_comes 64 = .ok (.istore_n 2, 1) := by decide +kernel
theorem dX8_comes_65 : decode cX8_comes 65 = .ok (.iload_n 2, 1) := by decide +kernel
theorem dX8_comes_66 : decode cX8_comes 66 = .ok (.bipush 75, 2) := by decide +kernel
theorem dX8_comes_68 : decode cX8_comes 68 = .ok (.if_icmp .ge 29, 3) := by decide +kernel
theorem dX8_comes_71 : decode cX8_comes 71 = .ok (.aload_n 0, 1) := by decide +kernel
theorem dX8_comes_72 : decode cX8_comes 72 = .ok (.getfield 20, 3) := by decide +kernel
theorem dX8_comes_75 : decode cX8_comes 75 = .ok (.bipush 75, 2) := by decide +kernel
theorem dX8_comes_77 : decode cX8_comes 77 = .ok (.aload_n 0, 1) := by decide +kernel
theorem dX8_comes_78 : decode cX8_comes 78 = .ok (.getfield 135, 3) := by decide +kernel
theorem dX8_comes_81 : decode cX8_comes 81 = .ok (.imul, 1) := by decide +kernel
theorem dX8_comes_82 : decode cX8_comes 82 = .ok (.iload_n 2, 1) := by decide +kernel
theorem dX8_comes_83 : decode cX8_comes 83 = .ok (.iadd, 1) := by decide +kernel
theorem dX8_comes_84 : decode cX8_comes 84 = .ok (.aload_n 0, 1) := by decide +kernel
theorem dX8_comes_85 : decode cX8_comes 85 = .ok (.getfield 29, 3) := by decide +kernel
theorem dX8_comes_88 : decode cX8_comes 88 = .ok (.iload_n 2, 1) := by decide +kernel
theorem dX8_comes_89 : decode cX8_comes 89 = .ok (.iaload, 1) := by decide +kernel
theorem dX8_comes_90 : decode cX8_comes 90 = .ok (.iastore, 1) := by decide +kernel
theorem dX8_comes_91 : decode cX8_comes 91 = .ok (.iinc 2 1, 3) := by decide +kernel
theorem dX8_comes_94 : decode cX8_comes 94 = .ok (.goto (-29), 3) := by decide +kernel
theorem dX8_comes_97 : decode cX8_comes 97 = .ok (.aload_n 0, 1) := by decide +kernel
theorem dX8_comes_98 : decode cX8_comes 98 = .ok (.aload_n 0, 1) := by decide +kernel
theorem dX8_comes_99 : decode cX8_comes 99 = .ok (.getfield 129, 3) := by decide +kernel
theorem dX8_comes_102 : decode cX8_comes 102 = .ok (.bipush 11, 2) := by decide +kernel
theorem dX8_comes_104 : decode cX8_comes 104 = .ok (.iadd, 1) := by decide +kernel
theorem dX8_comes_105 : decode cX8_comes 105 = .ok (.invokevirtual 92, 3) := by decide +kernel
theorem dX8_comes_108 : decode cX8_comes 108 = .ok (.ifCond .eq 25, 3) := by decide +kernel
theorem dX8_comes_111 : decode cX8_comes 111 = .ok (.aload_n 0, 1) := by decide +kernel
theorem dX8_comes_112 : decode cX8_comes 112 = .ok (.dup, 1) := by decide +kernel
theorem dX8_comes_113 : decode cX8_comes 113 = .ok (.getfield 135, 3) := by decide +kernel
theorem dX8_comes_116 : decode cX8_comes 116 = .ok (.iconst 1, 1) := by decide +kernel
theorem dX8_comes_117 : decode cX8_comes 117 = .ok (.iadd, 1) := by decide +kernel
theorem dX8_comes_118 : decode cX8_comes 118 = .ok (.putfield 135, 3) := by decide +kernel
theorem dX8_comes_121 : decode cX8_comes 121 = .ok (.aload_n 0, 1) := by decide +kernel
theorem dX8_comes_122 : decode cX8_comes 122 = .ok (.dup, 1) := by decide +kernel
theorem dX8_comes_123 : decode cX8_comes 123 = .ok (.getfield 138, 3) := by decide +kernel
theorem dX8_comes_126 : decode cX8_comes 126 = .ok (.iconst 1, 1) := by decide +kernel
theorem dX8_comes_127 : decode cX8_comes 127 = .ok (.iadd, 1) := by decide +kernel
theorem dX8_comes_128 : decode cX8_comes 128 = .ok (.putfield 138, 3) := by decide +kernel
theorem dX8_comes_131 : decode cX8_comes 131 = .ok (.iconst 1, 1) := by decide +kernel
theorem dX8_comes_132 : decode cX8_comes 132 = .ok (.ireturn, 1) := by decide +kernel
theorem dX8_comes_133 : decode cX8_comes 133 = .ok (.iconst 0, 1) := by decide +kernel
theorem dX8_comes_134 : decode cX8_comes 134 = .ok (.istore_n 2, 1) := by decide +kernel
theorem dX8_comes_135 : decode cX8_comes 135 = .ok (.iload_n 2, 1) := by decide +kernel
theorem dX8_comes_136 : decode cX8_comes 136 = .ok (.aload_n 0, 1) := by decide +kernel
theorem dX8_comes_137 : decode cX8_comes 137 = .ok (.getfield 132, 3) := by decide +kernel
theorem dX8_comes_140 : decode cX8_comes 140 = .ok (.if_icmp .ge 23, 3) := by decide +kernel
theorem dX8_comes_143 : decode cX8_comes 143 = .ok (.aload_n 0, 1) := by decide +kernel
theorem dX8_comes_144 : decode cX8_comes 144 = .ok (.getfield 29, 3) := by decide +kernel
theorem dX8_comes_147 : decode cX8_comes 147 = .ok (.bipush 59, 2) := by decide +kernel
theorem dX8_comes_149 : decode cX8_comes 149 = .ok (.iload_n 2, 1) := by decide +kernel
theorem dX8_comes_150 : decode cX8_comes 150 = .ok (.iadd, 1) := by decide +kernel
theorem dX8_comes_151 : decode cX8_comes 151 = .ok (.iaload, 1) := by decide +kernel
theorem dX8_comes_152 : decode cX8_comes 152 = .ok (.ifCond .eq 5, 3) := by decide +kernel
theorem dX8_comes_155 : decode cX8_comes 155 = .ok (.iconst (-1), 1) := by decide +kernel
theorem dX8_comes_156 : decode cX8_comes 156 = .ok (.ireturn, 1) := by decide +kernel
theorem dX8_comes_157 : decode cX8_comes 157 = .ok (.iinc 2 1, 3) := by decide +kernel
theorem dX8_comes_160 : decode cX8_comes 160 = .ok (.goto (-25), 3) := by decide +kernel
theorem dX8_comes_163 : decode cX8_comes 163 = .ok (.aload_n 0, 1) := by decide +kernel
theorem dX8_comes_164 : decode cX8_comes 164 = .ok (.dup, 1) := by decide +kernel
theorem dX8_comes_165 : decode cX8_comes 165 = .ok (.getfield 138, 3) := by decide +kernel
theorem dX8_comes_168 : decode cX8_comes 168 = .ok (.iconst 1, 1) := by decide +kernel
theorem dX8_comes_169 : decode cX8_comes 169 = .ok (.iadd, 1) := by decide +kernel
theorem dX8_comes_170 : decode cX8_comes 170 = .ok (.putfield 138, 3) := by decide +kernel
theorem dX8_comes_173 : decode cX8_comes 173 = .ok (.iconst 0, 1) := by decide +kernel
theorem dX8_comes_174 : decode cX8_comes 174 = .ok (.ireturn, 1) := by decide +kernel
theorem dX8_taken_0 : decode cX8_taken 0 = .ok (.aload_n 0, 1) := by decide +kernel
theorem dX8_taken_1 : decode cX8_taken 1 = .ok (.aload_n 0, 1) := by decide +kernel
theorem dX8_taken_2 : decode cX8_taken 2 = .ok (.getfield 116, 3) := by decide +kernel
theorem dX8_taken_5 : decode cX8_taken 5 = .ok (.aload_n 0, 1) := by decide +kernel
theorem dX8_taken_6 : decode cX8_taken 6 = .ok (.aload_n 0, 1) := by decide +kernel
theorem dX8_taken_7 : decode cX8_taken 7 = .ok (.getfield 116, 3) := by decide +kernel
theorem dX8_taken_10 : decode cX8_taken 10 = .ok (.invokevirtual 110, 3) := by decide +kernel
theorem dX8_taken_13 : decode cX8_taken 13 = .ok (.iload_n 1, 1) := by decide +kernel
theorem dX8_taken_14 : decode cX8_taken 14 = .ok (.invokevirtual 99, 3) := by decide +kernel
theorem dX8_taken_17 : decode cX8_taken 17 = .ok (.pop, 1) := by decide +kernel
theorem dX8_taken_18 : decode cX8_taken 18 = .ok (.iconst 0, 1) := by decide +kernel
theorem dX8_taken_19 : decode cX8_taken 19 = .ok (.istore_n 2, 1) := by decide +kernel
theorem dX8_taken_20 : decode cX8_taken 20 = .ok (.iload_n 2, 1) := by decide +kernel
theorem dX8_taken_21 : decode cX8_taken 21 = .ok (.aload_n 0, 1) := by decide +kernel
theorem dX8_taken_22 : decode cX8_taken 22 = .ok (.getfield 119, 3) := by decide +kernel
theorem dX8_taken_25 : decode cX8_taken 25 = .ok (.if_icmp .ge 20, 3) := by decide +kernel
theorem dX8_taken_28 : decode cX8_taken 28 = .ok (.aload_n 0, 1) := by decide +kernel
theorem dX8_taken_29 : decode cX8_taken 29 = .ok (.getfield 35, 3) := by decide +kernel
theorem dX8_taken_32 : decode cX8_taken 32 = .ok (.iload_n 2, 1) := by decide +kernel
theorem dX8_taken_33 : decode cX8_taken 33 = .ok (.aload_n 0, 1) := by decide +kernel
theorem dX8_taken_34 : decode cX8_taken 34 = .ok (.iload_n 2, 1) := by decide +kernel
theorem dX8_taken_35 : decode cX8_taken 35 = .ok (.invokevirtual 126, 3) := by decide +kernel
theorem dX8_taken_38 : decode cX8_taken 38 = .ok (.iastore, 1) := by decide +kernel
theorem dX8_taken_39 : decode cX8_taken 39 = .ok (.iinc 2 1, 3) := by decide +kernel
theorem dX8_taken_42 : decode cX8_taken 42 = .ok (.goto (-22), 3) := by decide +kernel
theorem dX8_taken_45 : decode cX8_taken 45 = .ok (.aload_n 0, 1) := by decide +kernel
theorem dX8_taken_46 : decode cX8_taken 46 = .ok (.iload_n 1, 1) := by decide +kernel
theorem dX8_taken_47 : decode cX8_taken 47 = .ok (.invokevirtual 144, 3) := by decide +kernel
theorem dX8_taken_50 : decode cX8_taken 50 = .ok (.ireturn, 1) := by decide +kernel
theorem dX8_isSame_0 : decode cX8_isSame 0 = .ok (.aload_n 0, 1) := by decide +kernel
theorem dX8_isSame_1 : decode cX8_isSame 1 = .ok (.getfield 116, 3) := by decide +kernel
theorem dX8_isSame_4 : decode cX8_isSame 4 = .ok (.ifCond .le 36, 3) := by decide +kernel
theorem dX8_isSame_7 : decode cX8_isSame 7 = .ok (.aload_n 0, 1) := by decide +kernel
theorem dX8_isSame_8 : decode cX8_isSame 8 = .ok (.getfield 129, 3) := by decide +kernel
theorem dX8_isSame_11 : decode cX8_isSame 11 = .ok (.ifCond .le 29, 3) := by decide +kernel
theorem dX8_isSame_14 : decode cX8_isSame 14 = .ok (.aload_n 0, 1) := by decide +kernel
theorem dX8_isSame_15 : decode cX8_isSame 15 = .ok (.getfield 116, 3) := by decide +kernel
theorem dX8_isSame_18 : decode cX8_isSame 18 = .ok (.aload_n 0, 1) := by decide +kernel
theorem dX8_isSame_19 : decode cX8_isSame 19 = .ok (.getfield 129, 3) := by decide +kernel
theorem dX8_isSame_22 : decode cX8_isSame 22 = .ok (.if_icmp .ne 18, 3) := by decide +kernel
theorem dX8_isSame_25 : decode cX8_isSame 25 = .ok (.aload_n 0, 1) := by decide +kernel
theorem dX8_isSame_26 : decode cX8_isSame 26 = .ok (.getfield 119, 3) := by decide +kernel
theorem dX8_isSame_29 : decode cX8_isSame 29 = .ok (.aload_n 0, 1) := by decide +kernel
theorem dX8_isSame_30 : decode cX8_isSame 30 = .ok (.getfield 132, 3) := by decide +kernel
theorem dX8_isSame_33 : decode cX8_isSame 33 = .ok (.if_icmp .ne 7, 3) := by decide +kernel
theorem dX8_isSame_36 : decode cX8_isSame 36 = .ok (.iconst 1, 1) := by decide +kernel
theorem dX8_isSame_37 : decode cX8_isSame 37 = .ok (.goto 4, 3) := by decide +kernel
theorem dX8_isSame_40 : decode cX8_isSame 40 = .ok (.iconst 0, 1) := by decide +kernel
theorem dX8_isSame_41 : decode cX8_isSame 41 = .ok (.ireturn, 1) := by decide +kernel
theorem dX8_take_0 : decode cX8_take 0 = .ok (.aload_n 0, 1) := by decide +kernel
theorem dX8_take_1 : decode cX8_take 1 = .ok (.aload_n 0, 1) := by decide +kernel
theorem dX8_take_2 : decode cX8_take 2 = .ok (.invokevirtual 147, 3) := by decide +kernel
theorem dX8_take_5 : decode cX8_take 5 = .ok (.ifCond .ne 7, 3) := by decide +kernel
theorem dX8_take_8 : decode cX8_take 8 = .ok (.iconst 1, 1) := by decide +kernel
theorem dX8_take_9 : decode cX8_take 9 = .ok (.goto 15, 3) := by decide +kernel
theorem dX8_take_12 : decode cX8_take 12 = .ok (.iload_n 1, 1) := by decide +kernel
theorem dX8_take_13 : decode cX8_take 13 = .ok (.invokestatic 123, 3) := by decide +kernel
theorem dX8_take_16 : decode cX8_take 16 = .ok (.ifCond .eq 7, 3) := by decide +kernel
theorem dX8_take_19 : decode cX8_take 19 = .ok (.iconst 0, 1) := by decide +kernel
theorem dX8_take_20 : decode cX8_take 20 = .ok (.goto 4, 3) := by decide +kernel
theorem dX8_take_23 : decode cX8_take 23 = .ok (.iconst 2, 1) := by decide +kernel
theorem dX8_take_24 : decode cX8_take 24 = .ok (.putfield 42, 3) := by decide +kernel
theorem dX8_take_27 : decode cX8_take 27 = .ok (.aload_n 0, 1) := by decide +kernel
theorem dX8_take_28 : decode cX8_take 28 = .ok (.getfield 42, 3) := by decide +kernel
theorem dX8_take_31 : decode cX8_take 31 = .ok (.ifCond .le 5, 3) := by decide +kernel
theorem dX8_take_34 : decode cX8_take 34 = .ok (.iconst 0, 1) := by decide +kernel
theorem dX8_take_35 : decode cX8_take 35 = .ok (.ireturn, 1) := by decide +kernel
theorem dX8_take_36 : decode cX8_take 36 = .ok (.aload_n 0, 1) := by decide +kernel
theorem dX8_take_37 : decode cX8_take 37 = .ok (.iload_n 1, 1) := by decide +kernel
theorem dX8_take_38 : decode cX8_take 38 = .ok (.invokevirtual 151, 3) := by decide +kernel
theorem dX8_take_41 : decode cX8_take 41 = .ok (.istore_n 2, 1) := by decide +kernel
theorem dX8_take_42 : decode cX8_take 42 = .ok (.aload_n 0, 1) := by decide +kernel
theorem dX8_take_43 : decode cX8_take 43 = .ok (.iload_n 2, 1) := by decide +kernel
theorem dX8_take_44 : decode cX8_take 44 = .ok (.ifCond .ge 7, 3) := by decide +kernel
theorem dX8_take_47 : decode cX8_take 47 = .ok (.iconst 3, 1) := by decide +kernel
theorem dX8_take_48 : decode cX8_take 48 = .ok (.goto 4, 3) := by decide +kernel
theorem dX8_take_51 : decode cX8_take 51 = .ok (.iconst 0, 1) := by decide +kernel
theorem dX8_take_52 : decode cX8_take 52 = .ok (.putfield 42, 3) := by decide +kernel
theorem dX8_take_55 : decode cX8_take 55 = .ok (.iload_n 2, 1) := by decide +kernel
theorem dX8_take_56 : decode cX8_take 56 = .ok (.iconst 1, 1) := by decide +kernel
theorem dX8_take_57 : decode cX8_take 57 = .ok (.if_icmp .ne 7, 3) := by decide +kernel
theorem dX8_take_60 : decode cX8_take 60 = .ok (.iconst 1, 1) := by decide +kernel
theorem dX8_take_61 : decode cX8_take 61 = .ok (.goto 4, 3) := by decide +kernel
theorem dX8_take_64 : decode cX8_take 64 = .ok (.iconst 0, 1) := by decide +kernel
theorem dX8_take_65 : decode cX8_take 65 = .ok (.ireturn, 1) := by decide +kernel
theorem dX8_takeAll_0 : decode cX8_takeAll 0 = .ok (.aload_n 0, 1) := by decide +kernel
theorem dX8_takeAll_1 : decode cX8_takeAll 1 = .ok (.aload_n 0, 1) := by decide +kernel
theorem dX8_takeAll_2 : decode cX8_takeAll 2 = .ok (.invokevirtual 147, 3) := by decide +kernel
theorem dX8_takeAll_5 : decode cX8_takeAll 5 = .ok (.ifCond .ne 7, 3) := by decide +kernel
theorem dX8_takeAll_8 : decode cX8_takeAll 8 = .ok (.iconst 1, 1) := by decide +kernel
theorem dX8_takeAll_9 : decode cX8_takeAll 9 = .ok (.goto 29, 3) := by decide +kernel
theorem dX8_takeAll_12 : decode cX8_takeAll 12 = .ok (.iload_n 1, 1) := by decide +kernel
theorem dX8_takeAll_13 : decode cX8_takeAll 13 = .ok (.invokestatic 123, 3) := by decide +kernel
theorem dX8_takeAll_16 : decode cX8_takeAll 16 = .ok (.ifCond .ne 7, 3) := by decide +kernel
theorem dX8_takeAll_19 : decode cX8_takeAll 19 = .ok (.iconst 2, 1) := by decide +kernel
theorem dX8_takeAll_20 : decode cX8_takeAll 20 = .ok (.goto 18, 3) := by decide +kernel
theorem dX8_takeAll_23 : decode cX8_takeAll 23 = .ok (.iload_n 3, 1) := by decide +kernel
theorem dX8_takeAll_24 : decode cX8_takeAll 24 = .ok (.ifCond .lt 9, 3) := by decide +kernel
theorem dX8_takeAll_27 : decode cX8_takeAll 27 = .ok (.iload_n 3, 1) := by decide +kernel
theorem dX8_takeAll_28 : decode cX8_takeAll 28 = .ok (.bipush 100, 2) := by decide +kernel
theorem dX8_takeAll_30 : decode cX8_takeAll 30 = .ok (.if_icmp .le 7, 3) := by decide +kernel
theorem dX8_takeAll_33 : decode cX8_takeAll 33 = .ok (.iconst 3, 1) := by decide +kernel
theorem dX8_takeAll_34 : decode cX8_takeAll 34 = .ok (.goto 4, 3) := by decide +kernel
theorem dX8_takeAll_37 : decode cX8_takeAll 37 = .ok (.iconst 0, 1) := by decide +kernel
theorem dX8_takeAll_38 : decode cX8_takeAll 38 = .ok (.putfield 42, 3) := by decide +kernel
theorem dX8_takeAll_41 : decode cX8_takeAll 41 = .ok (.iconst 0, 1) := by decide +kernel
theorem dX8_takeAll_42 : decode cX8_takeAll 42 = .ok (.istore 4, 2) := by decide +kernel
theorem dX8_takeAll_44 : decode cX8_takeAll 44 = .ok (.iload_n 1, 1) := by decide +kernel
theorem dX8_takeAll_45 : decode cX8_takeAll 45 = .ok (.istore 5, 2) := by decide +kernel
theorem dX8_takeAll_47 : decode cX8_takeAll 47 = .ok (.iconst 0, 1) := by decide +kernel
theorem dX8_takeAll_48 : decode cX8_takeAll 48 = .ok (.istore 6, 2) := by decide +kernel
theorem dX8_takeAll_50 : decode cX8_takeAll 50 = .ok (.iload 6, 2) := by decide +kernel
theorem dX8_takeAll_52 : decode cX8_takeAll 52 = .ok (.iload_n 3, 1) := by decide +kernel
theorem dX8_takeAll_53 : decode cX8_takeAll 53 = .ok (.if_icmp .ge 48, 3) := by decide +kernel
theorem dX8_takeAll_56 : decode cX8_takeAll 56 = .ok (.aload_n 0, 1) := by decide +kernel
theorem dX8_takeAll_57 : decode cX8_takeAll 57 = .ok (.getfield 42, 3) := by decide +kernel
theorem dX8_takeAll_60 : decode cX8_takeAll 60 = .ok (.ifCond .ne 41, 3) := by decide +kernel
theorem dX8_takeAll_63 : decode cX8_takeAll 63 = .ok (.aload_n 0, 1) := by decide +kernel
theorem dX8_takeAll_64 : decode cX8_takeAll 64 = .ok (.iload 5, 2) := by decide +kernel
theorem dX8_takeAll_66 : decode cX8_takeAll 66 = .ok (.invokevirtual 151, 3) := by decide +kernel
theorem dX8_takeAll_69 : decode cX8_takeAll 69 = .ok (.istore 7, 2) := by decide +kernel
theorem dX8_takeAll_71 : decode cX8_takeAll 71 = .ok (.iload 7, 2) := by decide +kernel
theorem dX8_takeAll_73 : decode cX8_takeAll 73 = .ok (.ifCond .ge 6, 3) := by decide +kernel
theorem dX8_takeAll_76 : decode cX8_takeAll 76 = .ok (.iload 4, 2) := by decide +kernel
theorem dX8_takeAll_78 : decode cX8_takeAll 78 = .ok (.ireturn, 1) := by decide +kernel
theorem dX8_takeAll_79 : decode cX8_takeAll 79 = .ok (.iload 4, 2) := by decide +kernel
theorem dX8_takeAll_81 : decode cX8_takeAll 81 = .ok (.iload 7, 2) := by decide +kernel
theorem dX8_takeAll_83 : decode cX8_takeAll 83 = .ok (.iadd, 1) := by decide +kernel
theorem dX8_takeAll_84 : decode cX8_takeAll 84 = .ok (.istore 4, 2) := by decide +kernel
theorem dX8_takeAll_86 : decode cX8_takeAll 86 = .ok (.iload 5, 2) := by decide +kernel
theorem dX8_takeAll_88 : decode cX8_takeAll 88 = .ok (.iload_n 2, 1) := by decide +kernel
theorem dX8_takeAll_89 : decode cX8_takeAll 89 = .ok (.iadd, 1) := by decide +kernel
theorem dX8_takeAll_90 : decode cX8_takeAll 90 = .ok (.ldc 154, 2) := by decide +kernel
theorem dX8_takeAll_92 : decode cX8_takeAll 92 = .ok (.iand, 1) := by decide +kernel
theorem dX8_takeAll_93 : decode cX8_takeAll 93 = .ok (.istore 5, 2) := by decide +kernel
theorem dX8_takeAll_95 : decode cX8_takeAll 95 = .ok (.iinc 6 1, 3) := by decide +kernel
theorem dX8_takeAll_98 : decode cX8_takeAll 98 = .ok (.goto (-48), 3) := by decide +kernel
theorem dX8_takeAll_101 : decode cX8_takeAll 101 = .ok (.iload 4, 2) := by decide +kernel
theorem dX8_takeAll_103 : decode cX8_takeAll 103 = .ok (.ireturn, 1) := by decide +kernel
theorem dX8_give_0 : decode cX8_give 0 = .ok (.aload_n 0, 1) := by decide +kernel
theorem dX8_give_1 : decode cX8_give 1 = .ok (.aload_n 0, 1) := by decide +kernel
theorem dX8_give_2 : decode cX8_give 2 = .ok (.getfield 129, 3) := by decide +kernel
theorem dX8_give_5 : decode cX8_give 5 = .ok (.ifCond .ne 7, 3) := by decide +kernel
theorem dX8_give_8 : decode cX8_give 8 = .ok (.iconst 1, 1) := by decide +kernel
theorem dX8_give_9 : decode cX8_give 9 = .ok (.goto 30, 3) := by decide +kernel
theorem dX8_give_12 : decode cX8_give 12 = .ok (.iload_n 1, 1) := by decide +kernel
theorem dX8_give_13 : decode cX8_give 13 = .ok (.invokestatic 123, 3) := by decide +kernel
theorem dX8_give_16 : decode cX8_give 16 = .ok (.ifCond .ne 7, 3) := by decide +kernel
theorem dX8_give_19 : decode cX8_give 19 = .ok (.iconst 2, 1) := by decide +kernel
theorem dX8_give_20 : decode cX8_give 20 = .ok (.goto 19, 3) := by decide +kernel
theorem dX8_give_23 : decode cX8_give 23 = .ok (.aload_n 0, 1) := by decide +kernel
theorem dX8_give_24 : decode cX8_give 24 = .ok (.getfield 46, 3) := by decide +kernel
theorem dX8_give_27 : decode cX8_give 27 = .ok (.aload_n 0, 1) := by decide +kernel
theorem dX8_give_28 : decode cX8_give 28 = .ok (.getfield 132, 3) := by decide +kernel
theorem dX8_give_31 : decode cX8_give 31 = .ok (.if_icmp .eq 7, 3) := by decide +kernel
theorem dX8_give_34 : decode cX8_give 34 = .ok (.iconst 3, 1) := by decide +kernel
theorem dX8_give_35 : decode cX8_give 35 = .ok (.goto 4, 3) := by decide +kernel
theorem dX8_give_38 : decode cX8_give 38 = .ok (.iconst 0, 1) := by decide +kernel
theorem dX8_give_39 : decode cX8_give 39 = .ok (.putfield 42, 3) := by decide +kernel
theorem dX8_give_42 : decode cX8_give 42 = .ok (.aload_n 0, 1) := by decide +kernel
theorem dX8_give_43 : decode cX8_give 43 = .ok (.getfield 42, 3) := by decide +kernel
theorem dX8_give_46 : decode cX8_give 46 = .ok (.ifCond .le 5, 3) := by decide +kernel
theorem dX8_give_49 : decode cX8_give 49 = .ok (.iconst 0, 1) := by decide +kernel
theorem dX8_give_50 : decode cX8_give 50 = .ok (.ireturn, 1) := by decide +kernel
theorem dX8_give_51 : decode cX8_give 51 = .ok (.iconst 0, 1) := by decide +kernel
theorem dX8_give_52 : decode cX8_give 52 = .ok (.istore_n 2, 1) := by decide +kernel
theorem dX8_give_53 : decode cX8_give 53 = .ok (.iload_n 2, 1) := by decide +kernel
theorem dX8_give_54 : decode cX8_give 54 = .ok (.aload_n 0, 1) := by decide +kernel
theorem dX8_give_55 : decode cX8_give 55 = .ok (.getfield 132, 3) := by decide +kernel
theorem dX8_give_58 : decode cX8_give 58 = .ok (.if_icmp .ge 25, 3) := by decide +kernel
theorem dX8_give_61 : decode cX8_give 61 = .ok (.aload_n 0, 1) := by decide +kernel
theorem dX8_give_62 : decode cX8_give 62 = .ok (.getfield 35, 3) := by decide +kernel
theorem dX8_give_65 : decode cX8_give 65 = .ok (.iload_n 2, 1) := by decide +kernel
theorem dX8_give_66 : decode cX8_give 66 = .ok (.aload_n 0, 1) := by decide +kernel
theorem dX8_give_67 : decode cX8_give 67 = .ok (.getfield 7, 3) := by decide +kernel
theorem dX8_give_70 : decode cX8_give 70 = .ok (.iload_n 2, 1) := by decide +kernel
theorem dX8_give_71 : decode cX8_give 71 = .ok (.baload, 1) := by decide +kernel
theorem dX8_give_72 : decode cX8_give 72 = .ok (.sipush 255, 3) := by decide +kernel
theorem dX8_give_75 : decode cX8_give 75 = .ok (.iand, 1) := by decide +kernel
theorem dX8_give_76 : decode cX8_give 76 = .ok (.iastore, 1) := by decide +kernel
theorem dX8_give_77 : decode cX8_give 77 = .ok (.iinc 2 1, 3) := by decide +kernel
theorem dX8_give_80 : decode cX8_give 80 = .ok (.goto (-27), 3) := by decide +kernel
theorem dX8_give_83 : decode cX8_give 83 = .ok (.aload_n 0, 1) := by decide +kernel
theorem dX8_give_84 : decode cX8_give 84 = .ok (.iload_n 1, 1) := by decide +kernel
theorem dX8_give_85 : decode cX8_give 85 = .ok (.invokevirtual 144, 3) := by decide +kernel
theorem dX8_give_88 : decode cX8_give 88 = .ok (.istore_n 2, 1) := by decide +kernel
theorem dX8_give_89 : decode cX8_give 89 = .ok (.aload_n 0, 1) := by decide +kernel
theorem dX8_give_90 : decode cX8_give 90 = .ok (.iload_n 2, 1) := by decide +kernel
theorem dX8_give_91 : decode cX8_give 91 = .ok (.ifCond .ge 7, 3) := by decide +kernel
theorem dX8_give_94 : decode cX8_give 94 = .ok (.iconst 4, 1) := by decide +kernel
theorem dX8_give_95 : decode cX8_give 95 = .ok (.goto 4, 3) := by decide +kernel
theorem dX8_give_98 : decode cX8_give 98 = .ok (.iconst 0, 1) := by decide +kernel
theorem dX8_give_99 : decode cX8_give 99 = .ok (.putfield 42, 3) := by decide +kernel
theorem dX8_give_102 : decode cX8_give 102 = .ok (.aload_n 0, 1) := by decide +kernel
theorem dX8_give_103 : decode cX8_give 103 = .ok (.iload_n 2, 1) := by decide +kernel
theorem dX8_give_104 : decode cX8_give 104 = .ok (.ifCond .ge 10, 3) := by decide +kernel
theorem dX8_give_107 : decode cX8_give 107 = .ok (.aload_n 0, 1) := by decide +kernel
theorem dX8_give_108 : decode cX8_give 108 = .ok (.getfield 46, 3) := by decide +kernel
theorem dX8_give_111 : decode cX8_give 111 = .ok (.goto 4, 3) := by decide +kernel
theorem dX8_give_114 : decode cX8_give 114 = .ok (.iconst 0, 1) := by decide +kernel
theorem dX8_give_115 : decode cX8_give 115 = .ok (.putfield 46, 3) := by decide +kernel
theorem dX8_give_118 : decode cX8_give 118 = .ok (.iload_n 2, 1) := by decide +kernel
theorem dX8_give_119 : decode cX8_give 119 = .ok (.iconst 1, 1) := by decide +kernel
theorem dX8_give_120 : decode cX8_give 120 = .ok (.if_icmp .ne 7, 3) := by decide +kernel
theorem dX8_give_123 : decode cX8_give 123 = .ok (.iconst 1, 1) := by decide +kernel
theorem dX8_give_124 : decode cX8_give 124 = .ok (.goto 4, 3) := by decide +kernel
theorem dX8_give_127 : decode cX8_give 127 = .ok (.iconst 0, 1) := by decide +kernel
theorem dX8_give_128 : decode cX8_give 128 = .ok (.ireturn, 1) := by decide +kernel
theorem dX8_rank_0 : decode cX8_rank 0 = .ok (.aload_n 0, 1) := by decide +kernel
theorem dX8_rank_1 : decode cX8_rank 1 = .ok (.aload_n 0, 1) := by decide +kernel
theorem dX8_rank_2 : decode cX8_rank 2 = .ok (.getfield 129, 3) := by decide +kernel
theorem dX8_rank_5 : decode cX8_rank 5 = .ok (.ifCond .ne 7, 3) := by decide +kernel
theorem dX8_rank_8 : decode cX8_rank 8 = .ok (.iconst 1, 1) := by decide +kernel
theorem dX8_rank_9 : decode cX8_rank 9 = .ok (.goto 4, 3) := by decide +kernel
theorem dX8_rank_12 : decode cX8_rank 12 = .ok (.iconst 0, 1) := by decide +kernel
theorem dX8_rank_13 : decode cX8_rank 13 = .ok (.putfield 42, 3) := by decide +kernel
theorem dX8_rank_16 : decode cX8_rank 16 = .ok (.aload_n 0, 1) := by decide +kernel
theorem dX8_rank_17 : decode cX8_rank 17 = .ok (.getfield 42, 3) := by decide +kernel
theorem dX8_rank_20 : decode cX8_rank 20 = .ok (.ifCond .le 7, 3) := by decide +kernel
theorem dX8_rank_23 : decode cX8_rank 23 = .ok (.iconst 0, 1) := by decide +kernel
theorem dX8_rank_24 : decode cX8_rank 24 = .ok (.goto 10, 3) := by decide +kernel
theorem dX8_rank_27 : decode cX8_rank 27 = .ok (.bipush 11, 2) := by decide +kernel
theorem dX8_rank_29 : decode cX8_rank 29 = .ok (.aload_n 0, 1) := by decide +kernel
theorem dX8_rank_30 : decode cX8_rank 30 = .ok (.getfield 135, 3) := by decide +kernel
theorem dX8_rank_33 : decode cX8_rank 33 = .ok (.iadd, 1) := by decide +kernel
theorem dX8_rank_34 : decode cX8_rank 34 = .ok (.ireturn, 1) := by decide +kernel
theorem dX8_isKnown_0 : decode cX8_isKnown 0 = .ok (.aload_n 0, 1) := by decide +kernel
theorem dX8_isKnown_1 : decode cX8_isKnown 1 = .ok (.aload_n 0, 1) := by decide +kernel
theorem dX8_isKnown_2 : decode cX8_isKnown 2 = .ok (.getfield 129, 3) := by decide +kernel
theorem dX8_isKnown_5 : decode cX8_isKnown 5 = .ok (.aload_n 0, 1) := by decide +kernel
theorem dX8_isKnown_6 : decode cX8_isKnown 6 = .ok (.getfield 13, 3) := by decide +kernel
theorem dX8_isKnown_9 : decode cX8_isKnown 9 = .ok (.aload_n 0, 1) := by decide +kernel
theorem dX8_isKnown_10 : decode cX8_isKnown 10 = .ok (.getfield 129, 3) := by decide +kernel
theorem dX8_isKnown_13 : decode cX8_isKnown 13 = .ok (.iaload, 1) := by decide +kernel
theorem dX8_isKnown_14 : decode cX8_isKnown 14 = .ok (.iload_n 1, 1) := by decide +kernel
theorem dX8_isKnown_15 : decode cX8_isKnown 15 = .ok (.invokevirtual 99, 3) := by decide +kernel
theorem dX8_isKnown_18 : decode cX8_isKnown 18 = .ok (.pop, 1) := by decide +kernel
theorem dX8_isKnown_19 : decode cX8_isKnown 19 = .ok (.aload_n 0, 1) := by decide +kernel
theorem dX8_isKnown_20 : decode cX8_isKnown 20 = .ok (.aload_n 0, 1) := by decide +kernel
theorem dX8_isKnown_21 : decode cX8_isKnown 21 = .ok (.getfield 129, 3) := by decide +kernel
theorem dX8_isKnown_24 : decode cX8_isKnown 24 = .ok (.bipush 11, 2) := by decide +kernel
theorem dX8_isKnown_26 : decode cX8_isKnown 26 = .ok (.iadd, 1) := by decide +kernel
theorem dX8_isKnown_27 : decode cX8_isKnown 27 = .ok (.invokevirtual 77, 3) := by decide +kernel
theorem dX8_isKnown_30 : decode cX8_isKnown 30 = .ok (.ireturn, 1) := by decide +kernel
theorem dX8_follows_0 : decode cX8_follows 0 = .ok (.aload_n 0, 1) := by decide +kernel
theorem dX8_follows_1 : decode cX8_follows 1 = .ok (.aload_n 0, 1) := by decide +kernel
theorem dX8_follows_2 : decode cX8_follows 2 = .ok (.getfield 129, 3) := by decide +kernel
theorem dX8_follows_5 : decode cX8_follows 5 = .ok (.ifCond .ne 7, 3) := by decide +kernel
theorem dX8_follows_8 : decode cX8_follows 8 = .ok (.iconst 1, 1) := by decide +kernel
theorem dX8_follows_9 : decode cX8_follows 9 = .ok (.goto 15, 3) := by decide +kernel
theorem dX8_follows_12 : decode cX8_follows 12 = .ok (.iload_n 1, 1) := by decide +kernel
theorem dX8_follows_13 : decode cX8_follows 13 = .ok (.invokestatic 123, 3) := by decide +kernel
theorem dX8_follows_16 : decode cX8_follows 16 = .ok (.ifCond .eq 7, 3) := by decide +kernel
theorem dX8_follows_19 : decode cX8_follows 19 = .ok (.iconst 0, 1) := by decide +kernel
theorem dX8_follows_20 : decode cX8_follows 20 = .ok (.goto 4, 3) := by decide +kernel
theorem dX8_follows_23 : decode cX8_follows 23 = .ok (.iconst 2, 1) := by decide +kernel
theorem dX8_follows_24 : decode cX8_follows 24 = .ok (.putfield 42, 3) := by decide +kernel
theorem dX8_follows_27 : decode cX8_follows 27 = .ok (.aload_n 0, 1) := by decide +kernel
theorem dX8_follows_28 : decode cX8_follows 28 = .ok (.getfield 42, 3) := by decide +kernel
theorem dX8_follows_31 : decode cX8_follows 31 = .ok (.ifCond .le 5, 3) := by decide +kernel
theorem dX8_follows_34 : decode cX8_follows 34 = .ok (.iconst 0, 1) := by decide +kernel
theorem dX8_follows_35 : decode cX8_follows 35 = .ok (.ireturn, 1) := by decide +kernel
theorem dX8_follows_36 : decode cX8_follows 36 = .ok (.aload_n 0, 1) := by decide +kernel
theorem dX8_follows_37 : decode cX8_follows 37 = .ok (.invokevirtual 141, 3) := by decide +kernel
theorem dX8_follows_40 : decode cX8_follows 40 = .ok (.aload_n 0, 1) := by decide +kernel
theorem dX8_follows_41 : decode cX8_follows 41 = .ok (.iload_n 1, 1) := by decide +kernel
theorem dX8_follows_42 : decode cX8_follows 42 = .ok (.invokevirtual 155, 3) := by decide +kernel
theorem dX8_follows_45 : decode cX8_follows 45 = .ok (.ireturn, 1) := by decide +kernel
theorem dX8_known_0 : decode cX8_known 0 = .ok (.aload_n 0, 1) := by decide +kernel
theorem dX8_known_1 : decode cX8_known 1 = .ok (.aload_n 0, 1) := by decide +kernel
theorem dX8_known_2 : decode cX8_known 2 = .ok (.getfield 129, 3) := by decide +kernel
theorem dX8_known_5 : decode cX8_known 5 = .ok (.ifCond .ne 7, 3) := by decide +kernel
theorem dX8_known_8 : decode cX8_known 8 = .ok (.iconst 1, 1) := by decide +kernel
theorem dX8_known_9 : decode cX8_known 9 = .ok (.goto 15, 3) := by decide +kernel
theorem dX8_known_12 : decode cX8_known 12 = .ok (.iload_n 1, 1) := by decide +kernel
theorem dX8_known_13 : decode cX8_known 13 = .ok (.invokestatic 123, 3) := by decide +kernel
theorem dX8_known_16 : decode cX8_known 16 = .ok (.ifCond .eq 7, 3) := by decide +kernel
theorem dX8_known_19 : decode cX8_known 19 = .ok (.iconst 0, 1) := by decide +kernel
theorem dX8_known_20 : decode cX8_known 20 = .ok (.goto 4, 3) := by decide +kernel
theorem dX8_known_23 : decode cX8_known 23 = .ok (.iconst 2, 1) := by decide +kernel
theorem dX8_known_24 : decode cX8_known 24 = .ok (.putfield 42, 3) := by decide +kernel
theorem dX8_known_27 : decode cX8_known 27 = .ok (.aload_n 0, 1) := by decide +kernel
theorem dX8_known_28 : decode cX8_known 28 = .ok (.getfield 42, 3) := by decide +kernel
theorem dX8_known_31 : decode cX8_known 31 = .ok (.ifCond .le 5, 3) := by decide +kernel
theorem dX8_known_34 : decode cX8_known 34 = .ok (.iconst 0, 1) := by decide +kernel
theorem dX8_known_35 : decode cX8_known 35 = .ok (.ireturn, 1) := by decide +kernel
theorem dX8_known_36 : decode cX8_known 36 = .ok (.aload_n 0, 1) := by decide +kernel
theorem dX8_known_37 : decode cX8_known 37 = .ok (.invokevirtual 141, 3) := by decide +kernel
theorem dX8_known_40 : decode cX8_known 40 = .ok (.aload_n 0, 1) := by decide +kernel
theorem dX8_known_41 : decode cX8_known 41 = .ok (.iload_n 1, 1) := by decide +kernel
theorem dX8_known_42 : decode cX8_known 42 = .ok (.invokevirtual 155, 3) := by decide +kernel
theorem dX8_known_45 : decode cX8_known 45 = .ok (.ifCond .ne 10, 3) := by decide +kernel
theorem dX8_known_48 : decode cX8_known 48 = .ok (.aload_n 0, 1) := by decide +kernel
theorem dX8_known_49 : decode cX8_known 49 = .ok (.iconst 1, 1) := by decide +kernel
theorem dX8_known_50 : decode cX8_known 50 = .ok (.putfield 42, 3) := by decide +kernel
theorem dX8_known_53 : decode cX8_known 53 = .ok (.iconst 0, 1) := by decide +kernel
theorem dX8_known_54 : decode cX8_known 54 = .ok (.ireturn, 1) := by decide +kernel
theorem dX8_known_55 : decode cX8_known 55 = .ok (.aload_n 0, 1) := by decide +kernel
theorem dX8_known_56 : decode cX8_known 56 = .ok (.iload_n 2, 1) := by decide +kernel
theorem dX8_known_57 : decode cX8_known 57 = .ok (.ifCond .lt 11, 3) := by decide +kernel
theorem dX8_known_60 : decode cX8_known 60 = .ok (.iload_n 2, 1) := by decide +kernel
theorem dX8_known_61 : decode cX8_known 61 = .ok (.aload_n 0, 1) := by decide +kernel
theorem dX8_known_62 : decode cX8_known 62 = .ok (.getfield 132, 3) := by decide +kernel
theorem dX8_known_65 : decode cX8_known 65 = .ok (.if_icmp .lt 7, 3) := by decide +kernel
theorem dX8_known_68 : decode cX8_known 68 = .ok (.iconst 2, 1) := by decide +kernel
theorem dX8_known_69 : decode cX8_known 69 = .ok (.goto 4, 3) := by decide +kernel
theorem dX8_known_72 : decode cX8_known 72 = .ok (.iconst 0, 1) := by decide +kernel
theorem dX8_known_73 : decode cX8_known 73 = .ok (.putfield 42, 3) := by decide +kernel
theorem dX8_known_76 : decode cX8_known 76 = .ok (.aload_n 0, 1) := by decide +kernel
theorem dX8_known_77 : decode cX8_known 77 = .ok (.getfield 42, 3) := by decide +kernel
theorem dX8_known_80 : decode cX8_known 80 = .ok (.ifCond .le 7, 3) := by decide +kernel
theorem dX8_known_83 : decode cX8_known 83 = .ok (.iconst 0, 1) := by decide +kernel
theorem dX8_known_84 : decode cX8_known 84 = .ok (.goto 12, 3) := by decide +kernel
theorem dX8_known_87 : decode cX8_known 87 = .ok (.aload_n 0, 1) := by decide +kernel
theorem dX8_known_88 : decode cX8_known 88 = .ok (.getfield 29, 3) := by decide +kernel
theorem dX8_known_91 : decode cX8_known 91 = .ok (.bipush 59, 2) := by decide +kernel
theorem dX8_known_93 : decode cX8_known 93 = .ok (.iload_n 2, 1) := by decide +kernel
theorem dX8_known_94 : decode cX8_known 94 = .ok (.iadd, 1) := by decide +kernel
theorem dX8_known_95 : decode cX8_known 95 = .ok (.iaload, 1) := by decide +kernel
theorem dX8_known_96 : decode cX8_known 96 = .ok (.ireturn, 1) := by decide +kernel
theorem dX8_product_0 : decode cX8_product 0 = .ok (.aload_n 0, 1) := by decide +kernel
theorem dX8_product_1 : decode cX8_product 1 = .ok (.iconst 0, 1) := by decide +kernel
theorem dX8_product_2 : decode cX8_product 2 = .ok (.putfield 42, 3) := by decide +kernel
theorem dX8_product_5 : decode cX8_product 5 = .ok (.iload_n 1, 1) := by decide +kernel
theorem dX8_product_6 : decode cX8_product 6 = .ok (.sipush 255, 3) := by decide +kernel
theorem dX8_product_9 : decode cX8_product 9 = .ok (.iand, 1) := by decide +kernel
theorem dX8_product_10 : decode cX8_product 10 = .ok (.iload_n 2, 1) := by decide +kernel
theorem dX8_product_11 : decode cX8_product 11 = .ok (.sipush 255, 3) := by decide +kernel
theorem dX8_product_14 : decode cX8_product 14 = .ok (.iand, 1) := by decide +kernel
theorem dX8_product_15 : decode cX8_product 15 = .ok (.invokestatic 38, 3) := by decide +kernel
theorem dX8_product_18 : decode cX8_product 18 = .ok (.ireturn, 1) := by decide +kernel
theorem dX8_count_0 : decode cX8_count 0 = .ok (.aload_n 0, 1) := by decide +kernel
theorem dX8_count_1 : decode cX8_count 1 = .ok (.iload_n 1, 1) := by decide +kernel
theorem dX8_count_2 : decode cX8_count 2 = .ok (.ifCond .lt 9, 3) := by decide +kernel
theorem dX8_count_5 : decode cX8_count 5 = .ok (.iload_n 1, 1) := by decide +kernel
theorem dX8_count_6 : decode cX8_count 6 = .ok (.bipush 6, 2) := by decide +kernel
theorem dX8_count_8 : decode cX8_count 8 = .ok (.if_icmp .le 7, 3) := by decide +kernel
theorem dX8_count_11 : decode cX8_count 11 = .ok (.iconst 1, 1) := by decide +kernel
theorem dX8_count_12 : decode cX8_count 12 = .ok (.goto 4, 3) := by decide +kernel
theorem dX8_count_15 : decode cX8_count 15 = .ok (.iconst 0, 1) := by decide +kernel
theorem dX8_count_16 : decode cX8_count 16 = .ok (.putfield 42, 3) := by decide +kernel
theorem dX8_count_19 : decode cX8_count 19 = .ok (.aload_n 0, 1) := by decide +kernel
theorem dX8_count_20 : decode cX8_count 20 = .ok (.getfield 42, 3) := by decide +kernel
theorem dX8_count_23 : decode cX8_count 23 = .ok (.ifCond .le 5, 3) := by decide +kernel
theorem dX8_count_26 : decode cX8_count 26 = .ok (.iconst 0, 1) := by decide +kernel
theorem dX8_count_27 : decode cX8_count 27 = .ok (.ireturn, 1) := by decide +kernel
theorem dX8_count_28 : decode cX8_count 28 = .ok (.iload_n 1, 1) := by decide +kernel
theorem dX8_count_29 : decode cX8_count 29 = .ok (.bipush 6, 2) := by decide +kernel
theorem dX8_count_31 : decode cX8_count 31 = .ok (.if_icmp .ge 67, 3) := by decide +kernel
theorem dX8_count_34 : decode cX8_count 34 = .ok (.iload_n 1, 1) := by decide +kernel
theorem dX8_count_35 : decode cX8_count 35 = .ok (.ifCond .ne 10, 3) := by decide +kernel
theorem dX8_count_38 : decode cX8_count 38 = .ok (.aload_n 0, 1) := by decide +kernel
theorem dX8_count_39 : decode cX8_count 39 = .ok (.getfield 46, 3) := by decide +kernel
theorem dX8_count_42 : decode cX8_count 42 = .ok (.goto 55, 3) := by decide +kernel
theorem dX8_count_45 : decode cX8_count 45 = .ok (.iload_n 1, 1) := by decide +kernel
theorem dX8_count_46 : decode cX8_count 46 = .ok (.iconst 1, 1) := by decide +kernel
theorem dX8_count_47 : decode cX8_count 47 = .ok (.if_icmp .ne 10, 3) := by decide +kernel
theorem dX8_count_50 : decode cX8_count 50 = .ok (.aload_n 0, 1) := by decide +kernel
theorem dX8_count_51 : decode cX8_count 51 = .ok (.getfield 116, 3) := by decide +kernel
theorem dX8_count_54 : decode cX8_count 54 = .ok (.goto 43, 3) := by decide +kernel
theorem dX8_count_57 : decode cX8_count 57 = .ok (.iload_n 1, 1) := by decide +kernel
theorem dX8_count_58 : decode cX8_count 58 = .ok (.iconst 2, 1) := by decide +kernel
theorem dX8_count_59 : decode cX8_count 59 = .ok (.if_icmp .ne 10, 3) := by decide +kernel
theorem dX8_count_62 : decode cX8_count 62 = .ok (.aload_n 0, 1) := by decide +kernel
theorem dX8_count_63 : decode cX8_count 63 = .ok (.getfield 119, 3) := by decide +kernel
theorem dX8_count_66 : decode cX8_count 66 = .ok (.goto 31, 3) := by decide +kernel
theorem dX8_count_69 : decode cX8_count 69 = .ok (.iload_n 1, 1) := by decide +kernel
theorem dX8_count_70 : decode cX8_count 70 = .ok (.iconst 3, 1) := by decide +kernel
theorem dX8_count_71 : decode cX8_count 71 = .ok (.if_icmp .ne 10, 3) := by decide +kernel
theorem dX8_count_74 : decode cX8_count 74 = .ok (.aload_n 0, 1) := by decide +kernel
theorem dX8_count_75 : decode cX8_count 75 = .ok (.getfield 129, 3) := by decide +kernel
theorem dX8_count_78 : decode cX8_count 78 = .ok (.goto 19, 3) := by decide +kernel
theorem dX8_count_81 : decode cX8_count 81 = .ok (.iload_n 1, 1) := by decide +kernel
theorem dX8_count_82 : decode cX8_count 82 = .ok (.iconst 4, 1) := by decide +kernel
theorem dX8_count_83 : decode cX8_count 83 = .ok (.if_icmp .ne 10, 3) := by decide +kernel
theorem dX8_count_86 : decode cX8_count 86 = .ok (.aload_n 0, 1) := by decide +kernel
theorem dX8_count_87 : decode cX8_count 87 = .ok (.getfield 132, 3) := by decide +kernel
theorem dX8_count_90 : decode cX8_count 90 = .ok (.goto 7, 3) := by decide +kernel
theorem dX8_count_93 : decode cX8_count 93 = .ok (.aload_n 0, 1) := by decide +kernel
theorem dX8_count_94 : decode cX8_count 94 = .ok (.getfield 138, 3) := by decide +kernel
theorem dX8_count_97 : decode cX8_count 97 = .ok (.ireturn, 1) := by decide +kernel
theorem dX8_count_98 : decode cX8_count 98 = .ok (.iconst 0, 1) := by decide +kernel
theorem dX8_count_99 : decode cX8_count 99 = .ok (.istore_n 2, 1) := by decide +kernel
theorem dX8_count_100 : decode cX8_count 100 = .ok (.aload_n 0, 1) := by decide +kernel
theorem dX8_count_101 : decode cX8_count 101 = .ok (.getfield 129, 3) := by decide +kernel
theorem dX8_count_104 : decode cX8_count 104 = .ok (.ifCond .le 7, 3) := by decide +kernel
theorem dX8_count_107 : decode cX8_count 107 = .ok (.aload_n 0, 1) := by decide +kernel
theorem dX8_count_108 : decode cX8_count 108 = .ok (.invokevirtual 141, 3) := by decide +kernel
theorem dX8_count_111 : decode cX8_count 111 = .ok (.iconst 0, 1) := by decide +kernel
theorem dX8_count_112 : decode cX8_count 112 = .ok (.istore_n 3, 1) := by decide +kernel
theorem dX8_count_113 : decode cX8_count 113 = .ok (.iload_n 3, 1) := by decide +kernel
theorem dX8_count_114 : decode cX8_count 114 = .ok (.aload_n 0, 1) := by decide +kernel
theorem dX8_count_115 : decode cX8_count 115 = .ok (.getfield 129, 3) := by decide +kernel
theorem dX8_count_118 : decode cX8_count 118 = .ok (.if_icmp .ge 25, 3) := by decide +kernel
theorem dX8_count_121 : decode cX8_count 121 = .ok (.iload_n 2, 1) := by decide +kernel
theorem dX8_count_122 : decode cX8_count 122 = .ok (.aload_n 0, 1) := by decide +kernel
theorem dX8_count_123 : decode cX8_count 123 = .ok (.iload_n 3, 1) := by decide +kernel
theorem dX8_count_124 : decode cX8_count 124 = .ok (.invokevirtual 155, 3) := by decide +kernel
theorem dX8_count_127 : decode cX8_count 127 = .ok (.ifCond .eq 7, 3) := by decide +kernel
theorem dX8_count_130 : decode cX8_count 130 = .ok (.iconst 1, 1) := by decide +kernel
theorem dX8_count_131 : decode cX8_count 131 = .ok (.goto 4, 3) := by decide +kernel
theorem dX8_count_134 : decode cX8_count 134 = .ok (.iconst 0, 1) := by decide +kernel
theorem dX8_count_135 : decode cX8_count 135 = .ok (.iadd, 1) := by decide +kernel
theorem dX8_count_136 : decode cX8_count 136 = .ok (.istore_n 2, 1) := by decide +kernel
theorem dX8_count_137 : decode cX8_count 137 = .ok (.iinc 3 1, 3) := by decide +kernel
theorem dX8_count_140 : decode cX8_count 140 = .ok (.goto (-27), 3) := by decide +kernel
theorem dX8_count_143 : decode cX8_count 143 = .ok (.iload_n 2, 1) := by decide +kernel
theorem dX8_count_144 : decode cX8_count 144 = .ok (.ireturn, 1) := by decide +kernel
end
section
theorem dL_feed_0 : decode cL_feed 0 = .ok (.aload 6, 2) := by decide +kernel
theorem dL_feed_2 : decode cL_feed 2 = .ok (.iconst 0, 1) := by decide +kernel
theorem dL_feed_3 : decode cL_feed 3 = .ok (.aload_n 0, 1) := by decide +kernel
theorem dL_feed_4 : decode cL_feed 4 = .ok (.iload_n 1, 1) := by decide +kernel
theorem dL_feed_5 : decode cL_feed 5 = .ok (.iload_n 2, 1) := by decide +kernel
theorem dL_feed_6 : decode cL_feed 6 = .ok (.iload_n 3, 1) := by decide +kernel
theorem dL_feed_7 : decode cL_feed 7 = .ok (.iload 4, 2) := by decide +kernel
theorem dL_feed_9 : decode cL_feed 9 = .ok (.iload 5, 2) := by decide +kernel
theorem dL_feed_11 : decode cL_feed 11 = .ok (.invokevirtual 7, 3) := by decide +kernel
theorem dL_feed_14 : decode cL_feed 14 = .ok (.i2l, 1) := by decide +kernel
theorem dL_feed_15 : decode cL_feed 15 = .ok (.lastore, 1) := by decide +kernel
theorem dL_feed_16 : decode cL_feed 16 = .ok (.goto 7, 3) := by decide +kernel
theorem dL_feed_19 : decode cL_feed 19 = .ok (.astore 7, 2) := by decide +kernel
theorem dL_feed_21 : decode cL_feed 21 = .ok (.iconst 1, 1) := by decide +kernel
theorem dL_feed_22 : decode cL_feed 22 = .ok (.ireturn, 1) := by decide +kernel
theorem dL_feed_23 : decode cL_feed 23 = .ok (.iconst 0, 1) := by decide +kernel
theorem dL_feed_24 : decode cL_feed 24 = .ok (.ireturn, 1) := by decide +kernel
theorem dL_end_0 : decode cL_end 0 = .ok (.aload_n 0, 1) := by decide +kernel
theorem dL_end_1 : decode cL_end 1 = .ok (.iload_n 1, 1) := by decide +kernel
theorem dL_end_2 : decode cL_end 2 = .ok (.invokevirtual 15, 3) := by decide +kernel
theorem dL_end_5 : decode cL_end 5 = .ok (.goto 6, 3) := by decide +kernel
theorem dL_end_8 : decode cL_end 8 = .ok (.astore_n 2, 1) := by decide +kernel
theorem dL_end_9 : decode cL_end 9 = .ok (.iconst 1, 1) := by decide +kernel
theorem dL_end_10 : decode cL_end 10 = .ok (.ireturn, 1) := by decide +kernel
theorem dL_end_11 : decode cL_end 11 = .ok (.iconst 0, 1) := by decide +kernel
theorem dL_end_12 : decode cL_end 12 = .ok (.ireturn, 1) := by decide +kernel
theorem dL_turn_0 : decode cL_turn 0 = .ok (.aload_n 2, 1) := by decide +kernel
theorem dL_turn_1 : decode cL_turn 1 = .ok (.iconst 0, 1) := by decide +kernel
theorem dL_turn_2 : decode cL_turn 2 = .ok (.aload_n 0, 1) := by decide +kernel
theorem dL_turn_3 : decode cL_turn 3 = .ok (.iload_n 1, 1) := by decide +kernel
theorem dL_turn_4 : decode cL_turn 4 = .ok (.invokevirtual 21, 3) := by decide +kernel
theorem dL_turn_7 : decode cL_turn 7 = .ok (.i2l, 1) := by decide +kernel
theorem dL_turn_8 : decode cL_turn 8 = .ok (.lastore, 1) := by decide +kernel
theorem dL_turn_9 : decode cL_turn 9 = .ok (.goto 6, 3) := by decide +kernel
theorem dL_turn_12 : decode cL_turn 12 = .ok (.astore_n 3, 1) := by decide +kernel
theorem dL_turn_13 : decode cL_turn 13 = .ok (.iconst 1, 1) := by decide +kernel
theorem dL_turn_14 : decode cL_turn 14 = .ok (.ireturn, 1) := by decide +kernel
theorem dL_turn_15 : decode cL_turn 15 = .ok (.iconst 0, 1) := by decide +kernel
theorem dL_turn_16 : decode cL_turn 16 = .ok (.ireturn, 1) := by decide +kernel
theorem dL_block_0 : decode cL_block 0 = .ok (.aload_n 0, 1) := by decide +kernel
theorem dL_block_1 : decode cL_block 1 = .ok (.iload_n 1, 1) := by decide +kernel
theorem dL_block_2 : decode cL_block 2 = .ok (.iload_n 2, 1) := by decide +kernel
theorem dL_block_3 : decode cL_block 3 = .ok (.invokevirtual 25, 3) := by decide +kernel
theorem dL_block_6 : decode cL_block 6 = .ok (.goto 6, 3) := by decide +kernel
theorem dL_block_9 : decode cL_block 9 = .ok (.astore_n 3, 1) := by decide +kernel
theorem dL_block_10 : decode cL_block 10 = .ok (.iconst 1, 1) := by decide +kernel
theorem dL_block_11 : decode cL_block 11 = .ok (.ireturn, 1) := by decide +kernel
theorem dL_block_12 : decode cL_block 12 = .ok (.iconst 0, 1) := by decide +kernel
theorem dL_block_13 : decode cL_block 13 = .ok (.ireturn, 1) := by decide +kernel
theorem dL_byteAt_0 : decode cL_byteAt 0 = .ok (.aload_n 3, 1) := by decide +kernel
theorem dL_byteAt_1 : decode cL_byteAt 1 = .ok (.iconst 0, 1) := by decide +kernel
theorem dL_byteAt_2 : decode cL_byteAt 2 = .ok (.aload_n 0, 1) := by decide +kernel
theorem dL_byteAt_3 : decode cL_byteAt 3 = .ok (.iload_n 1, 1) := by decide +kernel
theorem dL_byteAt_4 : decode cL_byteAt 4 = .ok (.iload_n 2, 1) := by decide +kernel
theorem dL_byteAt_5 : decode cL_byteAt 5 = .ok (.invokevirtual 29, 3) := by decide +kernel
theorem dL_byteAt_8 : decode cL_byteAt 8 = .ok (.i2l, 1) := by decide +kernel
theorem dL_byteAt_9 : decode cL_byteAt 9 = .ok (.lastore, 1) := by decide +kernel
theorem dL_byteAt_10 : decode cL_byteAt 10 = .ok (.goto 11, 3) := by decide +kernel
theorem dL_byteAt_13 : decode cL_byteAt 13 = .ok (.astore 4, 2) := by decide +kernel
theorem dL_byteAt_15 : decode cL_byteAt 15 = .ok (.iconst 1, 1) := by decide +kernel
theorem dL_byteAt_16 : decode cL_byteAt 16 = .ok (.ireturn, 1) := by decide +kernel
theorem dL_byteAt_17 : decode cL_byteAt 17 = .ok (.astore 4, 2) := by decide +kernel
theorem dL_byteAt_19 : decode cL_byteAt 19 = .ok (.iconst 2, 1) := by decide +kernel
theorem dL_byteAt_20 : decode cL_byteAt 20 = .ok (.ireturn, 1) := by decide +kernel
theorem dL_byteAt_21 : decode cL_byteAt 21 = .ok (.iconst 0, 1) := by decide +kernel
theorem dL_byteAt_22 : decode cL_byteAt 22 = .ok (.ireturn, 1) := by decide +kernel
theorem dL_row_0 : decode cL_row 0 = .ok (.aload 4, 2) := by decide +kernel
theorem dL_row_2 : decode cL_row 2 = .ok (.iconst 0, 1) := by decide +kernel
theorem dL_row_3 : decode cL_row 3 = .ok (.aload_n 0, 1) := by decide +kernel
theorem dL_row_4 : decode cL_row 4 = .ok (.iload_n 1, 1) := by decide +kernel
theorem dL_row_5 : decode cL_row 5 = .ok (.iload_n 2, 1) := by decide +kernel
theorem dL_row_6 : decode cL_row 6 = .ok (.iload_n 3, 1) := by decide +kernel
theorem dL_row_7 : decode cL_row 7 = .ok (.invokevirtual 37, 3) := by decide +kernel
theorem dL_row_10 : decode cL_row 10 = .ok (.i2l, 1) := by decide +kernel
theorem dL_row_11 : decode cL_row 11 = .ok (.lastore, 1) := by decide +kernel
theorem dL_row_12 : decode cL_row 12 = .ok (.goto 11, 3) := by decide +kernel
theorem dL_row_15 : decode cL_row 15 = .ok (.astore 5, 2) := by decide +kernel
theorem dL_row_17 : decode cL_row 17 = .ok (.iconst 1, 1) := by decide +kernel
theorem dL_row_18 : decode cL_row 18 = .ok (.ireturn, 1) := by decide +kernel
theorem dL_row_19 : decode cL_row 19 = .ok (.astore 5, 2) := by decide +kernel
theorem dL_row_21 : decode cL_row 21 = .ok (.iconst 2, 1) := by decide +kernel
theorem dL_row_22 : decode cL_row 22 = .ok (.ireturn, 1) := by decide +kernel
theorem dL_row_23 : decode cL_row 23 = .ok (.iconst 0, 1) := by decide +kernel
theorem dL_row_24 : decode cL_row 24 = .ok (.ireturn, 1) := by decide +kernel
theorem dL_open_0 : decode cL_open 0 = .ok (.aload_n 0, 1) := by decide +kernel
theorem dL_open_1 : decode cL_open 1 = .ok (.iload_n 1, 1) := by decide +kernel
theorem dL_open_2 : decode cL_open 2 = .ok (.iload_n 2, 1) := by decide +kernel
theorem dL_open_3 : decode cL_open 3 = .ok (.invokevirtual 41, 3) := by decide +kernel
theorem dL_open_6 : decode cL_open 6 = .ok (.goto 6, 3) := by decide +kernel
theorem dL_open_9 : decode cL_open 9 = .ok (.astore_n 3, 1) := by decide +kernel
theorem dL_open_10 : decode cL_open 10 = .ok (.iconst 1, 1) := by decide +kernel
theorem dL_open_11 : decode cL_open 11 = .ok (.ireturn, 1) := by decide +kernel
theorem dL_open_12 : decode cL_open 12 = .ok (.iconst 0, 1) := by decide +kernel
theorem dL_open_13 : decode cL_open 13 = .ok (.ireturn, 1) := by decide +kernel
theorem dL_take_0 : decode cL_take 0 = .ok (.aload_n 2, 1) := by decide +kernel
theorem dL_take_1 : decode cL_take 1 = .ok (.iconst 0, 1) := by decide +kernel
theorem dL_take_2 : decode cL_take 2 = .ok (.aload_n 0, 1) := by decide +kernel
theorem dL_take_3 : decode cL_take 3 = .ok (.iload_n 1, 1) := by decide +kernel
theorem dL_take_4 : decode cL_take 4 = .ok (.invokevirtual 44, 3) := by decide +kernel
theorem dL_take_7 : decode cL_take 7 = .ok (.ifCond .eq 7, 3) := by decide +kernel
theorem dL_take_10 : decode cL_take 10 = .ok (.lconst 1, 1) := by decide +kernel
theorem dL_take_11 : decode cL_take 11 = .ok (.goto 4, 3) := by decide +kernel
theorem dL_take_14 : decode cL_take 14 = .ok (.lconst 0, 1) := by decide +kernel
theorem dL_take_15 : decode cL_take 15 = .ok (.lastore, 1) := by decide +kernel
theorem dL_take_16 : decode cL_take 16 = .ok (.goto 12, 3) := by decide +kernel
theorem dL_take_19 : decode cL_take 19 = .ok (.astore_n 3, 1) := by decide +kernel
theorem dL_take_20 : decode cL_take 20 = .ok (.iconst 1, 1) := by decide +kernel
theorem dL_take_21 : decode cL_take 21 = .ok (.ireturn, 1) := by decide +kernel
theorem dL_take_22 : decode cL_take 22 = .ok (.astore_n 3, 1) := by decide +kernel
theorem dL_take_23 : decode cL_take 23 = .ok (.iconst 2, 1) := by decide +kernel
theorem dL_take_24 : decode cL_take 24 = .ok (.ireturn, 1) := by decide +kernel
theorem dL_take_25 : decode cL_take 25 = .ok (.astore_n 3, 1) := by decide +kernel
theorem dL_take_26 : decode cL_take 26 = .ok (.iconst 3, 1) := by decide +kernel
theorem dL_take_27 : decode cL_take 27 = .ok (.ireturn, 1) := by decide +kernel
theorem dL_take_28 : decode cL_take 28 = .ok (.iconst 0, 1) := by decide +kernel
theorem dL_take_29 : decode cL_take 29 = .ok (.ireturn, 1) := by decide +kernel
theorem dL_takeAll_0 : decode cL_takeAll 0 = .ok (.aload 4, 2) := by decide +kernel
theorem dL_takeAll_2 : decode cL_takeAll 2 = .ok (.iconst 0, 1) := by decide +kernel
theorem dL_takeAll_3 : decode cL_takeAll 3 = .ok (.aload_n 0, 1) := by decide +kernel
theorem dL_takeAll_4 : decode cL_takeAll 4 = .ok (.iload_n 1, 1) := by decide +kernel
theorem dL_takeAll_5 : decode cL_takeAll 5 = .ok (.iload_n 2, 1) := by decide +kernel
theorem dL_takeAll_6 : decode cL_takeAll 6 = .ok (.iload_n 3, 1) := by decide +kernel
theorem dL_takeAll_7 : decode cL_takeAll 7 = .ok (.invokevirtual 48, 3) := by decide +kernel
theorem dL_takeAll_10 : decode cL_takeAll 10 = .ok (.i2l, 1) := by decide +kernel
theorem dL_takeAll_11 : decode cL_takeAll 11 = .ok (.lastore, 1) := by decide +kernel
theorem dL_takeAll_12 : decode cL_takeAll 12 = .ok (.goto 15, 3) := by decide +kernel
theorem dL_takeAll_15 : decode cL_takeAll 15 = .ok (.astore 5, 2) := by decide +kernel
theorem dL_takeAll_17 : decode cL_takeAll 17 = .ok (.iconst 1, 1) := by decide +kernel
theorem dL_takeAll_18 : decode cL_takeAll 18 = .ok (.ireturn, 1) := by decide +kernel
theorem dL_takeAll_19 : decode cL_takeAll 19 = .ok (.astore 5, 2) := by decide +kernel
theorem dL_takeAll_21 : decode cL_takeAll 21 = .ok (.iconst 2, 1) := by decide +kernel
theorem dL_takeAll_22 : decode cL_takeAll 22 = .ok (.ireturn, 1) := by decide +kernel
theorem dL_takeAll_23 : decode cL_takeAll 23 = .ok (.astore 5, 2) := by decide +kernel
theorem dL_takeAll_25 : decode cL_takeAll 25 = .ok (.iconst 3, 1) := by decide +kernel
theorem dL_takeAll_26 : decode cL_takeAll 26 = .ok (.ireturn, 1) := by decide +kernel
theorem dL_takeAll_27 : decode cL_takeAll 27 = .ok (.iconst 0, 1) := by decide +kernel
theorem dL_takeAll_28 : decode cL_takeAll 28 = .ok (.ireturn, 1) := by decide +kernel
theorem dL_give_0 : decode cL_give 0 = .ok (.aload_n 2, 1) := by decide +kernel
theorem dL_give_1 : decode cL_give 1 = .ok (.iconst 0, 1) := by decide +kernel
theorem dL_give_2 : decode cL_give 2 = .ok (.aload_n 0, 1) := by decide +kernel
theorem dL_give_3 : decode cL_give 3 = .ok (.iload_n 1, 1) := by decide +kernel
theorem dL_give_4 : decode cL_give 4 = .ok (.invokevirtual 52, 3) := by decide +kernel
theorem dL_give_7 : decode cL_give 7 = .ok (.ifCond .eq 7, 3) := by decide +kernel
theorem dL_give_10 : decode cL_give 10 = .ok (.lconst 1, 1) := by decide +kernel
theorem dL_give_11 : decode cL_give 11 = .ok (.goto 4, 3) := by decide +kernel
theorem dL_give_14 : decode cL_give 14 = .ok (.lconst 0, 1) := by decide +kernel
theorem dL_give_15 : decode cL_give 15 = .ok (.lastore, 1) := by decide +kernel
theorem dL_give_16 : decode cL_give 16 = .ok (.goto 15, 3) := by decide +kernel
theorem dL_give_19 : decode cL_give 19 = .ok (.astore_n 3, 1) := by decide +kernel
theorem dL_give_20 : decode cL_give 20 = .ok (.iconst 1, 1) := by decide +kernel
theorem dL_give_21 : decode cL_give 21 = .ok (.ireturn, 1) := by decide +kernel
theorem dL_give_22 : decode cL_give 22 = .ok (.astore_n 3, 1) := by decide +kernel
theorem dL_give_23 : decode cL_give 23 = .ok (.iconst 2, 1) := by decide +kernel
theorem dL_give_24 : decode cL_give 24 = .ok (.ireturn, 1) := by decide +kernel
theorem dL_give_25 : decode cL_give 25 = .ok (.astore_n 3, 1) := by decide +kernel
theorem dL_give_26 : decode cL_give 26 = .ok (.iconst 3, 1) := by decide +kernel
theorem dL_give_27 : decode cL_give 27 = .ok (.ireturn, 1) := by decide +kernel
theorem dL_give_28 : decode cL_give 28 = .ok (.astore_n 3, 1) := by decide +kernel
theorem dL_give_29 : decode cL_give 29 = .ok (.iconst 4, 1) := by decide +kernel
theorem dL_give_30 : decode cL_give 30 = .ok (.ireturn, 1) := by decide +kernel
theorem dL_give_31 : decode cL_give 31 = .ok (.iconst 0, 1) := by decide +kernel
theorem dL_give_32 : decode cL_give 32 = .ok (.ireturn, 1) := by decide +kernel
theorem dL_rank_0 : decode cL_rank 0 = .ok (.aload_n 1, 1) := by decide +kernel
theorem dL_rank_1 : decode cL_rank 1 = .ok (.iconst 0, 1) := by decide +kernel
theorem dL_rank_2 : decode cL_rank 2 = .ok (.aload_n 0, 1) := by decide +kernel
theorem dL_rank_3 : decode cL_rank 3 = .ok (.invokevirtual 55, 3) := by decide +kernel
theorem dL_rank_6 : decode cL_rank 6 = .ok (.i2l, 1) := by decide +kernel
theorem dL_rank_7 : decode cL_rank 7 = .ok (.lastore, 1) := by decide +kernel
theorem dL_rank_8 : decode cL_rank 8 = .ok (.goto 6, 3) := by decide +kernel
theorem dL_rank_11 : decode cL_rank 11 = .ok (.astore_n 2, 1) := by decide +kernel
theorem dL_rank_12 : decode cL_rank 12 = .ok (.iconst 1, 1) := by decide +kernel
theorem dL_rank_13 : decode cL_rank 13 = .ok (.ireturn, 1) := by decide +kernel
theorem dL_rank_14 : decode cL_rank 14 = .ok (.iconst 0, 1) := by decide +kernel
theorem dL_rank_15 : decode cL_rank 15 = .ok (.ireturn, 1) := by decide +kernel
theorem dL_follows_0 : decode cL_follows 0 = .ok (.aload_n 2, 1) := by decide +kernel
theorem dL_follows_1 : decode cL_follows 1 = .ok (.iconst 0, 1) := by decide +kernel
theorem dL_follows_2 : decode cL_follows 2 = .ok (.aload_n 0, 1) := by decide +kernel
theorem dL_follows_3 : decode cL_follows 3 = .ok (.iload_n 1, 1) := by decide +kernel
theorem dL_follows_4 : decode cL_follows 4 = .ok (.invokevirtual 59, 3) := by decide +kernel
theorem dL_follows_7 : decode cL_follows 7 = .ok (.ifCond .eq 7, 3) := by decide +kernel
theorem dL_follows_10 : decode cL_follows 10 = .ok (.lconst 1, 1) := by decide +kernel
theorem dL_follows_11 : decode cL_follows 11 = .ok (.goto 4, 3) := by decide +kernel
theorem dL_follows_14 : decode cL_follows 14 = .ok (.lconst 0, 1) := by decide +kernel
theorem dL_follows_15 : decode cL_follows 15 = .ok (.lastore, 1) := by decide +kernel
theorem dL_follows_16 : decode cL_follows 16 = .ok (.goto 9, 3) := by decide +kernel
theorem dL_follows_19 : decode cL_follows 19 = .ok (.astore_n 3, 1) := by decide +kernel
theorem dL_follows_20 : decode cL_follows 20 = .ok (.iconst 1, 1) := by decide +kernel
theorem dL_follows_21 : decode cL_follows 21 = .ok (.ireturn, 1) := by decide +kernel
theorem dL_follows_22 : decode cL_follows 22 = .ok (.astore_n 3, 1) := by decide +kernel
theorem dL_follows_23 : decode cL_follows 23 = .ok (.iconst 2, 1) := by decide +kernel
theorem dL_follows_24 : decode cL_follows 24 = .ok (.ireturn, 1) := by decide +kernel
theorem dL_follows_25 : decode cL_follows 25 = .ok (.iconst 0, 1) := by decide +kernel
theorem dL_follows_26 : decode cL_follows 26 = .ok (.ireturn, 1) := by decide +kernel
theorem dL_known_0 : decode cL_known 0 = .ok (.aload_n 3, 1) := by decide +kernel
theorem dL_known_1 : decode cL_known 1 = .ok (.iconst 0, 1) := by decide +kernel
theorem dL_known_2 : decode cL_known 2 = .ok (.aload_n 0, 1) := by decide +kernel
theorem dL_known_3 : decode cL_known 3 = .ok (.iload_n 1, 1) := by decide +kernel
theorem dL_known_4 : decode cL_known 4 = .ok (.iload_n 2, 1) := by decide +kernel
theorem dL_known_5 : decode cL_known 5 = .ok (.invokevirtual 62, 3) := by decide +kernel
theorem dL_known_8 : decode cL_known 8 = .ok (.i2l, 1) := by decide +kernel
theorem dL_known_9 : decode cL_known 9 = .ok (.lastore, 1) := by decide +kernel
theorem dL_known_10 : decode cL_known 10 = .ok (.goto 11, 3) := by decide +kernel
theorem dL_known_13 : decode cL_known 13 = .ok (.astore 4, 2) := by decide +kernel
theorem dL_known_15 : decode cL_known 15 = .ok (.iconst 1, 1) := by decide +kernel
theorem dL_known_16 : decode cL_known 16 = .ok (.ireturn, 1) := by decide +kernel
theorem dL_known_17 : decode cL_known 17 = .ok (.astore 4, 2) := by decide +kernel
theorem dL_known_19 : decode cL_known 19 = .ok (.iconst 2, 1) := by decide +kernel
theorem dL_known_20 : decode cL_known 20 = .ok (.ireturn, 1) := by decide +kernel
theorem dL_known_21 : decode cL_known 21 = .ok (.iconst 0, 1) := by decide +kernel
theorem dL_known_22 : decode cL_known 22 = .ok (.ireturn, 1) := by decide +kernel
theorem dL_count_0 : decode cL_count 0 = .ok (.aload_n 2, 1) := by decide +kernel
theorem dL_count_1 : decode cL_count 1 = .ok (.iconst 0, 1) := by decide +kernel
theorem dL_count_2 : decode cL_count 2 = .ok (.aload_n 0, 1) := by decide +kernel
theorem dL_count_3 : decode cL_count 3 = .ok (.iload_n 1, 1) := by decide +kernel
theorem dL_count_4 : decode cL_count 4 = .ok (.invokevirtual 65, 3) := by decide +kernel
theorem dL_count_7 : decode cL_count 7 = .ok (.i2l, 1) := by decide +kernel
theorem dL_count_8 : decode cL_count 8 = .ok (.lastore, 1) := by decide +kernel
theorem dL_count_9 : decode cL_count 9 = .ok (.goto 6, 3) := by decide +kernel
theorem dL_count_12 : decode cL_count 12 = .ok (.astore_n 3, 1) := by decide +kernel
theorem dL_count_13 : decode cL_count 13 = .ok (.iconst 1, 1) := by decide +kernel
theorem dL_count_14 : decode cL_count 14 = .ok (.ireturn, 1) := by decide +kernel
theorem dL_count_15 : decode cL_count 15 = .ok (.iconst 0, 1) := by decide +kernel
theorem dL_count_16 : decode cL_count 16 = .ok (.ireturn, 1) := by decide +kernel
end
section
theorem dL_law_0 : decode cL_law 0 = .ok (.new 8, 3) := by decide +kernel
theorem dL_law_3 : decode cL_law 3 = .ok (.dup, 1) := by decide +kernel
theorem dL_law_4 : decode cL_law 4 = .ok (.invokespecial 68, 3) := by decide +kernel
theorem dL_law_7 : decode cL_law 7 = .ok (.astore_n 1, 1) := by decide +kernel
theorem dL_law_8 : decode cL_law 8 = .ok (.new 69, 3) := by decide +kernel
theorem dL_law_11 : decode cL_law 11 = .ok (.dup, 1) := by decide +kernel
theorem dL_law_12 : decode cL_law 12 = .ok (.invokespecial 71, 3) := by decide +kernel
theorem dL_law_15 : decode cL_law 15 = .ok (.astore_n 2, 1) := by decide +kernel
theorem dL_law_16 : decode cL_law 16 = .ok (.iconst 1, 1) := by decide +kernel
theorem dL_law_17 : decode cL_law 17 = .ok (.newarray .long, 2) := by decide +kernel
theorem dL_law_19 : decode cL_law 19 = .ok (.astore_n 3, 1) := by decide +kernel
theorem dL_law_20 : decode cL_law 20 = .ok (.iconst 0, 1) := by decide +kernel
theorem dL_law_21 : decode cL_law 21 = .ok (.istore 4, 2) := by decide +kernel
theorem dL_law_23 : decode cL_law 23 = .ok (.iload 4, 2) := by decide +kernel
theorem dL_law_25 : decode cL_law 25 = .ok (.aload_n 0, 1) := by decide +kernel
theorem dL_law_26 : decode cL_law 26 = .ok (.arraylength, 1) := by decide +kernel
theorem dL_law_27 : decode cL_law 27 = .ok (.bipush 6, 2) := by decide +kernel
theorem dL_law_29 : decode cL_law 29 = .ok (.isub, 1) := by decide +kernel
theorem dL_law_30 : decode cL_law 30 = .ok (.if_icmp .gt 1022, 3) := by decide +kernel
theorem dL_law_33 : decode cL_law 33 = .ok (.aload_n 0, 1) := by decide +kernel
theorem dL_law_34 : decode cL_law 34 = .ok (.iload 4, 2) := by decide +kernel
theorem dL_law_36 : decode cL_law 36 = .ok (.iaload, 1) := by decide +kernel
theorem dL_law_37 : decode cL_law 37 = .ok (.bipush 15, 2) := by decide +kernel
theorem dL_law_39 : decode cL_law 39 = .ok (.iand, 1) := by decide +kernel
theorem dL_law_40 : decode cL_law 40 = .ok (.tableswitch 1006 0 14 #[76, 180, 216, 272, 320, 388, 484, 532, 595, 675, 738, 782, 845, 913, 950], 76) := by decide +kernel
theorem dL_law_116 : decode cL_law 116 = .ok (.aload_n 1, 1) := by decide +kernel
theorem dL_law_117 : decode cL_law 117 = .ok (.aload_n 0, 1) := by decide +kernel
theorem dL_law_118 : decode cL_law 118 = .ok (.iload 4, 2) := by decide +kernel
theorem dL_law_120 : decode cL_law 120 = .ok (.iconst 1, 1) := by decide +kernel
theorem dL_law_121 : decode cL_law 121 = .ok (.iadd, 1) := by decide +kernel
theorem dL_law_122 : decode cL_law 122 = .ok (.iaload, 1) := by decide +kernel
theorem dL_law_123 : decode cL_law 123 = .ok (.aload_n 0, 1) := by decide +kernel
theorem dL_law_124 : decode cL_law 124 = .ok (.iload 4, 2) := by decide +kernel
theorem dL_law_126 : decode cL_law 126 = .ok (.iconst 2, 1) := by decide +kernel
theorem dL_law_127 : decode cL_law 127 = .ok (.iadd, 1) := by decide +kernel
theorem dL_law_128 : decode cL_law 128 = .ok (.iaload, 1) := by decide +kernel
theorem dL_law_129 : decode cL_law 129 = .ok (.aload_n 0, 1) := by decide +kernel
theorem dL_law_130 : decode cL_law 130 = .ok (.iload 4, 2) := by decide +kernel
theorem dL_law_132 : decode cL_law 132 = .ok (.iconst 3, 1) := by decide +kernel
theorem dL_law_133 : decode cL_law 133 = .ok (.iadd, 1) := by decide +kernel
theorem dL_law_134 : decode cL_law 134 = .ok (.iaload, 1) := by decide +kernel
theorem dL_law_135 : decode cL_law 135 = .ok (.aload_n 0, 1) := by decide +kernel
theorem dL_law_136 : decode cL_law 136 = .ok (.iload 4, 2) := by decide +kernel
theorem dL_law_138 : decode cL_law 138 = .ok (.iconst 4, 1) := by decide +kernel
theorem dL_law_139 : decode cL_law 139 = .ok (.iadd, 1) := by decide +kernel
theorem dL_law_140 : decode cL_law 140 = .ok (.iaload, 1) := by decide +kernel
theorem dL_law_141 : decode cL_law 141 = .ok (.aload_n 0, 1) := by decide +kernel
theorem dL_law_142 : decode cL_law 142 = .ok (.iload 4, 2) := by decide +kernel
theorem dL_law_144 : decode cL_law 144 = .ok (.iconst 5, 1) := by decide +kernel
theorem dL_law_145 : decode cL_law 145 = .ok (.iadd, 1) := by decide +kernel
theorem dL_law_146 : decode cL_law 146 = .ok (.iaload, 1) := by decide +kernel
theorem dL_law_147 : decode cL_law 147 = .ok (.aload_n 3, 1) := by decide +kernel
theorem dL_law_148 : decode cL_law 148 = .ok (.invokestatic 72, 3) := by decide +kernel
theorem dL_law_151 : decode cL_law 151 = .ok (.istore 5, 2) := by decide +kernel
theorem dL_law_153 : decode cL_law 153 = .ok (.aload_n 2, 1) := by decide +kernel
theorem dL_law_154 : decode cL_law 154 = .ok (.aload_n 0, 1) := by decide +kernel
theorem dL_law_155 : decode cL_law 155 = .ok (.iload 4, 2) := by decide +kernel
theorem dL_law_157 : decode cL_law 157 = .ok (.iconst 1, 1) := by decide +kernel
theorem dL_law_158 : decode cL_law 158 = .ok (.iadd, 1) := by decide +kernel
theorem dL_law_159 : decode cL_law 159 = .ok (.iaload, 1) := by decide +kernel
theorem dL_law_160 : decode cL_law 160 = .ok (.aload_n 0, 1) := by decide +kernel
theorem dL_law_161 : decode cL_law 161 = .ok (.iload 4, 2) := by decide +kernel
theorem dL_law_163 : decode cL_law 163 = .ok (.iconst 2, 1) := by decide +kernel
theorem dL_law_164 : decode cL_law 164 = .ok (.iadd, 1) := by decide +kernel
theorem dL_law_165 : decode cL_law 165 = .ok (.iaload, 1) := by decide +kernel
theorem dL_law_166 : decode cL_law 166 = .ok (.aload_n 0, 1) := by decide +kernel
theorem dL_law_167 : decode cL_law 167 = .ok (.iload 4, 2) := by decide +kernel
theorem dL_law_169 : decode cL_law 169 = .ok (.iconst 3, 1) := by decide +kernel
theorem dL_law_170 : decode cL_law 170 = .ok (.iadd, 1) := by decide +kernel
theorem dL_law_171 : decode cL_law 171 = .ok (.iaload, 1) := by decide +kernel
theorem dL_law_172 : decode cL_law 172 = .ok (.aload_n 0, 1) := by decide +kernel
theorem dL_law_173 : decode cL_law 173 = .ok (.iload 4, 2) := by decide +kernel
theorem dL_law_175 : decode cL_law 175 = .ok (.iconst 4, 1) := by decide +kernel
theorem dL_law_176 : decode cL_law 176 = .ok (.iadd, 1) := by decide +kernel
theorem dL_law_177 : decode cL_law 177 = .ok (.iaload, 1) := by decide +kernel
theorem dL_law_178 : decode cL_law 178 = .ok (.aload_n 0, 1) := by decide +kernel
theorem dL_law_179 : decode cL_law 179 = .ok (.iload 4, 2) := by decide +kernel
theorem dL_law_181 : decode cL_law 181 = .ok (.iconst 5, 1) := by decide +kernel
theorem dL_law_182 : decode cL_law 182 = .ok (.iadd, 1) := by decide +kernel
theorem dL_law_183 : decode cL_law 183 = .ok (.iaload, 1) := by decide +kernel
theorem dL_law_184 : decode cL_law 184 = .ok (.invokevirtual 77, 3) := by decide +kernel
theorem dL_law_187 : decode cL_law 187 = .ok (.istore 6, 2) := by decide +kernel
theorem dL_law_189 : decode cL_law 189 = .ok (.aload_n 2, 1) := by decide +kernel
theorem dL_law_190 : decode cL_law 190 = .ok (.invokevirtual 78, 3) := by decide +kernel
theorem dL_law_193 : decode cL_law 193 = .ok (.iload 5, 2) := by decide +kernel
theorem dL_law_195 : decode cL_law 195 = .ok (.if_icmp .eq 5, 3) := by decide +kernel
theorem dL_law_198 : decode cL_law 198 = .ok (.iconst 0, 1) := by decide +kernel
theorem dL_law_199 : decode cL_law 199 = .ok (.ireturn, 1) := by decide +kernel
theorem dL_law_200 : decode cL_law 200 = .ok (.iload 5, 2) := by decide +kernel
theorem dL_law_202 : decode cL_law 202 = .ok (.ifCond .ne 15, 3) := by decide +kernel
theorem dL_law_205 : decode cL_law 205 = .ok (.aload_n 3, 1) := by decide +kernel
theorem dL_law_206 : decode cL_law 206 = .ok (.iconst 0, 1) := by decide +kernel
theorem dL_law_207 : decode cL_law 207 = .ok (.laload, 1) := by decide +kernel
theorem dL_law_208 : decode cL_law 208 = .ok (.iload 6, 2) := by decide +kernel
theorem dL_law_210 : decode cL_law 210 = .ok (.i2l, 1) := by decide +kernel
theorem dL_law_211 : decode cL_law 211 = .ok (.lcmp, 1) := by decide +kernel
theorem dL_law_212 : decode cL_law 212 = .ok (.ifCond .eq 5, 3) := by decide +kernel
theorem dL_law_215 : decode cL_law 215 = .ok (.iconst 0, 1) := by decide +kernel
theorem dL_law_216 : decode cL_law 216 = .ok (.ireturn, 1) := by decide +kernel
theorem dL_law_217 : decode cL_law 217 = .ok (.goto 829, 3) := by decide +kernel
theorem dL_law_220 : decode cL_law 220 = .ok (.aload_n 1, 1) := by decide +kernel
theorem dL_law_221 : decode cL_law 221 = .ok (.aload_n 0, 1) := by decide +kernel
theorem dL_law_222 : decode cL_law 222 = .ok (.iload 4, 2) := by decide +kernel
theorem dL_law_224 : decode cL_law 224 = .ok (.iconst 1, 1) := by decide +kernel
theorem dL_law_225 : decode cL_law 225 = .ok (.iadd, 1) := by decide +kernel
theorem dL_law_226 : decode cL_law 226 = .ok (.iaload, 1) := by decide +kernel
theorem dL_law_227 : decode cL_law 227 = .ok (.invokestatic 81, 3) := by decide +kernel
theorem dL_law_230 : decode cL_law 230 = .ok (.istore 5, 2) := by decide +kernel
theorem dL_law_232 : decode cL_law 232 = .ok (.aload_n 2, 1) := by decide +kernel
theorem dL_law_233 : decode cL_law 233 = .ok (.aload_n 0, 1) := by decide +kernel
theorem dL_law_234 : decode cL_law 234 = .ok (.iload 4, 2) := by decide +kernel
theorem dL_law_236 : decode cL_law 236 = .ok (.iconst 1, 1) := by decide +kernel
theorem dL_law_237 : decode cL_law 237 = .ok (.iadd, 1) := by decide +kernel
theorem dL_law_238 : decode cL_law 238 = .ok (.iaload, 1) := by decide +kernel
theorem dL_law_239 : decode cL_law 239 = .ok (.invokevirtual 84, 3) := by decide +kernel
theorem dL_law_242 : decode cL_law 242 = .ok (.aload_n 2, 1) := by decide +kernel
theorem dL_law_243 : decode cL_law 243 = .ok (.invokevirtual 78, 3) := by decide +kernel
theorem dL_law_246 : decode cL_law 246 = .ok (.iload 5, 2) := by decide +kernel
theorem dL_law_248 : decode cL_law 248 = .ok (.if_icmp .eq 5, 3) := by decide +kernel
theorem dL_law_251 : decode cL_law 251 = .ok (.iconst 0, 1) := by decide +kernel
theorem dL_law_252 : decode cL_law 252 = .ok (.ireturn, 1) := by decide +kernel
theorem dL_law_253 : decode cL_law 253 = .ok (.goto 793, 3) := by decide +kernel
theorem dL_law_256 : decode cL_law 256 = .ok (.aload_n 1, 1) := by decide +kernel
theorem dL_law_257 : decode cL_law 257 = .ok (.aload_n 0, 1) := by decide +kernel
theorem dL_law_258 : decode cL_law 258 = .ok (.iload 4, 2) := by decide +kernel
theorem dL_law_260 : decode cL_law 260 = .ok (.iconst 1, 1) := by decide +kernel
theorem dL_law_261 : decode cL_law 261 = .ok (.iadd, 1) := by decide +kernel
theorem dL_law_262 : decode cL_law 262 = .ok (.iaload, 1) := by decide +kernel
theorem dL_law_263 : decode cL_law 263 = .ok (.aload_n 3, 1) := by decide +kernel
theorem dL_law_264 : decode cL_law 264 = .ok (.invokestatic 85, 3) := by decide +kernel
theorem dL_law_267 : decode cL_law 267 = .ok (.istore 5, 2) := by decide +kernel
theorem dL_law_269 : decode cL_law 269 = .ok (.aload_n 2, 1) := by decide +kernel
theorem dL_law_270 : decode cL_law 270 = .ok (.aload_n 0, 1) := by decide +kernel
theorem dL_law_271 : decode cL_law 271 = .ok (.iload 4, 2) := by decide +kernel
theorem dL_law_273 : decode cL_law 273 = .ok (.iconst 1, 1) := by decide +kernel
theorem dL_law_274 : decode cL_law 274 = .ok (.iadd, 1) := by decide +kernel
theorem dL_law_275 : decode cL_law 275 = .ok (.iaload, 1) := by decide +kernel
theorem dL_law_276 : decode cL_law 276 = .ok (.invokevirtual 88, 3) := by decide +kernel
theorem dL_law_279 : decode cL_law 279 = .ok (.istore 6, 2) := by decide +kernel
theorem dL_law_281 : decode cL_law 281 = .ok (.aload_n 2, 1) := by decide +kernel
theorem dL_law_282 : decode cL_law 282 = .ok (.invokevirtual 78, 3) := by decide +kernel
theorem dL_law_285 : decode cL_law 285 = .ok (.iload 5, 2) := by decide +kernel
theorem dL_law_287 : decode cL_law 287 = .ok (.if_icmp .eq 5, 3) := by decide +kernel
theorem dL_law_290 : decode cL_law 290 = .ok (.iconst 0, 1) := by decide +kernel
theorem dL_law_291 : decode cL_law 291 = .ok (.ireturn, 1) := by decide +kernel
theorem dL_law_292 : decode cL_law 292 = .ok (.iload 5, 2) := by decide +kernel
theorem dL_law_294 : decode cL_law 294 = .ok (.ifCond .ne 15, 3) := by decide +kernel
theorem dL_law_297 : decode cL_law 297 = .ok (.aload_n 3, 1) := by decide +kernel
theorem dL_law_298 : decode cL_law 298 = .ok (.iconst 0, 1) := by decide +kernel
theorem dL_law_299 : decode cL_law 299 = .ok (.laload, 1) := by decide +kernel
theorem dL_law_300 : decode cL_law 300 = .ok (.iload 6, 2) := by decide +kernel
theorem dL_law_302 : decode cL_law 302 = .ok (.i2l, 1) := by decide +kernel
theorem dL_law_303 : decode cL_law 303 = .ok (.lcmp, 1) := by decide +kernel
theorem dL_law_304 : decode cL_law 304 = .ok (.ifCond .eq 5, 3) := by decide +kernel
theorem dL_law_307 : decode cL_law 307 = .ok (.iconst 0, 1) := by decide +kernel
theorem dL_law_308 : decode cL_law 308 = .ok (.ireturn, 1) := by decide +kernel
theorem dL_law_309 : decode cL_law 309 = .ok (.goto 737, 3) := by decide +kernel
theorem dL_law_312 : decode cL_law 312 = .ok (.aload_n 1, 1) := by decide +kernel
theorem dL_law_313 : decode cL_law 313 = .ok (.aload_n 0, 1) := by decide +kernel
theorem dL_law_314 : decode cL_law 314 = .ok (.iload 4, 2) := by decide +kernel
theorem dL_law_316 : decode cL_law 316 = .ok (.iconst 1, 1) := by decide +kernel
theorem dL_law_317 : decode cL_law 317 = .ok (.iadd, 1) := by decide +kernel
theorem dL_law_318 : decode cL_law 318 = .ok (.iaload, 1) := by decide +kernel
theorem dL_law_319 : decode cL_law 319 = .ok (.aload_n 0, 1) := by decide +kernel
theorem dL_law_320 : decode cL_law 320 = .ok (.iload 4, 2) := by decide +kernel
theorem dL_law_322 : decode cL_law 322 = .ok (.iconst 2, 1) := by decide +kernel
theorem dL_law_323 : decode cL_law 323 = .ok (.iadd, 1) := by decide +kernel
theorem dL_law_324 : decode cL_law 324 = .ok (.iaload, 1) := by decide +kernel
theorem dL_law_325 : decode cL_law 325 = .ok (.invokestatic 89, 3) := by decide +kernel
theorem dL_law_328 : decode cL_law 328 = .ok (.istore 5, 2) := by decide +kernel
theorem dL_law_330 : decode cL_law 330 = .ok (.aload_n 2, 1) := by decide +kernel
theorem dL_law_331 : decode cL_law 331 = .ok (.aload_n 0, 1) := by decide +kernel
theorem dL_law_332 : decode cL_law 332 = .ok (.iload 4, 2) := by decide +kernel
theorem dL_law_334 : decode cL_law 334 = .ok (.iconst 1, 1) := by decide +kernel
theorem dL_law_335 : decode cL_law 335 = .ok (.iadd, 1) := by decide +kernel
theorem dL_law_336 : decode cL_law 336 = .ok (.iaload, 1) := by decide +kernel
theorem dL_law_337 : decode cL_law 337 = .ok (.aload_n 0, 1) := by decide +kernel
theorem dL_law_338 : decode cL_law 338 = .ok (.iload 4, 2) := by decide +kernel
theorem dL_law_340 : decode cL_law 340 = .ok (.iconst 2, 1) := by decide +kernel
theorem dL_law_341 : decode cL_law 341 = .ok (.iadd, 1) := by decide +kernel
theorem dL_law_342 : decode cL_law 342 = .ok (.iaload, 1) := by decide +kernel
theorem dL_law_343 : decode cL_law 343 = .ok (.invokevirtual 92, 3) := by decide +kernel
theorem dL_law_346 : decode cL_law 346 = .ok (.aload_n 2, 1) := by decide +kernel
theorem dL_law_347 : decode cL_law 347 = .ok (.invokevirtual 78, 3) := by decide +kernel
theorem dL_law_350 : decode cL_law 350 = .ok (.iload 5, 2) := by decide +kernel
theorem dL_law_352 : decode cL_law 352 = .ok (.if_icmp .eq 5, 3) := by decide +kernel
theorem dL_law_355 : decode cL_law 355 = .ok (.iconst 0, 1) := by decide +kernel
theorem dL_law_356 : decode cL_law 356 = .ok (.ireturn, 1) := by decide +kernel
theorem dL_law_357 : decode cL_law 357 = .ok (.goto 689, 3) := by decide +kernel
theorem dL_law_360 : decode cL_law 360 = .ok (.aload_n 1, 1) := by decide +kernel
theorem dL_law_361 : decode cL_law 361 = .ok (.aload_n 0, 1) := by decide +kernel
theorem dL_law_362 : decode cL_law 362 = .ok (.iload 4, 2) := by decide +kernel
theorem dL_law_364 : decode cL_law 364 = .ok (.iconst 1, 1) := by decide +kernel
theorem dL_law_365 : decode cL_law 365 = .ok (.iadd, 1) := by decide +kernel
theorem dL_law_366 : decode cL_law 366 = .ok (.iaload, 1) := by decide +kernel
theorem dL_law_367 : decode cL_law 367 = .ok (.aload_n 0, 1) := by decide +kernel
theorem dL_law_368 : decode cL_law 368 = .ok (.iload 4, 2) := by decide +kernel
theorem dL_law_370 : decode cL_law 370 = .ok (.iconst 2, 1) := by decide +kernel
theorem dL_law_371 : decode cL_law 371 = .ok (.iadd, 1) := by decide +kernel
theorem dL_law_372 : decode cL_law 372 = .ok (.iaload, 1) := by decide +kernel
theorem dL_law_373 : decode cL_law 373 = .ok (.aload_n 3, 1) := by decide +kernel
theorem dL_law_374 : decode cL_law 374 = .ok (.invokestatic 93, 3) := by decide +kernel
theorem dL_law_377 : decode cL_law 377 = .ok (.istore 5, 2) := by decide +kernel
theorem dL_law_379 : decode cL_law 379 = .ok (.aload_n 2, 1) := by decide +kernel
theorem dL_law_380 : decode cL_law 380 = .ok (.aload_n 0, 1) := by decide +kernel
theorem dL_law_381 : decode cL_law 381 = .ok (.iload 4, 2) := by decide +kernel
theorem dL_law_383 : decode cL_law 383 = .ok (.iconst 1, 1) := by decide +kernel
theorem dL_law_384 : decode cL_law 384 = .ok (.iadd, 1) := by decide +kernel
theorem dL_law_385 : decode cL_law 385 = .ok (.iaload, 1) := by decide +kernel
theorem dL_law_386 : decode cL_law 386 = .ok (.aload_n 0, 1) := by decide +kernel
theorem dL_law_387 : decode cL_law 387 = .ok (.iload 4, 2) := by decide +kernel
theorem dL_law_389 : decode cL_law 389 = .ok (.iconst 2, 1) := by decide +kernel
theorem dL_law_390 : decode cL_law 390 = .ok (.iadd, 1) := by decide +kernel
theorem dL_law_391 : decode cL_law 391 = .ok (.iaload, 1) := by decide +kernel
theorem dL_law_392 : decode cL_law 392 = .ok (.invokevirtual 96, 3) := by decide +kernel
theorem dL_law_395 : decode cL_law 395 = .ok (.istore 6, 2) := by decide +kernel
theorem dL_law_397 : decode cL_law 397 = .ok (.aload_n 2, 1) := by decide +kernel
theorem dL_law_398 : decode cL_law 398 = .ok (.invokevirtual 78, 3) := by decide +kernel
theorem dL_law_401 : decode cL_law 401 = .ok (.iload 5, 2) := by decide +kernel
theorem dL_law_403 : decode cL_law 403 = .ok (.if_icmp .eq 5, 3) := by decide +kernel
theorem dL_law_406 : decode cL_law 406 = .ok (.iconst 0, 1) := by decide +kernel
theorem dL_law_407 : decode cL_law 407 = .ok (.ireturn, 1) := by decide +kernel
theorem dL_law_408 : decode cL_law 408 = .ok (.iload 5, 2) := by decide +kernel
theorem dL_law_410 : decode cL_law 410 = .ok (.ifCond .ne 15, 3) := by decide +kernel
theorem dL_law_413 : decode cL_law 413 = .ok (.aload_n 3, 1) := by decide +kernel
theorem dL_law_414 : decode cL_law 414 = .ok (.iconst 0, 1) := by decide +kernel
theorem dL_law_415 : decode cL_law 415 = .ok (.laload, 1) := by decide +kernel
theorem dL_law_416 : decode cL_law 416 = .ok (.iload 6, 2) := by decide +kernel
theorem dL_law_418 : decode cL_law 418 = .ok (.i2l, 1) := by decide +kernel
theorem dL_law_419 : decode cL_law 419 = .ok (.lcmp, 1) := by decide +kernel
theorem dL_law_420 : decode cL_law 420 = .ok (.ifCond .eq 5, 3) := by decide +kernel
theorem dL_law_423 : decode cL_law 423 = .ok (.iconst 0, 1) := by decide +kernel
theorem dL_law_424 : decode cL_law 424 = .ok (.ireturn, 1) := by decide +kernel
theorem dL_law_425 : decode cL_law 425 = .ok (.goto 621, 3) := by decide +kernel
theorem dL_law_428 : decode cL_law 428 = .ok (.aload_n 1, 1) := by decide +kernel
theorem dL_law_429 : decode cL_law 429 = .ok (.aload_n 0, 1) := by decide +kernel
theorem dL_law_430 : decode cL_law 430 = .ok (.iload 4, 2) := by decide +kernel
theorem dL_law_432 : decode cL_law 432 = .ok (.iconst 1, 1) := by decide +kernel
theorem dL_law_433 : decode cL_law 433 = .ok (.iadd, 1) := by decide +kernel
theorem dL_law_434 : decode cL_law 434 = .ok (.iaload, 1) := by decide +kernel
theorem dL_law_435 : decode cL_law 435 = .ok (.aload_n 0, 1) := by decide +kernel
theorem dL_law_436 : decode cL_law 436 = .ok (.iload 4, 2) := by decide +kernel
theorem dL_law_438 : decode cL_law 438 = .ok (.iconst 2, 1) := by decide +kernel
theorem dL_law_439 : decode cL_law 439 = .ok (.iadd, 1) := by decide +kernel
theorem dL_law_440 : decode cL_law 440 = .ok (.iaload, 1) := by decide +kernel
theorem dL_law_441 : decode cL_law 441 = .ok (.aload_n 0, 1) := by decide +kernel
theorem dL_law_442 : decode cL_law 442 = .ok (.iload 4, 2) := by decide +kernel
theorem dL_law_444 : decode cL_law 444 = .ok (.iconst 3, 1) := by decide +kernel
theorem dL_law_445 : decode cL_law 445 = .ok (.iadd, 1) := by decide +kernel
theorem dL_law_446 : decode cL_law 446 = .ok (.iaload, 1) := by decide +kernel
theorem dL_law_447 : decode cL_law 447 = .ok (.ifCond .eq 7, 3) := by decide +kernel
theorem dL_law_450 : decode cL_law 450 = .ok (.iconst 1, 1) := by decide +kernel
theorem dL_law_451 : decode cL_law 451 = .ok (.goto 4, 3) := by decide +kernel
theorem dL_law_454 : decode cL_law 454 = .ok (.iconst 0, 1) := by decide +kernel
theorem dL_law_455 : decode cL_law 455 = .ok (.aload_n 3, 1) := by decide +kernel
theorem dL_law_456 : decode cL_law 456 = .ok (.invokestatic 97, 3) := by decide +kernel
theorem dL_law_459 : decode cL_law 459 = .ok (.istore 5, 2) := by decide +kernel
theorem dL_law_461 : decode cL_law 461 = .ok (.aload_n 2, 1) := by decide +kernel
theorem dL_law_462 : decode cL_law 462 = .ok (.aload_n 0, 1) := by decide +kernel
theorem dL_law_463 : decode cL_law 463 = .ok (.iload 4, 2) := by decide +kernel
theorem dL_law_465 : decode cL_law 465 = .ok (.iconst 1, 1) := by decide +kernel
theorem dL_law_466 : decode cL_law 466 = .ok (.iadd, 1) := by decide +kernel
theorem dL_law_467 : decode cL_law 467 = .ok (.iaload, 1) := by decide +kernel
theorem dL_law_468 : decode cL_law 468 = .ok (.aload_n 0, 1) := by decide +kernel
theorem dL_law_469 : decode cL_law 469 = .ok (.iload 4, 2) := by decide +kernel
theorem dL_law_471 : decode cL_law 471 = .ok (.iconst 2, 1) := by decide +kernel
theorem dL_law_472 : decode cL_law 472 = .ok (.iadd, 1) := by decide +kernel
theorem dL_law_473 : decode cL_law 473 = .ok (.iaload, 1) := by decide +kernel
theorem dL_law_474 : decode cL_law 474 = .ok (.aload_n 0, 1) := by decide +kernel
theorem dL_law_475 : decode cL_law 475 = .ok (.iload 4, 2) := by decide +kernel
theorem dL_law_477 : decode cL_law 477 = .ok (.iconst 3, 1) := by decide +kernel
theorem dL_law_478 : decode cL_law 478 = .ok (.iadd, 1) := by decide +kernel
theorem dL_law_479 : decode cL_law 479 = .ok (.iaload, 1) := by decide +kernel
theorem dL_law_480 : decode cL_law 480 = .ok (.ifCond .eq 7, 3) := by decide +kernel
theorem dL_law_483 : decode cL_law 483 = .ok (.iconst 1, 1) := by decide +kernel
theorem dL_law_484 : decode cL_law 484 = .ok (.goto 4, 3) := by decide +kernel
theorem dL_law_487 : decode cL_law 487 = .ok (.iconst 0, 1) := by decide +kernel
theorem dL_law_488 : decode cL_law 488 = .ok (.invokevirtual 100, 3) := by decide +kernel
theorem dL_law_491 : decode cL_law 491 = .ok (.istore 6, 2) := by decide +kernel
theorem dL_law_493 : decode cL_law 493 = .ok (.aload_n 2, 1) := by decide +kernel
theorem dL_law_494 : decode cL_law 494 = .ok (.invokevirtual 78, 3) := by decide +kernel
theorem dL_law_497 : decode cL_law 497 = .ok (.iload 5, 2) := by decide +kernel
theorem dL_law_499 : decode cL_law 499 = .ok (.if_icmp .eq 5, 3) := by decide +kernel
theorem dL_law_502 : decode cL_law 502 = .ok (.iconst 0, 1) := by decide +kernel
theorem dL_law_503 : decode cL_law 503 = .ok (.ireturn, 1) := by decide +kernel
theorem dL_law_504 : decode cL_law 504 = .ok (.iload 5, 2) := by decide +kernel
theorem dL_law_506 : decode cL_law 506 = .ok (.ifCond .ne 15, 3) := by decide +kernel
theorem dL_law_509 : decode cL_law 509 = .ok (.aload_n 3, 1) := by decide +kernel
theorem dL_law_510 : decode cL_law 510 = .ok (.iconst 0, 1) := by decide +kernel
theorem dL_law_511 : decode cL_law 511 = .ok (.laload, 1) := by decide +kernel
theorem dL_law_512 : decode cL_law 512 = .ok (.iload 6, 2) := by decide +kernel
theorem dL_law_514 : decode cL_law 514 = .ok (.i2l, 1) := by decide +kernel
theorem dL_law_515 : decode cL_law 515 = .ok (.lcmp, 1) := by decide +kernel
theorem dL_law_516 : decode cL_law 516 = .ok (.ifCond .eq 5, 3) := by decide +kernel
theorem dL_law_519 : decode cL_law 519 = .ok (.iconst 0, 1) := by decide +kernel
theorem dL_law_520 : decode cL_law 520 = .ok (.ireturn, 1) := by decide +kernel
theorem dL_law_521 : decode cL_law 521 = .ok (.goto 525, 3) := by decide +kernel
theorem dL_law_524 : decode cL_law 524 = .ok (.aload_n 1, 1) := by decide +kernel
theorem dL_law_525 : decode cL_law 525 = .ok (.aload_n 0, 1) := by decide +kernel
theorem dL_law_526 : decode cL_law 526 = .ok (.iload 4, 2) := by decide +kernel
theorem dL_law_528 : decode cL_law 528 = .ok (.iconst 1, 1) := by decide +kernel
theorem dL_law_529 : decode cL_law 529 = .ok (.iadd, 1) := by decide +kernel
theorem dL_law_530 : decode cL_law 530 = .ok (.iaload, 1) := by decide +kernel
theorem dL_law_531 : decode cL_law 531 = .ok (.aload_n 0, 1) := by decide +kernel
theorem dL_law_532 : decode cL_law 532 = .ok (.iload 4, 2) := by decide +kernel
theorem dL_law_534 : decode cL_law 534 = .ok (.iconst 2, 1) := by decide +kernel
theorem dL_law_535 : decode cL_law 535 = .ok (.iadd, 1) := by decide +kernel
theorem dL_law_536 : decode cL_law 536 = .ok (.iaload, 1) := by decide +kernel
theorem dL_law_537 : decode cL_law 537 = .ok (.invokestatic 101, 3) := by decide +kernel
theorem dL_law_540 : decode cL_law 540 = .ok (.istore 5, 2) := by decide +kernel
theorem dL_law_542 : decode cL_law 542 = .ok (.aload_n 2, 1) := by decide +kernel
theorem dL_law_543 : decode cL_law 543 = .ok (.aload_n 0, 1) := by decide +kernel
theorem dL_law_544 : decode cL_law 544 = .ok (.iload 4, 2) := by decide +kernel
theorem dL_law_546 : decode cL_law 546 = .ok (.iconst 1, 1) := by decide +kernel
theorem dL_law_547 : decode cL_law 547 = .ok (.iadd, 1) := by decide +kernel
theorem dL_law_548 : decode cL_law 548 = .ok (.iaload, 1) := by decide +kernel
theorem dL_law_549 : decode cL_law 549 = .ok (.aload_n 0, 1) := by decide +kernel
theorem dL_law_550 : decode cL_law 550 = .ok (.iload 4, 2) := by decide +kernel
theorem dL_law_552 : decode cL_law 552 = .ok (.iconst 2, 1) := by decide +kernel
theorem dL_law_553 : decode cL_law 553 = .ok (.iadd, 1) := by decide +kernel
theorem dL_law_554 : decode cL_law 554 = .ok (.iaload, 1) := by decide +kernel
theorem dL_law_555 : decode cL_law 555 = .ok (.invokevirtual 103, 3) := by decide +kernel
theorem dL_law_558 : decode cL_law 558 = .ok (.aload_n 2, 1) := by decide +kernel
theorem dL_law_559 : decode cL_law 559 = .ok (.invokevirtual 78, 3) := by decide +kernel
theorem dL_law_562 : decode cL_law 562 = .ok (.iload 5, 2) := by decide +kernel
theorem dL_law_564 : decode cL_law 564 = .ok (.if_icmp .eq 5, 3) := by decide +kernel
theorem dL_law_567 : decode cL_law 567 = .ok (.iconst 0, 1) := by decide +kernel
theorem dL_law_568 : decode cL_law 568 = .ok (.ireturn, 1) := by decide +kernel
theorem dL_law_569 : decode cL_law 569 = .ok (.goto 477, 3) := by decide +kernel
theorem dL_law_572 : decode cL_law 572 = .ok (.aload_n 1, 1) := by decide +kernel
theorem dL_law_573 : decode cL_law 573 = .ok (.aload_n 0, 1) := by decide +kernel
theorem dL_law_574 : decode cL_law 574 = .ok (.iload 4, 2) := by decide +kernel
theorem dL_law_576 : decode cL_law 576 = .ok (.iconst 1, 1) := by decide +kernel
theorem dL_law_577 : decode cL_law 577 = .ok (.iadd, 1) := by decide +kernel
theorem dL_law_578 : decode cL_law 578 = .ok (.iaload, 1) := by decide +kernel
theorem dL_law_579 : decode cL_law 579 = .ok (.aload_n 3, 1) := by decide +kernel
theorem dL_law_580 : decode cL_law 580 = .ok (.invokestatic 104, 3) := by decide +kernel
theorem dL_law_583 : decode cL_law 583 = .ok (.istore 5, 2) := by decide +kernel
theorem dL_law_585 : decode cL_law 585 = .ok (.aload_n 2, 1) := by decide +kernel
theorem dL_law_586 : decode cL_law 586 = .ok (.aload_n 0, 1) := by decide +kernel
theorem dL_law_587 : decode cL_law 587 = .ok (.iload 4, 2) := by decide +kernel
theorem dL_law_589 : decode cL_law 589 = .ok (.iconst 1, 1) := by decide +kernel
theorem dL_law_590 : decode cL_law 590 = .ok (.iadd, 1) := by decide +kernel
theorem dL_law_591 : decode cL_law 591 = .ok (.iaload, 1) := by decide +kernel
theorem dL_law_592 : decode cL_law 592 = .ok (.invokevirtual 106, 3) := by decide +kernel
theorem dL_law_595 : decode cL_law 595 = .ok (.istore 6, 2) := by decide +kernel
theorem dL_law_597 : decode cL_law 597 = .ok (.aload_n 2, 1) := by decide +kernel
theorem dL_law_598 : decode cL_law 598 = .ok (.invokevirtual 78, 3) := by decide +kernel
theorem dL_law_601 : decode cL_law 601 = .ok (.iload 5, 2) := by decide +kernel
theorem dL_law_603 : decode cL_law 603 = .ok (.if_icmp .eq 5, 3) := by decide +kernel
theorem dL_law_606 : decode cL_law 606 = .ok (.iconst 0, 1) := by decide +kernel
theorem dL_law_607 : decode cL_law 607 = .ok (.ireturn, 1) := by decide +kernel
theorem dL_law_608 : decode cL_law 608 = .ok (.iload 5, 2) := by decide +kernel
theorem dL_law_610 : decode cL_law 610 = .ok (.ifCond .ne 22, 3) := by decide +kernel
theorem dL_law_613 : decode cL_law 613 = .ok (.aload_n 3, 1) := by decide +kernel
theorem dL_law_614 : decode cL_law 614 = .ok (.iconst 0, 1) := by decide +kernel
theorem dL_law_615 : decode cL_law 615 = .ok (.laload, 1) := by decide +kernel
theorem dL_law_616 : decode cL_law 616 = .ok (.iload 6, 2) := by decide +kernel
theorem dL_law_618 : decode cL_law 618 = .ok (.ifCond .eq 7, 3) := by decide +kernel
theorem dL_law_621 : decode cL_law 621 = .ok (.lconst 1, 1) := by decide +kernel
theorem dL_law_622 : decode cL_law 622 = .ok (.goto 4, 3) := by decide +kernel
theorem dL_law_625 : decode cL_law 625 = .ok (.lconst 0, 1) := by decide +kernel
theorem dL_law_626 : decode cL_law 626 = .ok (.lcmp, 1) := by decide +kernel
theorem dL_law_627 : decode cL_law 627 = .ok (.ifCond .eq 5, 3) := by decide +kernel
theorem dL_law_630 : decode cL_law 630 = .ok (.iconst 0, 1) := by decide +kernel
theorem dL_law_631 : decode cL_law 631 = .ok (.ireturn, 1) := by decide +kernel
theorem dL_law_632 : decode cL_law 632 = .ok (.goto 414, 3) := by decide +kernel
theorem dL_law_635 : decode cL_law 635 = .ok (.aload_n 1, 1) := by decide +kernel
theorem dL_law_636 : decode cL_law 636 = .ok (.aload_n 0, 1) := by decide +kernel
theorem dL_law_637 : decode cL_law 637 = .ok (.iload 4, 2) := by decide +kernel
theorem dL_law_639 : decode cL_law 639 = .ok (.iconst 1, 1) := by decide +kernel
theorem dL_law_640 : decode cL_law 640 = .ok (.iadd, 1) := by decide +kernel
theorem dL_law_641 : decode cL_law 641 = .ok (.iaload, 1) := by decide +kernel
theorem dL_law_642 : decode cL_law 642 = .ok (.aload_n 0, 1) := by decide +kernel
theorem dL_law_643 : decode cL_law 643 = .ok (.iload 4, 2) := by decide +kernel
theorem dL_law_645 : decode cL_law 645 = .ok (.iconst 2, 1) := by decide +kernel
theorem dL_law_646 : decode cL_law 646 = .ok (.iadd, 1) := by decide +kernel
theorem dL_law_647 : decode cL_law 647 = .ok (.iaload, 1) := by decide +kernel
theorem dL_law_648 : decode cL_law 648 = .ok (.aload_n 0, 1) := by decide +kernel
theorem dL_law_649 : decode cL_law 649 = .ok (.iload 4, 2) := by decide +kernel
theorem dL_law_651 : decode cL_law 651 = .ok (.iconst 3, 1) := by decide +kernel
theorem dL_law_652 : decode cL_law 652 = .ok (.iadd, 1) := by decide +kernel
theorem dL_law_653 : decode cL_law 653 = .ok (.iaload, 1) := by decide +kernel
theorem dL_law_654 : decode cL_law 654 = .ok (.aload_n 3, 1) := by decide +kernel
theorem dL_law_655 : decode cL_law 655 = .ok (.invokestatic 107, 3) := by decide +kernel
theorem dL_law_658 : decode cL_law 658 = .ok (.istore 5, 2) := by decide +kernel
theorem dL_law_660 : decode cL_law 660 = .ok (.aload_n 2, 1) := by decide +kernel
theorem dL_law_661 : decode cL_law 661 = .ok (.aload_n 0, 1) := by decide +kernel
theorem dL_law_662 : decode cL_law 662 = .ok (.iload 4, 2) := by decide +kernel
theorem dL_law_664 : decode cL_law 664 = .ok (.iconst 1, 1) := by decide +kernel
theorem dL_law_665 : decode cL_law 665 = .ok (.iadd, 1) := by decide +kernel
theorem dL_law_666 : decode cL_law 666 = .ok (.iaload, 1) := by decide +kernel
theorem dL_law_667 : decode cL_law 667 = .ok (.aload_n 0, 1) := by decide +kernel
theorem dL_law_668 : decode cL_law 668 = .ok (.iload 4, 2) := by decide +kernel
theorem dL_law_670 : decode cL_law 670 = .ok (.iconst 2, 1) := by decide +kernel
theorem dL_law_671 : decode cL_law 671 = .ok (.iadd, 1) := by decide +kernel
theorem dL_law_672 : decode cL_law 672 = .ok (.iaload, 1) := by decide +kernel
theorem dL_law_673 : decode cL_law 673 = .ok (.aload_n 0, 1) := by decide +kernel
theorem dL_law_674 : decode cL_law 674 = .ok (.iload 4, 2) := by decide +kernel
theorem dL_law_676 : decode cL_law 676 = .ok (.iconst 3, 1) := by decide +kernel
theorem dL_law_677 : decode cL_law 677 = .ok (.iadd, 1) := by decide +kernel
theorem dL_law_678 : decode cL_law 678 = .ok (.iaload, 1) := by decide +kernel
theorem dL_law_679 : decode cL_law 679 = .ok (.invokevirtual 110, 3) := by decide +kernel
theorem dL_law_682 : decode cL_law 682 = .ok (.istore 6, 2) := by decide +kernel
theorem dL_law_684 : decode cL_law 684 = .ok (.aload_n 2, 1) := by decide +kernel
theorem dL_law_685 : decode cL_law 685 = .ok (.invokevirtual 78, 3) := by decide +kernel
theorem dL_law_688 : decode cL_law 688 = .ok (.iload 5, 2) := by decide +kernel
theorem dL_law_690 : decode cL_law 690 = .ok (.if_icmp .eq 5, 3) := by decide +kernel
theorem dL_law_693 : decode cL_law 693 = .ok (.iconst 0, 1) := by decide +kernel
theorem dL_law_694 : decode cL_law 694 = .ok (.ireturn, 1) := by decide +kernel
theorem dL_law_695 : decode cL_law 695 = .ok (.iload 5, 2) := by decide +kernel
theorem dL_law_697 : decode cL_law 697 = .ok (.ifCond .ne 15, 3) := by decide +kernel
theorem dL_law_700 : decode cL_law 700 = .ok (.aload_n 3, 1) := by decide +kernel
theorem dL_law_701 : decode cL_law 701 = .ok (.iconst 0, 1) := by decide +kernel
theorem dL_law_702 : decode cL_law 702 = .ok (.laload, 1) := by decide +kernel
theorem dL_law_703 : decode cL_law 703 = .ok (.iload 6, 2) := by decide +kernel
theorem dL_law_705 : decode cL_law 705 = .ok (.i2l, 1) := by decide +kernel
theorem dL_law_706 : decode cL_law 706 = .ok (.lcmp, 1) := by decide +kernel
theorem dL_law_707 : decode cL_law 707 = .ok (.ifCond .eq 5, 3) := by decide +kernel
theorem dL_law_710 : decode cL_law 710 = .ok (.iconst 0, 1) := by decide +kernel
theorem dL_law_711 : decode cL_law 711 = .ok (.ireturn, 1) := by decide +kernel
theorem dL_law_712 : decode cL_law 712 = .ok (.goto 334, 3) := by decide +kernel
theorem dL_law_715 : decode cL_law 715 = .ok (.aload_n 1, 1) := by decide +kernel
theorem dL_law_716 : decode cL_law 716 = .ok (.aload_n 0, 1) := by decide +kernel
theorem dL_law_717 : decode cL_law 717 = .ok (.iload 4, 2) := by decide +kernel
theorem dL_law_719 : decode cL_law 719 = .ok (.iconst 1, 1) := by decide +kernel
theorem dL_law_720 : decode cL_law 720 = .ok (.iadd, 1) := by decide +kernel
theorem dL_law_721 : decode cL_law 721 = .ok (.iaload, 1) := by decide +kernel
theorem dL_law_722 : decode cL_law 722 = .ok (.aload_n 3, 1) := by decide +kernel
theorem dL_law_723 : decode cL_law 723 = .ok (.invokestatic 111, 3) := by decide +kernel
theorem dL_law_726 : decode cL_law 726 = .ok (.istore 5, 2) := by decide +kernel
theorem dL_law_728 : decode cL_law 728 = .ok (.aload_n 2, 1) := by decide +kernel
theorem dL_law_729 : decode cL_law 729 = .ok (.aload_n 0, 1) := by decide +kernel
theorem dL_law_730 : decode cL_law 730 = .ok (.iload 4, 2) := by decide +kernel
theorem dL_law_732 : decode cL_law 732 = .ok (.iconst 1, 1) := by decide +kernel
theorem dL_law_733 : decode cL_law 733 = .ok (.iadd, 1) := by decide +kernel
theorem dL_law_734 : decode cL_law 734 = .ok (.iaload, 1) := by decide +kernel
theorem dL_law_735 : decode cL_law 735 = .ok (.invokevirtual 113, 3) := by decide +kernel
theorem dL_law_738 : decode cL_law 738 = .ok (.istore 6, 2) := by decide +kernel
theorem dL_law_740 : decode cL_law 740 = .ok (.aload_n 2, 1) := by decide +kernel
theorem dL_law_741 : decode cL_law 741 = .ok (.invokevirtual 78, 3) := by decide +kernel
theorem dL_law_744 : decode cL_law 744 = .ok (.iload 5, 2) := by decide +kernel
theorem dL_law_746 : decode cL_law 746 = .ok (.if_icmp .eq 5, 3) := by decide +kernel
theorem dL_law_749 : decode cL_law 749 = .ok (.iconst 0, 1) := by decide +kernel
theorem dL_law_750 : decode cL_law 750 = .ok (.ireturn, 1) := by decide +kernel
theorem dL_law_751 : decode cL_law 751 = .ok (.iload 5, 2) := by decide +kernel
theorem dL_law_753 : decode cL_law 753 = .ok (.ifCond .ne 22, 3) := by decide +kernel
theorem dL_law_756 : decode cL_law 756 = .ok (.aload_n 3, 1) := by decide +kernel
theorem dL_law_757 : decode cL_law 757 = .ok (.iconst 0, 1) := by decide +kernel
theorem dL_law_758 : decode cL_law 758 = .ok (.laload, 1) := by decide +kernel
theorem dL_law_759 : decode cL_law 759 = .ok (.iload 6, 2) := by decide +kernel
theorem dL_law_761 : decode cL_law 761 = .ok (.ifCond .eq 7, 3) := by decide +kernel
theorem dL_law_764 : decode cL_law 764 = .ok (.lconst 1, 1) := by decide +kernel
theorem dL_law_765 : decode cL_law 765 = .ok (.goto 4, 3) := by decide +kernel
theorem dL_law_768 : decode cL_law 768 = .ok (.lconst 0, 1) := by decide +kernel
theorem dL_law_769 : decode cL_law 769 = .ok (.lcmp, 1) := by decide +kernel
theorem dL_law_770 : decode cL_law 770 = .ok (.ifCond .eq 5, 3) := by decide +kernel
theorem dL_law_773 : decode cL_law 773 = .ok (.iconst 0, 1) := by decide +kernel
theorem dL_law_774 : decode cL_law 774 = .ok (.ireturn, 1) := by decide +kernel
theorem dL_law_775 : decode cL_law 775 = .ok (.goto 271, 3) := by decide +kernel
theorem dL_law_778 : decode cL_law 778 = .ok (.aload_n 1, 1) := by decide +kernel
theorem dL_law_779 : decode cL_law 779 = .ok (.aload_n 3, 1) := by decide +kernel
theorem dL_law_780 : decode cL_law 780 = .ok (.invokestatic 114, 3) := by decide +kernel
theorem dL_law_783 : decode cL_law 783 = .ok (.istore 5, 2) := by decide +kernel
theorem dL_law_785 : decode cL_law 785 = .ok (.aload_n 2, 1) := by decide +kernel
theorem dL_law_786 : decode cL_law 786 = .ok (.invokevirtual 117, 3) := by decide +kernel
theorem dL_law_789 : decode cL_law 789 = .ok (.istore 6, 2) := by decide +kernel
theorem dL_law_791 : decode cL_law 791 = .ok (.aload_n 2, 1) := by decide +kernel
theorem dL_law_792 : decode cL_law 792 = .ok (.invokevirtual 78, 3) := by decide +kernel
theorem dL_law_795 : decode cL_law 795 = .ok (.iload 5, 2) := by decide +kernel
theorem dL_law_797 : decode cL_law 797 = .ok (.if_icmp .eq 5, 3) := by decide +kernel
theorem dL_law_800 : decode cL_law 800 = .ok (.iconst 0, 1) := by decide +kernel
theorem dL_law_801 : decode cL_law 801 = .ok (.ireturn, 1) := by decide +kernel
theorem dL_law_802 : decode cL_law 802 = .ok (.iload 5, 2) := by decide +kernel
theorem dL_law_804 : decode cL_law 804 = .ok (.ifCond .ne 15, 3) := by decide +kernel
theorem dL_law_807 : decode cL_law 807 = .ok (.aload_n 3, 1) := by decide +kernel
theorem dL_law_808 : decode cL_law 808 = .ok (.iconst 0, 1) := by decide +kernel
theorem dL_law_809 : decode cL_law 809 = .ok (.laload, 1) := by decide +kernel
theorem dL_law_810 : decode cL_law 810 = .ok (.iload 6, 2) := by decide +kernel
theorem dL_law_812 : decode cL_law 812 = .ok (.i2l, 1) := by decide +kernel
theorem dL_law_813 : decode cL_law 813 = .ok (.lcmp, 1) := by decide +kernel
theorem dL_law_814 : decode cL_law 814 = .ok (.ifCond .eq 5, 3) := by decide +kernel
theorem dL_law_817 : decode cL_law 817 = .ok (.iconst 0, 1) := by decide +kernel
theorem dL_law_818 : decode cL_law 818 = .ok (.ireturn, 1) := by decide +kernel
theorem dL_law_819 : decode cL_law 819 = .ok (.goto 227, 3) := by decide +kernel
theorem dL_law_822 : decode cL_law 822 = .ok (.aload_n 1, 1) := by decide +kernel
theorem dL_law_823 : decode cL_law 823 = .ok (.aload_n 0, 1) := by decide +kernel
theorem dL_law_824 : decode cL_law 824 = .ok (.iload 4, 2) := by decide +kernel
theorem dL_law_826 : decode cL_law 826 = .ok (.iconst 1, 1) := by decide +kernel
theorem dL_law_827 : decode cL_law 827 = .ok (.iadd, 1) := by decide +kernel
theorem dL_law_828 : decode cL_law 828 = .ok (.iaload, 1) := by decide +kernel
theorem dL_law_829 : decode cL_law 829 = .ok (.aload_n 3, 1) := by decide +kernel
theorem dL_law_830 : decode cL_law 830 = .ok (.invokestatic 118, 3) := by decide +kernel
theorem dL_law_833 : decode cL_law 833 = .ok (.istore 5, 2) := by decide +kernel
theorem dL_law_835 : decode cL_law 835 = .ok (.aload_n 2, 1) := by decide +kernel
theorem dL_law_836 : decode cL_law 836 = .ok (.aload_n 0, 1) := by decide +kernel
theorem dL_law_837 : decode cL_law 837 = .ok (.iload 4, 2) := by decide +kernel
theorem dL_law_839 : decode cL_law 839 = .ok (.iconst 1, 1) := by decide +kernel
theorem dL_law_840 : decode cL_law 840 = .ok (.iadd, 1) := by decide +kernel
theorem dL_law_841 : decode cL_law 841 = .ok (.iaload, 1) := by decide +kernel
theorem dL_law_842 : decode cL_law 842 = .ok (.invokevirtual 120, 3) := by decide +kernel
theorem dL_law_845 : decode cL_law 845 = .ok (.istore 6, 2) := by decide +kernel
theorem dL_law_847 : decode cL_law 847 = .ok (.aload_n 2, 1) := by decide +kernel
theorem dL_law_848 : decode cL_law 848 = .ok (.invokevirtual 78, 3) := by decide +kernel
theorem dL_law_851 : decode cL_law 851 = .ok (.iload 5, 2) := by decide +kernel
theorem dL_law_853 : decode cL_law 853 = .ok (.if_icmp .eq 5, 3) := by decide +kernel
theorem dL_law_856 : decode cL_law 856 = .ok (.iconst 0, 1) := by decide +kernel
theorem dL_law_857 : decode cL_law 857 = .ok (.ireturn, 1) := by decide +kernel
theorem dL_law_858 : decode cL_law 858 = .ok (.iload 5, 2) := by decide +kernel
theorem dL_law_860 : decode cL_law 860 = .ok (.ifCond .ne 22, 3) := by decide +kernel
theorem dL_law_863 : decode cL_law 863 = .ok (.aload_n 3, 1) := by decide +kernel
theorem dL_law_864 : decode cL_law 864 = .ok (.iconst 0, 1) := by decide +kernel
theorem dL_law_865 : decode cL_law 865 = .ok (.laload, 1) := by decide +kernel
theorem dL_law_866 : decode cL_law 866 = .ok (.iload 6, 2) := by decide +kernel
theorem dL_law_868 : decode cL_law 868 = .ok (.ifCond .eq 7, 3) := by decide +kernel
theorem dL_law_871 : decode cL_law 871 = .ok (.lconst 1, 1) := by decide +kernel
theorem dL_law_872 : decode cL_law 872 = .ok (.goto 4, 3) := by decide +kernel
theorem dL_law_875 : decode cL_law 875 = .ok (.lconst 0, 1) := by decide +kernel
theorem dL_law_876 : decode cL_law 876 = .ok (.lcmp, 1) := by decide +kernel
theorem dL_law_877 : decode cL_law 877 = .ok (.ifCond .eq 5, 3) := by decide +kernel
theorem dL_law_880 : decode cL_law 880 = .ok (.iconst 0, 1) := by decide +kernel
theorem dL_law_881 : decode cL_law 881 = .ok (.ireturn, 1) := by decide +kernel
theorem dL_law_882 : decode cL_law 882 = .ok (.goto 164, 3) := by decide +kernel
theorem dL_law_885 : decode cL_law 885 = .ok (.aload_n 1, 1) := by decide +kernel
theorem dL_law_886 : decode cL_law 886 = .ok (.aload_n 0, 1) := by decide +kernel
theorem dL_law_887 : decode cL_law 887 = .ok (.iload 4, 2) := by decide +kernel
theorem dL_law_889 : decode cL_law 889 = .ok (.iconst 1, 1) := by decide +kernel
theorem dL_law_890 : decode cL_law 890 = .ok (.iadd, 1) := by decide +kernel
theorem dL_law_891 : decode cL_law 891 = .ok (.iaload, 1) := by decide +kernel
theorem dL_law_892 : decode cL_law 892 = .ok (.aload_n 0, 1) := by decide +kernel
theorem dL_law_893 : decode cL_law 893 = .ok (.iload 4, 2) := by decide +kernel
theorem dL_law_895 : decode cL_law 895 = .ok (.iconst 2, 1) := by decide +kernel
theorem dL_law_896 : decode cL_law 896 = .ok (.iadd, 1) := by decide +kernel
theorem dL_law_897 : decode cL_law 897 = .ok (.iaload, 1) := by decide +kernel
theorem dL_law_898 : decode cL_law 898 = .ok (.aload_n 3, 1) := by decide +kernel
theorem dL_law_899 : decode cL_law 899 = .ok (.invokestatic 121, 3) := by decide +kernel
theorem dL_law_902 : decode cL_law 902 = .ok (.istore 5, 2) := by decide +kernel
theorem dL_law_904 : decode cL_law 904 = .ok (.aload_n 2, 1) := by decide +kernel
theorem dL_law_905 : decode cL_law 905 = .ok (.aload_n 0, 1) := by decide +kernel
theorem dL_law_906 : decode cL_law 906 = .ok (.iload 4, 2) := by decide +kernel
theorem dL_law_908 : decode cL_law 908 = .ok (.iconst 1, 1) := by decide +kernel
theorem dL_law_909 : decode cL_law 909 = .ok (.iadd, 1) := by decide +kernel
theorem dL_law_910 : decode cL_law 910 = .ok (.iaload, 1) := by decide +kernel
theorem dL_law_911 : decode cL_law 911 = .ok (.aload_n 0, 1) := by decide +kernel
theorem dL_law_912 : decode cL_law 912 = .ok (.iload 4, 2) := by decide +kernel
theorem dL_law_914 : decode cL_law 914 = .ok (.iconst 2, 1) := by decide +kernel
theorem dL_law_915 : decode cL_law 915 = .ok (.iadd, 1) := by decide +kernel
theorem dL_law_916 : decode cL_law 916 = .ok (.iaload, 1) := by decide +kernel
theorem dL_law_917 : decode cL_law 917 = .ok (.invokevirtual 123, 3) := by decide +kernel
theorem dL_law_920 : decode cL_law 920 = .ok (.istore 6, 2) := by decide +kernel
theorem dL_law_922 : decode cL_law 922 = .ok (.aload_n 2, 1) := by decide +kernel
theorem dL_law_923 : decode cL_law 923 = .ok (.invokevirtual 78, 3) := by decide +kernel
theorem dL_law_926 : decode cL_law 926 = .ok (.iload 5, 2) := by decide +kernel
theorem dL_law_928 : decode cL_law 928 = .ok (.if_icmp .eq 5, 3) := by decide +kernel
theorem dL_law_931 : decode cL_law 931 = .ok (.iconst 0, 1) := by decide +kernel
theorem dL_law_932 : decode cL_law 932 = .ok (.ireturn, 1) := by decide +kernel
theorem dL_law_933 : decode cL_law 933 = .ok (.iload 5, 2) := by decide +kernel
theorem dL_law_935 : decode cL_law 935 = .ok (.ifCond .ne 15, 3) := by decide +kernel
theorem dL_law_938 : decode cL_law 938 = .ok (.aload_n 3, 1) := by decide +kernel
theorem dL_law_939 : decode cL_law 939 = .ok (.iconst 0, 1) := by decide +kernel
theorem dL_law_940 : decode cL_law 940 = .ok (.laload, 1) := by decide +kernel
theorem dL_law_941 : decode cL_law 941 = .ok (.iload 6, 2) := by decide +kernel
theorem dL_law_943 : decode cL_law 943 = .ok (.i2l, 1) := by decide +kernel
theorem dL_law_944 : decode cL_law 944 = .ok (.lcmp, 1) := by decide +kernel
theorem dL_law_945 : decode cL_law 945 = .ok (.ifCond .eq 5, 3) := by decide +kernel
theorem dL_law_948 : decode cL_law 948 = .ok (.iconst 0, 1) := by decide +kernel
theorem dL_law_949 : decode cL_law 949 = .ok (.ireturn, 1) := by decide +kernel
theorem dL_law_950 : decode cL_law 950 = .ok (.goto 96, 3) := by decide +kernel
theorem dL_law_953 : decode cL_law 953 = .ok (.aload_n 1, 1) := by decide +kernel
theorem dL_law_954 : decode cL_law 954 = .ok (.aload_n 0, 1) := by decide +kernel
theorem dL_law_955 : decode cL_law 955 = .ok (.iload 4, 2) := by decide +kernel
theorem dL_law_957 : decode cL_law 957 = .ok (.iconst 1, 1) := by decide +kernel
theorem dL_law_958 : decode cL_law 958 = .ok (.iadd, 1) := by decide +kernel
theorem dL_law_959 : decode cL_law 959 = .ok (.iaload, 1) := by decide +kernel
theorem dL_law_960 : decode cL_law 960 = .ok (.aload_n 0, 1) := by decide +kernel
theorem dL_law_961 : decode cL_law 961 = .ok (.iload 4, 2) := by decide +kernel
theorem dL_law_963 : decode cL_law 963 = .ok (.iconst 2, 1) := by decide +kernel
theorem dL_law_964 : decode cL_law 964 = .ok (.iadd, 1) := by decide +kernel
theorem dL_law_965 : decode cL_law 965 = .ok (.iaload, 1) := by decide +kernel
theorem dL_law_966 : decode cL_law 966 = .ok (.invokevirtual 124, 3) := by decide +kernel
theorem dL_law_969 : decode cL_law 969 = .ok (.aload_n 2, 1) := by decide +kernel
theorem dL_law_970 : decode cL_law 970 = .ok (.aload_n 0, 1) := by decide +kernel
theorem dL_law_971 : decode cL_law 971 = .ok (.iload 4, 2) := by decide +kernel
theorem dL_law_973 : decode cL_law 973 = .ok (.iconst 1, 1) := by decide +kernel
theorem dL_law_974 : decode cL_law 974 = .ok (.iadd, 1) := by decide +kernel
theorem dL_law_975 : decode cL_law 975 = .ok (.iaload, 1) := by decide +kernel
theorem dL_law_976 : decode cL_law 976 = .ok (.aload_n 0, 1) := by decide +kernel
theorem dL_law_977 : decode cL_law 977 = .ok (.iload 4, 2) := by decide +kernel
theorem dL_law_979 : decode cL_law 979 = .ok (.iconst 2, 1) := by decide +kernel
theorem dL_law_980 : decode cL_law 980 = .ok (.iadd, 1) := by decide +kernel
theorem dL_law_981 : decode cL_law 981 = .ok (.iaload, 1) := by decide +kernel
theorem dL_law_982 : decode cL_law 982 = .ok (.invokevirtual 127, 3) := by decide +kernel
theorem dL_law_985 : decode cL_law 985 = .ok (.if_icmp .eq 61, 3) := by decide +kernel
theorem dL_law_988 : decode cL_law 988 = .ok (.iconst 0, 1) := by decide +kernel
theorem dL_law_989 : decode cL_law 989 = .ok (.ireturn, 1) := by decide +kernel
theorem dL_law_990 : decode cL_law 990 = .ok (.aload_n 1, 1) := by decide +kernel
theorem dL_law_991 : decode cL_law 991 = .ok (.aload_n 0, 1) := by decide +kernel
theorem dL_law_992 : decode cL_law 992 = .ok (.iload 4, 2) := by decide +kernel
theorem dL_law_994 : decode cL_law 994 = .ok (.iconst 1, 1) := by decide +kernel
theorem dL_law_995 : decode cL_law 995 = .ok (.iadd, 1) := by decide +kernel
theorem dL_law_996 : decode cL_law 996 = .ok (.iaload, 1) := by decide +kernel
theorem dL_law_997 : decode cL_law 997 = .ok (.aload_n 3, 1) := by decide +kernel
theorem dL_law_998 : decode cL_law 998 = .ok (.invokestatic 128, 3) := by decide +kernel
theorem dL_law_1001 : decode cL_law 1001 = .ok (.istore 5, 2) := by decide +kernel
theorem dL_law_1003 : decode cL_law 1003 = .ok (.aload_n 2, 1) := by decide +kernel
theorem dL_law_1004 : decode cL_law 1004 = .ok (.aload_n 0, 1) := by decide +kernel
theorem dL_law_1005 : decode cL_law 1005 = .ok (.iload 4, 2) := by decide +kernel
theorem dL_law_1007 : decode cL_law 1007 = .ok (.iconst 1, 1) := by decide +kernel
theorem dL_law_1008 : decode cL_law 1008 = .ok (.iadd, 1) := by decide +kernel
theorem dL_law_1009 : decode cL_law 1009 = .ok (.iaload, 1) := by decide +kernel
theorem dL_law_1010 : decode cL_law 1010 = .ok (.invokevirtual 130, 3) := by decide +kernel
theorem dL_law_1013 : decode cL_law 1013 = .ok (.istore 6, 2) := by decide +kernel
theorem dL_law_1015 : decode cL_law 1015 = .ok (.aload_n 2, 1) := by decide +kernel
theorem dL_law_1016 : decode cL_law 1016 = .ok (.invokevirtual 78, 3) := by decide +kernel
theorem dL_law_1019 : decode cL_law 1019 = .ok (.iload 5, 2) := by decide +kernel
theorem dL_law_1021 : decode cL_law 1021 = .ok (.if_icmp .eq 5, 3) := by decide +kernel
theorem dL_law_1024 : decode cL_law 1024 = .ok (.iconst 0, 1) := by decide +kernel
theorem dL_law_1025 : decode cL_law 1025 = .ok (.ireturn, 1) := by decide +kernel
theorem dL_law_1026 : decode cL_law 1026 = .ok (.iload 5, 2) := by decide +kernel
theorem dL_law_1028 : decode cL_law 1028 = .ok (.ifCond .ne 15, 3) := by decide +kernel
theorem dL_law_1031 : decode cL_law 1031 = .ok (.aload_n 3, 1) := by decide +kernel
theorem dL_law_1032 : decode cL_law 1032 = .ok (.iconst 0, 1) := by decide +kernel
theorem dL_law_1033 : decode cL_law 1033 = .ok (.laload, 1) := by decide +kernel
theorem dL_law_1034 : decode cL_law 1034 = .ok (.iload 6, 2) := by decide +kernel
theorem dL_law_1036 : decode cL_law 1036 = .ok (.i2l, 1) := by decide +kernel
theorem dL_law_1037 : decode cL_law 1037 = .ok (.lcmp, 1) := by decide +kernel
theorem dL_law_1038 : decode cL_law 1038 = .ok (.ifCond .eq 5, 3) := by decide +kernel
theorem dL_law_1041 : decode cL_law 1041 = .ok (.iconst 0, 1) := by decide +kernel
theorem dL_law_1042 : decode cL_law 1042 = .ok (.ireturn, 1) := by decide +kernel
theorem dL_law_1043 : decode cL_law 1043 = .ok (.goto 3, 3) := by decide +kernel
theorem dL_law_1046 : decode cL_law 1046 = .ok (.iinc 4 6, 3) := by decide +kernel
theorem dL_law_1049 : decode cL_law 1049 = .ok (.goto (-1026), 3) := by decide +kernel
theorem dL_law_1052 : decode cL_law 1052 = .ok (.iconst 1, 1) := by decide +kernel
theorem dL_law_1053 : decode cL_law 1053 = .ok (.ireturn, 1) := by decide +kernel
end
section
/-! ===== THE LAYER: one world by roles (role i lies at the address ad i and holds g i), one list of words for all methods ===== -/
def GW : List Cond := lw_tbl.filter goodWord
theorem gw_in {w : Cond} (i : Nat) (h : lw_tbl[i]? = some w) (hg : goodWord w = true) : w ∈ GW := List.mem_filter.mpr ⟨List.mem_of_getElem? h, hg⟩
theorem gw_good {w : Cond} (h : w ∈ GW) : (w.onTables && w.keeps) = true ∨ ∃ ty, w = .arrayClass ty := good_of_word (List.mem_filter.mp h).2
def gws (y : MethodName) (cc : ByteArray) (n : Nat) (ret : Option FieldType) : List Cond := Cond.code y cc n ret :: GW
theorem good_g {y : MethodName} {cc : ByteArray} {n : Nat} {ret : Option FieldType} (h5 : Cond.code y cc n ret ∈ GW) : GoodIn GW (gws y cc n ret) := fun w hw => by
  have h : w ∈ GW := (List.mem_cons.mp hw).elim (fun e => e ▸ h5) id
  exact ⟨h, gw_good h⟩
theorem good_V {own : String} {idx : Nat} {C : String} {y : MethodName} {cc : ByteArray} {n : Nat} {ret : Option FieldType} (h1 : Cond.methodLink own idx y ∈ GW) (h2 : Cond.instanceMethod y ∈ GW) (h3 : Cond.selects C y y ∈ GW) (h4 : Cond.initialized C ∈ GW) (h5 : Cond.code y cc n ret ∈ GW) : GoodIn GW (wsV own idx C y (gws y cc n ret)) := fun w hw => by
  rcases List.mem_append.mp hw with h | h
  · have h : w ∈ GW := by
      simp only [List.mem_cons, List.not_mem_nil, or_false] at h
      rcases h with rfl | rfl | rfl | rfl <;> assumption
    exact ⟨h, gw_good h⟩
  · exact good_g h5 w h
theorem good_S {own : String} {idx : Nat} {y : MethodName} {cc : ByteArray} {n : Nat} {ret : Option FieldType} (h1 : Cond.methodLink own idx y ∈ GW) (h2 : Cond.static y ∈ GW) (h4 : Cond.initialized y.cls ∈ GW) (h5 : Cond.code y cc n ret ∈ GW) : GoodIn GW (va_wsS own idx y (gws y cc n ret)) := fun w hw => by
  rcases List.mem_append.mp hw with h | h
  · have h : w ∈ GW := by
      simp only [List.mem_cons, List.not_mem_nil, or_false] at h
      rcases h with rfl | rfl | rfl <;> assumption
    exact ⟨h, gw_good h⟩
  · exact good_g h5 w h
/-! the world -/
def ww (R : Nat) (ad : Nat → Nat) (g : Nat → va_E) : va_W := (List.range R).map (fun i => (ad i, g i))
theorem ww_len (R : Nat) (ad : Nat → Nat) (g : Nat → va_E) : (ww R ad g).length = R := by simp [ww]
theorem ww_at {R : Nat} {ad : Nat → Nat} {g : Nat → va_E} {e : va_E} (i : Nat) (h : i < R) (he : g i = e) : (ww R ad g)[i]? = some (ad i, e) := by
  subst he
  simp [ww, h]
theorem ww_of {R : Nat} {ad : Nat → Nat} {g : Nat → va_E} {k : Nat} {q : Nat × va_E} (h : (ww R ad g)[k]? = some q) : k < R ∧ q = (ad k, g k) := by
  have hk : k < R := by
    have := (List.getElem?_eq_some_iff.mp h).1
    rwa [ww_len] at this
  rw [ww_at k hk rfl] at h
  exact ⟨hk, (Option.some.inj h).symm⟩
theorem ww_set {R : Nat} {ad : Nat → Nat} {g : Nat → va_E} (i : Nat) (e : va_E) : (ww R ad g).set i (ad i, e) = ww R ad (va_up g i e) := by
  apply List.ext_getElem?
  intro j
  by_cases hR : j < R
  · by_cases hj : j = i
    · subst hj
      rw [List.getElem?_set_self (by rw [ww_len]; exact hR), ww_at j hR (va_up_self g j e)]
    · rw [List.getElem?_set_ne (Ne.symm hj), ww_at j hR rfl, ww_at j hR (va_up_ne g e hj)]
  · rw [List.getElem?_eq_none (by rw [List.length_set, ww_len]; omega), List.getElem?_eq_none (by rw [ww_len]; omega)]
theorem ww_push {R : Nat} {ad : Nat → Nat} {g : Nat → va_E} (q : Nat) (e : va_E) : ww R ad g ++ [(q, e)] = ww (R + 1) (va_up ad R q) (va_up g R e) := by
  unfold ww
  rw [List.range_succ, List.map_append]
  congr 1
  · apply List.map_congr_left
    intro j hj
    have : j ≠ R := by have := List.mem_range.mp hj; omega
    rw [va_up_ne _ _ this, va_up_ne _ _ this]
  · simp [va_up]
theorem ww_congr {R : Nat} {ad ad' : Nat → Nat} {g g' : Nat → va_E} (h1 : ∀ i, i < R → ad i = ad' i) (h : ∀ i, i < R → g i = g' i) : ww R ad g = ww R ad' g' := by
  unfold ww
  apply List.map_congr_left
  intro j hj
  have := List.mem_range.mp hj
  rw [h j this, h1 j this]
def AA (R : Nat) (ad : Nat → Nat) (sz : Nat) : Nat → Prop := fun q => (∃ i, i < R ∧ q = ad i) ∨ sz ≤ q
theorem ww_self {R : Nat} {ad : Nat → Nat} {g : Nat → va_E} {A : Nat → Prop} {sz : Nat} (h : va_D A (ww R ad g)) : va_D (AA R ad sz) (ww R ad g) := ⟨h.1, fun k q hk => by
  obtain ⟨h1, rfl⟩ := ww_of hk
  exact Or.inl ⟨k, h1, rfl⟩⟩
abbrev tysOf (ca : Nat → ClassId) : List (ClassId × FieldType) := [(ca 0, .int), (ca 1, .byte), (ca 2, .boolean), (ca 3, .long), (ca 4, .array .int)]
abbrev ia (ca : Nat → ClassId) (n : Nat) (f : Nat → Int32) : va_E := .inl (ca 0, n, .inl f)
abbrev na (ca : Nat → ClassId) (n : Nat) (f : Nat → Nat) : va_E := .inl (ca 0, n, .inl (fun j => nI (f j)))
abbrev ba (ca : Nat → ClassId) (n : Nat) (f : Nat → Int32) : va_E := .inl (ca 1, n, .inl f)
abbrev za (ca : Nat → ClassId) (n : Nat) (f : Nat → Bool) : va_E := .inl (ca 2, n, .inl (fun j => if f j = true then 1 else 0))
abbrev la (ca : Nat → ClassId) (n : Nat) (f : Nat → Int64) : va_E := .inl (ca 3, n, .inr (.inl f))
abbrev qa (ca : Nat → ClassId) (n : Nat) (f : Nat → Option Nat) : va_E := .inl (ca 4, n, .inr (.inr (.inr (.inr f))))
/-! what is given and stays: links of nest mates, two tables, two statics of Throwable -/
def isNest : Cond → Bool
  | .fieldLinkNest _ _ _ _ _ _ => true
  | .declares _ => true
  | .castable _ _ => true
  | _ => false
def NW : List Cond := lw_tbl.filter isNest
theorem nw_in {w : Cond} (i : Nat) (h : lw_tbl[i]? = some w) (hg : isNest w = true) : w ∈ NW := List.mem_filter.mpr ⟨List.mem_of_getElem? h, hg⟩
theorem nw_warm {w : Cond} {s U : State} (hw : w ∈ NW) (hW : s.WarmedH U.vm) (h : va_Nw w s) : va_Nw w U := by
  have hn := (List.mem_filter.mp hw).2
  cases w <;> first | exact va_Nw.warmF hW h | exact va_Nw.warmD hW h | exact va_tabs rfl (rfl : (s.setVm U.vm).vm = U.vm) (Cond.before_shiftedFace (State.Shifted.of_warmed hW) _ rfl h) | exact va_tabs rfl (rfl : (s.setVm U.vm).vm = U.vm) (Cond.before_shiftedCast (State.Shifted.of_warmed hW) _ rfl h) | cases hn
theorem nw_same {w : Cond} {s U : State} (hw : w ∈ NW) (hv : s.vm = U.vm) (h : va_Nw w s) : va_Nw w U := by
  have hn := (List.mem_filter.mp hw).2
  cases w <;> first | exact va_Nw.same rfl hv h | cases hn
def fBelow : List Nat := [5, 505, 671, 754, 804, 837, 861, 879, 900, 960, 1000]
def fSizes : List Nat := [1, 2, 3, 4, 5, 6, 7, 8, 10, 20, 40]
abbrev xI : String := "java/lang/IllegalStateException"
abbrev xO : String := "java/lang/IndexOutOfBoundsException"
abbrev xA : String := "java/lang/IllegalArgumentException"
abbrev xU : String := "java/lang/UnsupportedOperationException"
/-- pairs of exceptions of which the first is none of the second's -/
def NCL : List (String × String) := [(xI, xO), (xI, xA), (xI, xU), (xO, xI), (xO, xA), (xO, xU), (xA, xI), (xA, xO), (xA, xU), (xU, xI), (xU, xO), (xU, xA)]
def EV (tB tS : Nat) (A : Nat → Prop) (U : State) (H : Heap) : Prop := (∀ w ∈ NW, va_Nw w U) ∧ (va_Z RX4 "BELOW" "[I" (.ref tB) A U H ∧ va_T .int tB 11 (fun j => .int (nI (fBelow.getD j 0))) A U H) ∧ (va_Z RX4 "SIZES" "[I" (.ref tS) A U H ∧ va_T .int tS 11 (fun j => .int (nI (fSizes.getD j 0))) A U H) ∧ vx_Zq Bundle.tN "UNASSIGNED_STACK" Bundle.steD A U H ∧ vx_Zq Bundle.tN "SUPPRESSED_SENTINEL" Bundle.listD A U H ∧ ∀ q ∈ NCL, va_Nc q.1 q.2 U
theorem EV.same {tB tS : Nat} {A : Nat → Prop} {u U : State} {H : Heap} (hv : u.vm = U.vm) (h : EV tB tS A u H) : EV tB tS A U H := by
  have ha : u.vm.Alike U.vm := by rw [hv]; exact Vm.Alike.refl _
  exact ⟨fun w hw => nw_same hw hv (h.1 w hw), ⟨h.2.1.1.moved ha, h.2.1.2.moved ha⟩, ⟨h.2.2.1.1.moved ha, h.2.2.1.2.moved ha⟩, h.2.2.2.1.moved ha, h.2.2.2.2.1.moved ha, fun q hq => (h.2.2.2.2.2 q hq).moved ha⟩
theorem EV.warm {tB tS : Nat} {A : Nat → Prop} {u U : State} {H : Heap} (hW : u.WarmedH U.vm) (h : EV tB tS A u H) : EV tB tS A U H := by
  have ha : u.vm.Alike U.vm := hW.alike
  exact ⟨fun w hw => nw_warm hw hW (h.1 w hw), ⟨h.2.1.1.moved ha, h.2.1.2.moved ha⟩, ⟨h.2.2.1.1.moved ha, h.2.2.1.2.moved ha⟩, h.2.2.2.1.moved ha, h.2.2.2.2.1.moved ha, fun q hq => (h.2.2.2.2.2 q hq).moved ha⟩
theorem EV.kept {tB tS : Nat} {A : Nat → Prop} {U : State} {H H1 : Heap} (h : EV tB tS A U H) (hq : ∀ a : Nat, a < H.size → ¬ A a → H1[a]? = H[a]?) : EV tB tS A U H1 :=
  ⟨h.1, ⟨h.2.1.1.kept hq, h.2.1.2.kept hq⟩, ⟨h.2.2.1.1.kept hq, h.2.2.1.2.kept hq⟩, h.2.2.2.1.kept hq, h.2.2.2.2.1.kept hq, h.2.2.2.2.2⟩
theorem EV.narrow {tB tS : Nat} {A B : Nat → Prop} {U : State} {H : Heap} (h : EV tB tS A U H) (hq : ∀ q, B q → A q) : EV tB tS B U H :=
  ⟨h.1, ⟨h.2.1.1.narrow hq, h.2.1.2.narrow hq⟩, ⟨h.2.2.1.1.narrow hq, h.2.2.1.2.narrow hq⟩, h.2.2.2.1.narrow hq, h.2.2.2.2.1.narrow hq, h.2.2.2.2.2⟩
/-- a method's start: the world, and what is given -/
def WB (D : va_G) (ca : Nat → ClassId) (tB tS R : Nat) (ad : Nat → Nat) (g : Nat → va_E) (sz : Nat) (U : State) : Prop :=
  U.heap.size = sz ∧ va_P D vwCl (ww R ad g) U.heap ∧ va_K D vwCl (tysOf ca) U ∧ va_D (AA R ad sz) (ww R ad g) ∧ EV tB tS (AA R ad sz) U U.heap
/-- a method's end: the world -/
def WE (D : va_G) (R : Nat) (ad : Nat → Nat) (A : Nat → Prop) (g : Nat → va_E) (t : State) : Prop := va_P D vwCl (ww R ad g) t.heap ∧ va_D A (ww R ad g)
/-- .. of a method that makes cells: the addresses too -/
def WN (D : va_G) (R : Nat) (A : Nat → Prop) (u : (Nat → Nat) × (Nat → va_E)) (t : State) : Prop := va_P D vwCl (ww R u.1 u.2) t.heap ∧ va_D A (ww R u.1 u.2)
/-- what stays within a method -/
def Fx (D : va_G) (ca : Nat → ClassId) (tB tS : Nat) (A : Nat → Prop) (s : State) : Prop := va_K D vwCl (tysOf ca) s ∧ EV tB tS A s s.heap ∧ ∀ q, s.heap.size ≤ q → A q
/-- what moves -/
def Wd (D : va_G) (A : Nat → Prop) (s : State) (R : Nat) (ad : Nat → Nat) (g : Nat → va_E) (H : Heap) (locs : List Loc) : Prop := va_P D vwCl (ww R ad g) H ∧ va_D A (ww R ad g) ∧ va_S A s.heap H locs
theorem WB.blind {D : va_G} {ca : Nat → ClassId} {tB tS R : Nat} {ad : Nat → Nat} {g : Nat → va_E} {sz : Nat} {av : List Value} : FrameBlind (va_Pc av (WB D ca tB tS R ad g sz)) := by
  intro a U gf mk h
  obtain ⟨h0, h1, h2, h3, h4, h5⟩ := h
  exact ⟨h0, h1, h2, va_K.moved (u := U) (U := U.calling gf mk a) (Vm.Alike.refl U.vm) h3, h4, EV.same (u := U) (U := U.calling gf mk a) rfl h5⟩
theorem AA.sub {D : va_G} {A : Nat → Prop} {s : State} {R : Nat} {ad : Nat → Nat} {g : Nat → va_E} {H : Heap} {locs : List Loc} (hA : ∀ q, s.heap.size ≤ q → A q) (hw : Wd D A s R ad g H locs) : ∀ q, AA R ad H.size q → A q := by
  intro q h
  rcases h with ⟨i, hi, rfl⟩ | h
  · exact hw.2.1.2 i _ (ww_at i hi rfl)
  · exact hA q (Nat.le_trans hw.2.2.1 h)
theorem WB.make {D : va_G} {ca : Nat → ClassId} {tB tS : Nat} {A : Nat → Prop} {s U : State} {R : Nat} {ad : Nat → Nat} {g : Nat → va_E} {H : Heap} {locs : List Loc} (F : Fx D ca tB tS A s) (hw : Wd D A s R ad g H locs) (hU : U.heap = H) (hW : s.WarmedH U.vm) : WB D ca tB tS R ad g H.size U := by
  subst hU
  refine ⟨rfl, hw.1, va_K.moved hW.alike F.1, ww_self hw.2.1, ?_⟩
  have h1 : EV tB tS A s U.heap := F.2.1.kept (fun a h1 h2 => hw.2.2.2.1 a h1 h2)
  exact (h1.narrow (AA.sub F.2.2 hw)).warm hW
section Layer
variable {p : Program} {l : Launch} {e : Env} {Rm : Room} {s : State} {m : MethodId} {args : Array Value} {below : List Frame} {meth : Method} {c : Code} {H : Heap} {locs : List Loc} {cells slots : Nat} {Q : State → Prop}
variable {cc : ByteArray} {nL pc : Nat} {own : String} {ls : Array Slot} {rest : List Value} {D : va_G} {ca : Nat → ClassId} {tB tS : Nat} {A : Nat → Prop} {R : Nat} {ad : Nat → Nat} {g : Nat → va_E}
theorem k_get (C : CallFix p m c cc nL s args GW own) (F : Fx D ca tB tS A s) (hw : Wd D A s R ad g H locs) (i : Nat) {ci index : Nat} {fs : List Value} {C0 : String} {T : u_T} {N : Nat} (hi : i < R) (he : g i = .inr (ci, fs)) (hc : vwCl[ci]? = some (C0, T, N)) (hin : ∀ w ∈ u_ws C0 T N, w ∈ GW) (k : Nat) (hk : k < N) (hl : Cond.fieldLink own index (T k).1 (T k).2.1 (T k).2.2.1 ∈ GW) {v : Value} (hv : fs[k]? = some v) (hdg : decode cc pc = .ok (.getfield index, 3))
    (kk : W p l e Rm s m args below meth c H locs cells slots Q (F0 m (pc + 3) ls (v :: rest))) : W p l e Rm s m args below meth c H locs cells slots Q (F0 m pc ls (.ref (ad i) :: rest)) :=
  va_get C.1 C.2.1 C.2.2.2.2 hin C.2.2.2.1 F.1 hw.1 i (ww_at i hi he) hc k hk (C.2.2.2.2 _ hl) (fun _ h => h) hv hdg kk
theorem k_getN (C : CallFix p m c cc nL s args GW own) (F : Fx D ca tB tS A s) (hw : Wd D A s R ad g H locs) (i : Nat) {ci index : Nat} {fs : List Value} {C0 host : String} {T : u_T} {N : Nat} (hi : i < R) (he : g i = .inr (ci, fs)) (hc : vwCl[ci]? = some (C0, T, N)) (hin : ∀ w ∈ u_ws C0 T N, w ∈ GW) (k : Nat) (hk : k < N) (hl : Cond.fieldLinkNest own index (T k).1 (T k).2.1 (T k).2.2.1 host ∈ NW) {v : Value} (hv : fs[k]? = some v) (hdg : decode cc pc = .ok (.getfield index, 3))
    (kk : W p l e Rm s m args below meth c H locs cells slots Q (F0 m (pc + 3) ls (v :: rest))) : W p l e Rm s m args below meth c H locs cells slots Q (F0 m pc ls (.ref (ad i) :: rest)) :=
  va_getN C.1 C.2.1 C.2.2.2.2 hin C.2.2.2.1 F.1 hw.1 i (ww_at i hi he) hc k hk (va_Nw.use rfl (F.2.1.1 _ hl)) (fun _ h => h) hv hdg kk
theorem k_put (C : CallFix p m c cc nL s args GW own) (F : Fx D ca tB tS A s) (hw : Wd D A s R ad g H locs) (i : Nat) {ci index : Nat} {fs : List Value} {C0 : String} {T : u_T} {N : Nat} {ty0 : Nat → FieldType} (hi : i < R) (he : g i = .inr (ci, fs)) (hc : vwCl[ci]? = some (C0, T, N)) (hin : ∀ w ∈ u_ws C0 T N, w ∈ GW) (hty : ∀ k, k < N → parseFieldDescriptor (T k).2.2.1 = some (ty0 k)) (hnm : ∀ a, a < N → ∀ b, b < N → a ≠ b → (T a).2.1 ≠ (T b).2.1) (k : Nat) (hk : k < N) (hl : Cond.fieldLink own index (T k).1 (T k).2.1 (T k).2.2.1 ∈ GW) (hfin : (T k).2.2.2 = false) {v : Value} (hn : narrow (ty0 k) v = v) (hfit : fits (ty0 k) v = true) (hlen : k < fs.length) (hdg : decode cc pc = .ok (.putfield index, 3))
    (kk : ∀ (H1 : Heap) (locs1 : List Loc), Wd D A s R ad (va_up g i (.inr (ci, fs.set k v))) H1 locs1 → W p l e Rm s m args below meth c H1 locs1 cells slots Q (F0 m (pc + 3) ls rest)) : W p l e Rm s m args below meth c H locs cells slots Q (F0 m pc ls (v :: .ref (ad i) :: rest)) := by
  refine va_put C.1 C.2.1 C.2.2.2.2 hin ty0 hty hnm C.2.2.2.1 F.1 hw.1 hw.2.1 hw.2.2 i (ww_at i hi he) hc k hk (C.2.2.2.2 _ hl) (fun _ h => h) hfin (hty k hk) hn hfit hlen hdg (fun H1 locs1 h1 h2 h3 => ?_)
  rw [ww_set] at h1 h2
  exact kk H1 locs1 ⟨h1, h2, h3⟩
theorem k_putN (C : CallFix p m c cc nL s args GW own) (F : Fx D ca tB tS A s) (hw : Wd D A s R ad g H locs) (i : Nat) {ci index : Nat} {fs : List Value} {C0 host : String} {T : u_T} {N : Nat} {ty0 : Nat → FieldType} (hi : i < R) (he : g i = .inr (ci, fs)) (hc : vwCl[ci]? = some (C0, T, N)) (hin : ∀ w ∈ u_ws C0 T N, w ∈ GW) (hty : ∀ k, k < N → parseFieldDescriptor (T k).2.2.1 = some (ty0 k)) (hnm : ∀ a, a < N → ∀ b, b < N → a ≠ b → (T a).2.1 ≠ (T b).2.1) (k : Nat) (hk : k < N) (hl : Cond.fieldLinkNest own index (T k).1 (T k).2.1 (T k).2.2.1 host ∈ NW) (hfin : (T k).2.2.2 = false) {v : Value} (hn : narrow (ty0 k) v = v) (hfit : fits (ty0 k) v = true) (hlen : k < fs.length) (hdg : decode cc pc = .ok (.putfield index, 3))
    (kk : ∀ (H1 : Heap) (locs1 : List Loc), Wd D A s R ad (va_up g i (.inr (ci, fs.set k v))) H1 locs1 → W p l e Rm s m args below meth c H1 locs1 cells slots Q (F0 m (pc + 3) ls rest)) : W p l e Rm s m args below meth c H locs cells slots Q (F0 m pc ls (v :: .ref (ad i) :: rest)) := by
  refine va_putN C.1 C.2.1 C.2.2.2.2 hin ty0 hty hnm C.2.2.2.1 F.1 hw.1 hw.2.1 hw.2.2 i (ww_at i hi he) hc k hk (va_Nw.use rfl (F.2.1.1 _ hl)) (fun _ h => h) hfin (hty k hk) hn hfit hlen hdg (fun H1 locs1 h1 h2 h3 => ?_)
  rw [ww_set] at h1 h2
  exact kk H1 locs1 ⟨h1, h2, h3⟩
theorem k_putF (C : CallFix p m c cc nL s args GW own) (F : Fx D ca tB tS A s) (hw : Wd D A s R ad g H locs) (i : Nat) {ci index : Nat} {fs : List Value} {C0 : String} {T : u_T} {N : Nat} {ty0 : Nat → FieldType} (hi : i < R) (he : g i = .inr (ci, fs)) (hc : vwCl[ci]? = some (C0, T, N)) (hin : ∀ w ∈ u_ws C0 T N, w ∈ GW) (hty : ∀ k, k < N → parseFieldDescriptor (T k).2.2.1 = some (ty0 k)) (hnm : ∀ a, a < N → ∀ b, b < N → a ≠ b → (T a).2.1 ≠ (T b).2.1) (hin2 : meth.name = "<init>") (k : Nat) (hk : k < N) (hdecl : (T k).1 = own) (hl : Cond.fieldLink own index (T k).1 (T k).2.1 (T k).2.2.1 ∈ GW) (hfin : (T k).2.2.2 = true) {v : Value} (hn : narrow (ty0 k) v = v) (hfit : fits (ty0 k) v = true) (hlen : k < fs.length) (hdg : decode cc pc = .ok (.putfield index, 3))
    (kk : ∀ (H1 : Heap) (locs1 : List Loc), Wd D A s R ad (va_up g i (.inr (ci, fs.set k v))) H1 locs1 → W p l e Rm s m args below meth c H1 locs1 cells slots Q (F0 m (pc + 3) ls rest)) : W p l e Rm s m args below meth c H locs cells slots Q (F0 m pc ls (v :: .ref (ad i) :: rest)) := by
  refine va_putF C.1 C.2.1 C.2.2.2.2 hin ty0 hty hnm C.2.2.2.1 F.1 hw.1 hw.2.1 hw.2.2 i (ww_at i hi he) hc k hk (C.2.2.2.2 _ hl) (fun _ h => h) hfin hin2 hdecl (hty k hk) hn hfit hlen hdg (fun H1 locs1 h1 h2 h3 => ?_)
  rw [ww_set] at h1 h2
  exact kk H1 locs1 ⟨h1, h2, h3⟩
theorem upd_na (f : Nat → Nat) (k x : Nat) : upd (fun j => nI (f j)) k (nI x) = fun j => nI (va_up f k x j) := by
  funext j
  by_cases h : j = k <;> simp [upd, va_up, h]
theorem k_iald (C : CallFix p m c cc nL s args GW own) (F : Fx D ca tB tS A s) (hw : Wd D A s R ad g H locs) (i : Nat) {n : Nat} {f : Nat → Nat} (hi : i < R) (he : g i = na ca n f) (j : Nat) (hj : j < n) (hn : n < 2 ^ 31) (hdg : decode cc pc = .ok (.iaload, 1))
    (kk : W p l e Rm s m args below meth c H locs cells slots Q (F0 m (pc + 1) ls (.int (nI (f j)) :: rest))) : W p l e Rm s m args below meth c H locs cells slots Q (F0 m pc ls (.int (nI j) :: .ref (ad i) :: rest)) := by
  refine va_iald C.1 C.2.1 F.1 hw.1 i 0 (ww_at i hi he) rfl (vp_in_nI hj hn) hdg ?_
  rw [nI_clamp (by omega)]
  exact kk
theorem k_iast (C : CallFix p m c cc nL s args GW own) (F : Fx D ca tB tS A s) (hw : Wd D A s R ad g H locs) (i : Nat) {n : Nat} {f : Nat → Nat} (hi : i < R) (he : g i = na ca n f) (j x : Nat) (hj : j < n) (hn : n < 2 ^ 31) (hdg : decode cc pc = .ok (.iastore, 1))
    (kk : ∀ (H1 : Heap) (locs1 : List Loc), Wd D A s R ad (va_up g i (na ca n (va_up f j x))) H1 locs1 → W p l e Rm s m args below meth c H1 locs1 cells slots Q (F0 m (pc + 1) ls rest)) : W p l e Rm s m args below meth c H locs cells slots Q (F0 m pc ls (.int (nI x) :: .int (nI j) :: .ref (ad i) :: rest)) := by
  refine va_iast C.1 C.2.1 F.1 hw.1 hw.2.1 hw.2.2 i 0 (ww_at i hi he) rfl (vp_in_nI hj hn) hdg (fun H1 locs1 h1 h2 h3 => ?_)
  rw [ww_set, nI_clamp (by omega), upd_na] at h1 h2
  exact kk H1 locs1 ⟨h1, h2, h3⟩
theorem k_zald (C : CallFix p m c cc nL s args GW own) (F : Fx D ca tB tS A s) (hw : Wd D A s R ad g H locs) (i : Nat) {n : Nat} {f : Nat → Bool} (hi : i < R) (he : g i = za ca n f) (j : Nat) (hj : j < n) (hn : n < 2 ^ 31) (hdg : decode cc pc = .ok (.baload, 1))
    (kk : W p l e Rm s m args below meth c H locs cells slots Q (F0 m (pc + 1) ls (.int (if f j = true then 1 else 0) :: rest))) : W p l e Rm s m args below meth c H locs cells slots Q (F0 m pc ls (.int (nI j) :: .ref (ad i) :: rest)) := by
  refine va_zald C.1 C.2.1 F.1 hw.1 i 2 (ww_at i hi he) rfl (vp_in_nI hj hn) hdg ?_
  rw [nI_clamp (by omega)]
  exact kk
theorem upd_za (f : Nat → Bool) (k : Nat) (b : Bool) : upd (fun j => if f j = true then (1 : Int32) else 0) k (vp_nar .boolean (if b = true then 1 else 0)) = fun j => if va_up f k b j = true then 1 else 0 := by
  funext j
  by_cases h : j = k
  · subst h
    cases b <;> simp [upd, va_up] <;> decide
  · simp [upd, va_up, h]
theorem k_zast (C : CallFix p m c cc nL s args GW own) (F : Fx D ca tB tS A s) (hw : Wd D A s R ad g H locs) (i : Nat) {n : Nat} {f : Nat → Bool} (hi : i < R) (he : g i = za ca n f) (j : Nat) (b : Bool) {x : Int32} (hx : x = if b = true then 1 else 0) (hj : j < n) (hn : n < 2 ^ 31) (hdg : decode cc pc = .ok (.bastore, 1))
    (kk : ∀ (H1 : Heap) (locs1 : List Loc), Wd D A s R ad (va_up g i (za ca n (va_up f j b))) H1 locs1 → W p l e Rm s m args below meth c H1 locs1 cells slots Q (F0 m (pc + 1) ls rest)) : W p l e Rm s m args below meth c H locs cells slots Q (F0 m pc ls (.int x :: .int (nI j) :: .ref (ad i) :: rest)) := by
  subst hx
  refine va_zast C.1 C.2.1 F.1 hw.1 hw.2.1 hw.2.2 i 2 (ww_at i hi he) rfl (vp_in_nI hj hn) hdg (fun H1 locs1 h1 h2 h3 => ?_)
  rw [ww_set, nI_clamp (by omega), upd_za] at h1 h2
  exact kk H1 locs1 ⟨h1, h2, h3⟩
theorem k_aald (C : CallFix p m c cc nL s args GW own) (F : Fx D ca tB tS A s) (hw : Wd D A s R ad g H locs) (i : Nat) {n : Nat} {f : Nat → Option Nat} {a : Nat} (hi : i < R) (he : g i = qa ca n f) (j : Nat) (hj : j < n) (hn : n < 2 ^ 31) (hf : f j = some a) (hdg : decode cc pc = .ok (.aaload, 1))
    (kk : W p l e Rm s m args below meth c H locs cells slots Q (F0 m (pc + 1) ls (.ref a :: rest))) : W p l e Rm s m args below meth c H locs cells slots Q (F0 m pc ls (.int (nI j) :: .ref (ad i) :: rest)) := by
  refine W.aald (v := .ref a) (ty := .array .int) C.1 C.2.1 (hw.1 i _ (ww_at i hi he)) ((F.1.2 4 _ rfl).1 n (fun j => va_rf (f j))) rfl (fun q => by cases q) (by show ¬ (nI j < 0 ∨ (arrV _ _ _).slots.size ≤ _); rw [arrV_size]; exact vp_in_nI hj hn) ?_ rfl rfl hdg kk
  show (arrV _ _ _).slots[_]? = _
  rw [nI_clamp (by omega), arrV_read _ _ hj, hf]
  rfl
theorem k_alen (C : CallFix p m c cc nL s args GW own) (F : Fx D ca tB tS A s) (hw : Wd D A s R ad g H locs) (i : Nat) {n : Nat} {f : Nat → Nat} (hi : i < R) (he : g i = na ca n f) (hdg : decode cc pc = .ok (.arraylength, 1))
    (kk : W p l e Rm s m args below meth c H locs cells slots Q (F0 m (pc + 1) ls (.int (nI n) :: rest))) : W p l e Rm s m args below meth c H locs cells slots Q (F0 m pc ls (.ref (ad i) :: rest)) :=
  va_alen C.1 C.2.1 F.1 hw.1 i 0 (ww_at i hi he) (ty := .int) rfl rfl hdg kk
/-! numbers -/
theorem k_ti {x x' : Int32} (h : x = x') (kk : W p l e Rm s m args below meth c H locs cells slots Q (F0 m pc ls (.int x' :: rest))) : W p l e Rm s m args below meth c H locs cells slots Q (F0 m pc ls (.int x :: rest)) := h ▸ kk
theorem k_tl {x x' : Int64} (h : x = x') (kk : W p l e Rm s m args below meth c H locs cells slots Q (F0 m pc ls (.long x' :: rest))) : W p l e Rm s m args below meth c H locs cells slots Q (F0 m pc ls (.long x :: rest)) := h ▸ kk
theorem k_icn (C : CallFix p m c cc nL s args GW own) {n : Int} (v : Nat) (hdg : decode cc pc = .ok (.iconst n, 1)) (hv : Int32.ofInt n = nI v) (kk : W p l e Rm s m args below meth c H locs cells slots Q (F0 m (pc + 1) ls (.int (nI v) :: rest))) : W p l e Rm s m args below meth c H locs cells slots Q (F0 m pc ls rest) := lv_iconst C.1 C.2.1 hdg hv kk
theorem k_bip (C : CallFix p m c cc nL s args GW own) {n : Int} (v : Nat) (hdg : decode cc pc = .ok (.bipush n, 2)) (hv : (Int8.ofInt n).toInt32 = nI v) (kk : W p l e Rm s m args below meth c H locs cells slots Q (F0 m (pc + 2) ls (.int (nI v) :: rest))) : W p l e Rm s m args below meth c H locs cells slots Q (F0 m pc ls rest) := lv_bipush C.1 C.2.1 hdg hv kk
theorem k_sip (C : CallFix p m c cc nL s args GW own) {n : Int} (v : Nat) (hdg : decode cc pc = .ok (.sipush n, 3)) (hv : (Int16.ofInt n).toInt32 = nI v) (kk : W p l e Rm s m args below meth c H locs cells slots Q (F0 m (pc + 3) ls (.int (nI v) :: rest))) : W p l e Rm s m args below meth c H locs cells slots Q (F0 m pc ls rest) := lv_sipush C.1 C.2.1 hdg hv kk
theorem k_add (C : CallFix p m c cc nL s args GW own) {a b : Nat} (hdg : decode cc pc = .ok (.iadd, 1)) (kk : W p l e Rm s m args below meth c H locs cells slots Q (F0 m (pc + 1) ls (.int (nI (a + b)) :: rest))) : W p l e Rm s m args below meth c H locs cells slots Q (F0 m pc ls (.int (nI b) :: .int (nI a) :: rest)) := lv_iadd C.1 C.2.1 hdg (k_ti (nI_add a b) kk)
theorem k_sub (C : CallFix p m c cc nL s args GW own) {a b : Nat} (hdg : decode cc pc = .ok (.isub, 1)) (h : b ≤ a) (kk : W p l e Rm s m args below meth c H locs cells slots Q (F0 m (pc + 1) ls (.int (nI (a - b)) :: rest))) : W p l e Rm s m args below meth c H locs cells slots Q (F0 m pc ls (.int (nI b) :: .int (nI a) :: rest)) := lv_isub C.1 C.2.1 hdg (k_ti (pk_sub h) kk)
theorem k_mul (C : CallFix p m c cc nL s args GW own) {a b : Nat} (hdg : decode cc pc = .ok (.imul, 1)) (kk : W p l e Rm s m args below meth c H locs cells slots Q (F0 m (pc + 1) ls (.int (nI (a * b)) :: rest))) : W p l e Rm s m args below meth c H locs cells slots Q (F0 m pc ls (.int (nI b) :: .int (nI a) :: rest)) := lv_imul C.1 C.2.1 hdg (k_ti (pk_mul a b) kk)
theorem k_div (C : CallFix p m c cc nL s args GW own) {a b : Nat} (hdg : decode cc pc = .ok (.idiv, 1)) (ha : a < 2 ^ 31) (h0 : 0 < b) (hb : b < 2 ^ 31) (kk : W p l e Rm s m args below meth c H locs cells slots Q (F0 m (pc + 1) ls (.int (nI (a / b)) :: rest))) : W p l e Rm s m args below meth c H locs cells slots Q (F0 m pc ls (.int (nI b) :: .int (nI a) :: rest)) := lv_idiv C.1 C.2.1 hdg (nI_ne0 h0 hb) (k_ti (pk_div ha h0 hb) kk)
theorem k_rem (C : CallFix p m c cc nL s args GW own) {a b : Nat} (hdg : decode cc pc = .ok (.irem, 1)) (ha : a < 2 ^ 31) (h0 : 0 < b) (hb : b < 2 ^ 31) (kk : W p l e Rm s m args below meth c H locs cells slots Q (F0 m (pc + 1) ls (.int (nI (a % b)) :: rest))) : W p l e Rm s m args below meth c H locs cells slots Q (F0 m pc ls (.int (nI b) :: .int (nI a) :: rest)) := lv_irem C.1 C.2.1 hdg (nI_ne0 h0 hb) (k_ti (pk_rem ha h0 hb) kk)
theorem nI_xor (a b : Nat) : nI a ^^^ nI b = nI (a ^^^ b) := Int32.toBitVec_inj.mp (by simp [nI])
theorem k_xor (C : CallFix p m c cc nL s args GW own) {a b : Nat} (hdg : decode cc pc = .ok (.ixor, 1)) (kk : W p l e Rm s m args below meth c H locs cells slots Q (F0 m (pc + 1) ls (.int (nI (a ^^^ b)) :: rest))) : W p l e Rm s m args below meth c H locs cells slots Q (F0 m pc ls (.int (nI b) :: .int (nI a) :: rest)) := lv_ixor C.1 C.2.1 hdg (k_ti (nI_xor a b) kk)
theorem k_ilt (C : CallFix p m c cc nL s args GW own) {a b : Nat} {off : Int} {tgt : Nat} (hdg : decode cc pc = .ok (.if_icmp .lt off, 3)) (ht : (pc : Int) + off = (tgt : Int)) (ha : a < 2 ^ 31) (hb : b < 2 ^ 31) (kt : a < b → W p l e Rm s m args below meth c H locs cells slots Q (F0 m tgt ls rest)) (kf : b ≤ a → W p l e Rm s m args below meth c H locs cells slots Q (F0 m (pc + 3) ls rest)) : W p l e Rm s m args below meth c H locs cells slots Q (F0 m pc ls (.int (nI b) :: .int (nI a) :: rest)) := lv_icmp_lt C.1 C.2.1 hdg ht (fun h => kt ((nI_ltI ha hb).mp h)) (fun h => kf (by have := mt (nI_ltI ha hb).mpr h; omega))
theorem k_ige (C : CallFix p m c cc nL s args GW own) {a b : Nat} {off : Int} {tgt : Nat} (hdg : decode cc pc = .ok (.if_icmp .ge off, 3)) (ht : (pc : Int) + off = (tgt : Int)) (ha : a < 2 ^ 31) (hb : b < 2 ^ 31) (kt : b ≤ a → W p l e Rm s m args below meth c H locs cells slots Q (F0 m tgt ls rest)) (kf : a < b → W p l e Rm s m args below meth c H locs cells slots Q (F0 m (pc + 3) ls rest)) : W p l e Rm s m args below meth c H locs cells slots Q (F0 m pc ls (.int (nI b) :: .int (nI a) :: rest)) := lv_icmp_ge C.1 C.2.1 hdg ht (fun h => kt ((nI_leI hb ha).mp h)) (fun h => kf (by have := mt (nI_leI hb ha).mpr h; omega))
theorem k_igt (C : CallFix p m c cc nL s args GW own) {a b : Nat} {off : Int} {tgt : Nat} (hdg : decode cc pc = .ok (.if_icmp .gt off, 3)) (ht : (pc : Int) + off = (tgt : Int)) (ha : a < 2 ^ 31) (hb : b < 2 ^ 31) (kt : b < a → W p l e Rm s m args below meth c H locs cells slots Q (F0 m tgt ls rest)) (kf : a ≤ b → W p l e Rm s m args below meth c H locs cells slots Q (F0 m (pc + 3) ls rest)) : W p l e Rm s m args below meth c H locs cells slots Q (F0 m pc ls (.int (nI b) :: .int (nI a) :: rest)) := lv_icmp_gt C.1 C.2.1 hdg ht (fun h => kt ((nI_ltI hb ha).mp h)) (fun h => kf (by have := mt (nI_ltI hb ha).mpr h; omega))
theorem k_ile (C : CallFix p m c cc nL s args GW own) {a b : Nat} {off : Int} {tgt : Nat} (hdg : decode cc pc = .ok (.if_icmp .le off, 3)) (ht : (pc : Int) + off = (tgt : Int)) (ha : a < 2 ^ 31) (hb : b < 2 ^ 31) (kt : a ≤ b → W p l e Rm s m args below meth c H locs cells slots Q (F0 m tgt ls rest)) (kf : b < a → W p l e Rm s m args below meth c H locs cells slots Q (F0 m (pc + 3) ls rest)) : W p l e Rm s m args below meth c H locs cells slots Q (F0 m pc ls (.int (nI b) :: .int (nI a) :: rest)) := lv_icmp_le C.1 C.2.1 hdg ht (fun h => kt ((nI_leI ha hb).mp h)) (fun h => kf (by have := mt (nI_leI ha hb).mpr h; omega))
theorem k_ieq (C : CallFix p m c cc nL s args GW own) {a b : Nat} {off : Int} {tgt : Nat} (hdg : decode cc pc = .ok (.if_icmp .eq off, 3)) (ht : (pc : Int) + off = (tgt : Int)) (ha : a < 2 ^ 31) (hb : b < 2 ^ 31) (kt : a = b → W p l e Rm s m args below meth c H locs cells slots Q (F0 m tgt ls rest)) (kf : a ≠ b → W p l e Rm s m args below meth c H locs cells slots Q (F0 m (pc + 3) ls rest)) : W p l e Rm s m args below meth c H locs cells slots Q (F0 m pc ls (.int (nI b) :: .int (nI a) :: rest)) := lv_icmp_eq C.1 C.2.1 hdg ht (fun h => kt ((nI_eq ha hb).mp h)) (fun h => kf (mt (nI_eq ha hb).mpr h))
theorem k_ine (C : CallFix p m c cc nL s args GW own) {a b : Nat} {off : Int} {tgt : Nat} (hdg : decode cc pc = .ok (.if_icmp .ne off, 3)) (ht : (pc : Int) + off = (tgt : Int)) (ha : a < 2 ^ 31) (hb : b < 2 ^ 31) (kt : a ≠ b → W p l e Rm s m args below meth c H locs cells slots Q (F0 m tgt ls rest)) (kf : a = b → W p l e Rm s m args below meth c H locs cells slots Q (F0 m (pc + 3) ls rest)) : W p l e Rm s m args below meth c H locs cells slots Q (F0 m pc ls (.int (nI b) :: .int (nI a) :: rest)) := lv_icmp_ne C.1 C.2.1 hdg ht (fun h => kt (mt (nI_eq ha hb).mpr h)) (fun h => kf ((nI_eq ha hb).mp h))
end Layer
end
section
/-! ===== the words that the walks use, by their places in lw_tbl ===== -/
theorem in_X0 : ∀ w ∈ wsX00, w ∈ GW := by decide +kernel
theorem in_X1 : ∀ w ∈ wsX10, w ∈ GW := by decide +kernel
theorem in_X2 : ∀ w ∈ wsX20, w ∈ GW := by decide +kernel
theorem in_X3 : ∀ w ∈ wsX30, w ∈ GW := by decide +kernel
theorem in_X4 : ∀ w ∈ wsX40, w ∈ GW := by decide +kernel
theorem in_X5 : ∀ w ∈ wsX50, w ∈ GW := by decide +kernel
theorem in_X6 : ∀ w ∈ wsX60, w ∈ GW := by decide +kernel
theorem in_X7 : ∀ w ∈ wsX70, w ∈ GW := by decide +kernel
theorem in_X8 : ∀ w ∈ wsX80, w ∈ GW := by decide +kernel
set_option maxRecDepth 20000 in
theorem fl_X3_9 : Cond.fieldLink RX3 9 (TX3 0).1 (TX3 0).2.1 (TX3 0).2.2.1 ∈ GW := gw_in 63 (by rfl) rfl
set_option maxRecDepth 20000 in
theorem fl_X3_13 : Cond.fieldLink RX3 13 (TX3 1).1 (TX3 1).2.1 (TX3 1).2.2.1 ∈ GW := gw_in 64 (by rfl) rfl
set_option maxRecDepth 20000 in
theorem fl_X5_9 : Cond.fieldLink RX5 9 (TX5 0).1 (TX5 0).2.1 (TX5 0).2.2.1 ∈ GW := gw_in 77 (by rfl) rfl
set_option maxRecDepth 20000 in
theorem fl_X7_181 : Cond.fieldLinkNest RX7 181 (TX5 0).1 (TX5 0).2.1 (TX5 0).2.2.1 RX7 ∈ NW := nw_in 78 (by rfl) rfl
set_option maxRecDepth 20000 in
theorem fl_X5_13 : Cond.fieldLink RX5 13 (TX5 1).1 (TX5 1).2.1 (TX5 1).2.2.1 ∈ GW := gw_in 79 (by rfl) rfl
set_option maxRecDepth 20000 in
theorem fl_X7_73 : Cond.fieldLinkNest RX7 73 (TX5 1).1 (TX5 1).2.1 (TX5 1).2.2.1 RX7 ∈ NW := nw_in 80 (by rfl) rfl
set_option maxRecDepth 20000 in
theorem fl_X4_9 : Cond.fieldLink RX4 9 (TX4 0).1 (TX4 0).2.1 (TX4 0).2.2.1 ∈ GW := gw_in 92 (by rfl) rfl
set_option maxRecDepth 20000 in
theorem fl_X0_46 : Cond.fieldLinkNest RX0 46 (TX4 0).1 (TX4 0).2.1 (TX4 0).2.2.1 RX7 ∈ NW := nw_in 93 (by rfl) rfl
set_option maxRecDepth 20000 in
theorem fl_X2_60 : Cond.fieldLinkNest RX2 60 (TX4 0).1 (TX4 0).2.1 (TX4 0).2.2.1 RX7 ∈ NW := nw_in 94 (by rfl) rfl
set_option maxRecDepth 20000 in
theorem fl_X4_15 : Cond.fieldLink RX4 15 (TX4 1).1 (TX4 1).2.1 (TX4 1).2.2.1 ∈ GW := gw_in 95 (by rfl) rfl
set_option maxRecDepth 20000 in
theorem fl_X0_41 : Cond.fieldLinkNest RX0 41 (TX4 1).1 (TX4 1).2.1 (TX4 1).2.2.1 RX7 ∈ NW := nw_in 96 (by rfl) rfl
set_option maxRecDepth 20000 in
theorem fl_X2_55 : Cond.fieldLinkNest RX2 55 (TX4 1).1 (TX4 1).2.1 (TX4 1).2.2.1 RX7 ∈ NW := nw_in 97 (by rfl) rfl
set_option maxRecDepth 20000 in
theorem fl_X7_127 : Cond.fieldLinkNest RX7 127 (TX4 1).1 (TX4 1).2.1 (TX4 1).2.2.1 RX7 ∈ NW := nw_in 98 (by rfl) rfl
set_option maxRecDepth 20000 in
theorem fl_X2_9 : Cond.fieldLink RX2 9 (TX2 0).1 (TX2 0).2.1 (TX2 0).2.2.1 ∈ GW := gw_in 112 (by rfl) rfl
set_option maxRecDepth 20000 in
theorem fl_X2_17 : Cond.fieldLink RX2 17 (TX2 1).1 (TX2 1).2.1 (TX2 1).2.2.1 ∈ GW := gw_in 113 (by rfl) rfl
set_option maxRecDepth 20000 in
theorem fl_X0_32 : Cond.fieldLinkNest RX0 32 (TX2 1).1 (TX2 1).2.1 (TX2 1).2.2.1 RX7 ∈ NW := nw_in 114 (by rfl) rfl
set_option maxRecDepth 20000 in
theorem fl_X2_20 : Cond.fieldLink RX2 20 (TX2 2).1 (TX2 2).2.1 (TX2 2).2.2.1 ∈ GW := gw_in 115 (by rfl) rfl
set_option maxRecDepth 20000 in
theorem fl_X2_24 : Cond.fieldLink RX2 24 (TX2 3).1 (TX2 3).2.1 (TX2 3).2.2.1 ∈ GW := gw_in 116 (by rfl) rfl
set_option maxRecDepth 20000 in
theorem fl_X2_28 : Cond.fieldLink RX2 28 (TX2 4).1 (TX2 4).2.1 (TX2 4).2.2.1 ∈ GW := gw_in 117 (by rfl) rfl
set_option maxRecDepth 20000 in
theorem fl_X0_29 : Cond.fieldLinkNest RX0 29 (TX2 4).1 (TX2 4).2.1 (TX2 4).2.2.1 RX7 ∈ NW := nw_in 118 (by rfl) rfl
set_option maxRecDepth 20000 in
theorem fl_X2_32 : Cond.fieldLink RX2 32 (TX2 5).1 (TX2 5).2.1 (TX2 5).2.2.1 ∈ GW := gw_in 119 (by rfl) rfl
set_option maxRecDepth 20000 in
theorem fl_X0_26 : Cond.fieldLinkNest RX0 26 (TX2 5).1 (TX2 5).2.1 (TX2 5).2.2.1 RX7 ∈ NW := nw_in 120 (by rfl) rfl
set_option maxRecDepth 20000 in
theorem fl_X2_35 : Cond.fieldLink RX2 35 (TX2 6).1 (TX2 6).2.1 (TX2 6).2.2.1 ∈ GW := gw_in 121 (by rfl) rfl
set_option maxRecDepth 20000 in
theorem fl_X7_155 : Cond.fieldLinkNest RX7 155 (TX2 6).1 (TX2 6).2.1 (TX2 6).2.2.1 RX7 ∈ NW := nw_in 122 (by rfl) rfl
set_option maxRecDepth 20000 in
theorem fl_X6_9 : Cond.fieldLink RX6 9 (TX6 0).1 (TX6 0).2.1 (TX6 0).2.2.1 ∈ GW := gw_in 148 (by rfl) rfl
set_option maxRecDepth 20000 in
theorem fl_X6_15 : Cond.fieldLink RX6 15 (TX6 1).1 (TX6 1).2.1 (TX6 1).2.2.1 ∈ GW := gw_in 149 (by rfl) rfl
set_option maxRecDepth 20000 in
theorem fl_X6_19 : Cond.fieldLink RX6 19 (TX6 2).1 (TX6 2).2.1 (TX6 2).2.2.1 ∈ GW := gw_in 150 (by rfl) rfl
set_option maxRecDepth 20000 in
theorem fl_X0_11 : Cond.fieldLink RX0 11 (TX0 0).1 (TX0 0).2.1 (TX0 0).2.2.1 ∈ GW := gw_in 165 (by rfl) rfl
set_option maxRecDepth 20000 in
theorem fl_X0_16 : Cond.fieldLink RX0 16 (TX0 1).1 (TX0 1).2.1 (TX0 1).2.2.1 ∈ GW := gw_in 166 (by rfl) rfl
set_option maxRecDepth 20000 in
theorem fl_X7_98 : Cond.fieldLinkNest RX7 98 (TX0 1).1 (TX0 1).2.1 (TX0 1).2.2.1 RX7 ∈ NW := nw_in 167 (by rfl) rfl
set_option maxRecDepth 20000 in
theorem fl_X0_20 : Cond.fieldLink RX0 20 (TX0 2).1 (TX0 2).2.1 (TX0 2).2.2.1 ∈ GW := gw_in 168 (by rfl) rfl
set_option maxRecDepth 20000 in
theorem fl_X7_107 : Cond.fieldLinkNest RX7 107 (TX0 2).1 (TX0 2).2.1 (TX0 2).2.2.1 RX7 ∈ NW := nw_in 169 (by rfl) rfl
set_option maxRecDepth 20000 in
theorem fl_X0_23 : Cond.fieldLink RX0 23 (TX0 3).1 (TX0 3).2.1 (TX0 3).2.2.1 ∈ GW := gw_in 170 (by rfl) rfl
set_option maxRecDepth 20000 in
theorem fl_X7_113 : Cond.fieldLinkNest RX7 113 (TX0 3).1 (TX0 3).2.1 (TX0 3).2.2.1 RX7 ∈ NW := nw_in 171 (by rfl) rfl
set_option maxRecDepth 20000 in
theorem fl_X1_14 : Cond.fieldLink RX1 14 (TX1 0).1 (TX1 0).2.1 (TX1 0).2.2.1 ∈ GW := gw_in 189 (by rfl) rfl
set_option maxRecDepth 20000 in
theorem fl_X7_152 : Cond.fieldLinkNest RX7 152 (TX1 0).1 (TX1 0).2.1 (TX1 0).2.2.1 RX7 ∈ NW := nw_in 190 (by rfl) rfl
set_option maxRecDepth 20000 in
theorem fl_X1_20 : Cond.fieldLink RX1 20 (TX1 1).1 (TX1 1).2.1 (TX1 1).2.2.1 ∈ GW := gw_in 191 (by rfl) rfl
set_option maxRecDepth 20000 in
theorem fl_X7_147 : Cond.fieldLinkNest RX7 147 (TX1 1).1 (TX1 1).2.1 (TX1 1).2.2.1 RX7 ∈ NW := nw_in 192 (by rfl) rfl
set_option maxRecDepth 20000 in
theorem fl_X1_24 : Cond.fieldLink RX1 24 (TX1 2).1 (TX1 2).2.1 (TX1 2).2.2.1 ∈ GW := gw_in 193 (by rfl) rfl
set_option maxRecDepth 20000 in
theorem fl_X7_148 : Cond.fieldLinkNest RX7 148 (TX1 2).1 (TX1 2).2.1 (TX1 2).2.2.1 RX7 ∈ NW := nw_in 194 (by rfl) rfl
set_option maxRecDepth 20000 in
theorem fl_X1_27 : Cond.fieldLink RX1 27 (TX1 3).1 (TX1 3).2.1 (TX1 3).2.2.1 ∈ GW := gw_in 195 (by rfl) rfl
set_option maxRecDepth 20000 in
theorem fl_X7_191 : Cond.fieldLinkNest RX7 191 (TX1 3).1 (TX1 3).2.1 (TX1 3).2.2.1 RX7 ∈ NW := nw_in 196 (by rfl) rfl
set_option maxRecDepth 20000 in
theorem fl_X1_30 : Cond.fieldLink RX1 30 (TX1 4).1 (TX1 4).2.1 (TX1 4).2.2.1 ∈ GW := gw_in 197 (by rfl) rfl
set_option maxRecDepth 20000 in
theorem fl_X7_167 : Cond.fieldLinkNest RX7 167 (TX1 4).1 (TX1 4).2.1 (TX1 4).2.2.1 RX7 ∈ NW := nw_in 198 (by rfl) rfl
set_option maxRecDepth 20000 in
theorem fl_X7_12 : Cond.fieldLink RX7 12 (TX7 0).1 (TX7 0).2.1 (TX7 0).2.2.1 ∈ GW := gw_in 210 (by rfl) rfl
set_option maxRecDepth 20000 in
theorem fl_X7_19 : Cond.fieldLink RX7 19 (TX7 1).1 (TX7 1).2.1 (TX7 1).2.2.1 ∈ GW := gw_in 211 (by rfl) rfl
set_option maxRecDepth 20000 in
theorem fl_X7_26 : Cond.fieldLink RX7 26 (TX7 2).1 (TX7 2).2.1 (TX7 2).2.2.1 ∈ GW := gw_in 212 (by rfl) rfl
set_option maxRecDepth 20000 in
theorem fl_X7_35 : Cond.fieldLink RX7 35 (TX7 3).1 (TX7 3).2.1 (TX7 3).2.2.1 ∈ GW := gw_in 213 (by rfl) rfl
set_option maxRecDepth 20000 in
theorem fl_X7_44 : Cond.fieldLink RX7 44 (TX7 4).1 (TX7 4).2.1 (TX7 4).2.2.1 ∈ GW := gw_in 214 (by rfl) rfl
set_option maxRecDepth 20000 in
theorem fl_X7_51 : Cond.fieldLink RX7 51 (TX7 5).1 (TX7 5).2.1 (TX7 5).2.2.1 ∈ GW := gw_in 215 (by rfl) rfl
set_option maxRecDepth 20000 in
theorem fl_X7_58 : Cond.fieldLink RX7 58 (TX7 6).1 (TX7 6).2.1 (TX7 6).2.2.1 ∈ GW := gw_in 216 (by rfl) rfl
set_option maxRecDepth 20000 in
theorem fs_X4_41 : Cond.fieldLink RX4 41 RX4 "BELOW" "[I" ∈ GW := gw_in 424 (by rfl) rfl
set_option maxRecDepth 20000 in
theorem fs_X4_44 : Cond.fieldLink RX4 44 RX4 "SIZES" "[I" ∈ GW := gw_in 426 (by rfl) rfl
set_option maxRecDepth 20000 in
theorem fl_X8_42 : Cond.fieldLink RX8 42 (TX8 0).1 (TX8 0).2.1 (TX8 0).2.2.1 ∈ GW := gw_in 639 (by rfl) rfl
set_option maxRecDepth 20000 in
theorem fl_X8_7 : Cond.fieldLink RX8 7 (TX8 1).1 (TX8 1).2.1 (TX8 1).2.2.1 ∈ GW := gw_in 640 (by rfl) rfl
set_option maxRecDepth 20000 in
theorem fl_X8_46 : Cond.fieldLink RX8 46 (TX8 2).1 (TX8 2).2.1 (TX8 2).2.2.1 ∈ GW := gw_in 641 (by rfl) rfl
set_option maxRecDepth 20000 in
theorem fl_X8_13 : Cond.fieldLink RX8 13 (TX8 3).1 (TX8 3).2.1 (TX8 3).2.2.1 ∈ GW := gw_in 642 (by rfl) rfl
set_option maxRecDepth 20000 in
theorem fl_X8_116 : Cond.fieldLink RX8 116 (TX8 4).1 (TX8 4).2.1 (TX8 4).2.2.1 ∈ GW := gw_in 643 (by rfl) rfl
set_option maxRecDepth 20000 in
theorem fl_X8_119 : Cond.fieldLink RX8 119 (TX8 5).1 (TX8 5).2.1 (TX8 5).2.2.1 ∈ GW := gw_in 644 (by rfl) rfl
set_option maxRecDepth 20000 in
theorem fl_X8_17 : Cond.fieldLink RX8 17 (TX8 6).1 (TX8 6).2.1 (TX8 6).2.2.1 ∈ GW := gw_in 645 (by rfl) rfl
set_option maxRecDepth 20000 in
theorem fl_X8_129 : Cond.fieldLink RX8 129 (TX8 7).1 (TX8 7).2.1 (TX8 7).2.2.1 ∈ GW := gw_in 646 (by rfl) rfl
set_option maxRecDepth 20000 in
theorem fl_X8_132 : Cond.fieldLink RX8 132 (TX8 8).1 (TX8 8).2.1 (TX8 8).2.2.1 ∈ GW := gw_in 647 (by rfl) rfl
set_option maxRecDepth 20000 in
theorem fl_X8_20 : Cond.fieldLink RX8 20 (TX8 9).1 (TX8 9).2.1 (TX8 9).2.2.1 ∈ GW := gw_in 648 (by rfl) rfl
set_option maxRecDepth 20000 in
theorem fl_X8_135 : Cond.fieldLink RX8 135 (TX8 10).1 (TX8 10).2.1 (TX8 10).2.2.1 ∈ GW := gw_in 649 (by rfl) rfl
set_option maxRecDepth 20000 in
theorem fl_X8_138 : Cond.fieldLink RX8 138 (TX8 11).1 (TX8 11).2.1 (TX8 11).2.2.1 ∈ GW := gw_in 650 (by rfl) rfl
set_option maxRecDepth 20000 in
theorem fl_X8_23 : Cond.fieldLink RX8 23 (TX8 12).1 (TX8 12).2.1 (TX8 12).2.2.1 ∈ GW := gw_in 651 (by rfl) rfl
set_option maxRecDepth 20000 in
theorem fl_X8_26 : Cond.fieldLink RX8 26 (TX8 13).1 (TX8 13).2.1 (TX8 13).2.2.1 ∈ GW := gw_in 652 (by rfl) rfl
set_option maxRecDepth 20000 in
theorem fl_X8_74 : Cond.fieldLink RX8 74 (TX8 14).1 (TX8 14).2.1 (TX8 14).2.2.1 ∈ GW := gw_in 653 (by rfl) rfl
set_option maxRecDepth 20000 in
theorem fl_X8_29 : Cond.fieldLink RX8 29 (TX8 15).1 (TX8 15).2.1 (TX8 15).2.2.1 ∈ GW := gw_in 654 (by rfl) rfl
set_option maxRecDepth 20000 in
theorem fl_X8_32 : Cond.fieldLink RX8 32 (TX8 16).1 (TX8 16).2.1 (TX8 16).2.2.1 ∈ GW := gw_in 655 (by rfl) rfl
set_option maxRecDepth 20000 in
theorem fl_X8_84 : Cond.fieldLink RX8 84 (TX8 17).1 (TX8 17).2.1 (TX8 17).2.2.1 ∈ GW := gw_in 656 (by rfl) rfl
set_option maxRecDepth 20000 in
theorem fl_X8_35 : Cond.fieldLink RX8 35 (TX8 18).1 (TX8 18).2.1 (TX8 18).2.2.1 ∈ GW := gw_in 657 (by rfl) rfl
set_option maxRecDepth 20000 in
theorem cw_X7_init : Cond.code yX7_init cX7_init 1 none ∈ GW := gw_in 53 (by rfl) rfl
set_option maxRecDepth 20000 in
theorem gl_L_68 : Cond.methodLink RL 68 yX7_init ∈ GW := gw_in 51 (by rfl) rfl
set_option maxRecDepth 20000 in
theorem gi_L_68 : Cond.instanceMethod yX7_init ∈ GW := gw_in 52 (by rfl) rfl
set_option maxRecDepth 20000 in
theorem cw_X3_init : Cond.code yX3_init cX3_init 3 none ∈ GW := gw_in 61 (by rfl) rfl
set_option maxRecDepth 20000 in
theorem gl_X7_11 : Cond.methodLink RX7 11 yX3_init ∈ GW := gw_in 59 (by rfl) rfl
set_option maxRecDepth 20000 in
theorem gi_X7_11 : Cond.instanceMethod yX3_init ∈ GW := gw_in 60 (by rfl) rfl
set_option maxRecDepth 20000 in
theorem cw_X5_init : Cond.code yX5_init cX5_init 1 none ∈ GW := gw_in 75 (by rfl) rfl
set_option maxRecDepth 20000 in
theorem gl_X7_18 : Cond.methodLink RX7 18 yX5_init ∈ GW := gw_in 73 (by rfl) rfl
set_option maxRecDepth 20000 in
theorem gi_X7_18 : Cond.instanceMethod yX5_init ∈ GW := gw_in 74 (by rfl) rfl
set_option maxRecDepth 20000 in
theorem cw_X4_init : Cond.code yX4_init cX4_init 1 none ∈ GW := gw_in 90 (by rfl) rfl
set_option maxRecDepth 20000 in
theorem gl_X7_25 : Cond.methodLink RX7 25 yX4_init ∈ GW := gw_in 88 (by rfl) rfl
set_option maxRecDepth 20000 in
theorem gi_X7_25 : Cond.instanceMethod yX4_init ∈ GW := gw_in 89 (by rfl) rfl
set_option maxRecDepth 20000 in
theorem cw_X2_init : Cond.code yX2_init cX2_init 2 none ∈ GW := gw_in 108 (by rfl) rfl
set_option maxRecDepth 20000 in
theorem gl_X7_32 : Cond.methodLink RX7 32 yX2_init ∈ GW := gw_in 106 (by rfl) rfl
set_option maxRecDepth 20000 in
theorem gi_X7_32 : Cond.instanceMethod yX2_init ∈ GW := gw_in 107 (by rfl) rfl
set_option maxRecDepth 20000 in
theorem cw_X6_init : Cond.code yX6_init cX6_init 3 none ∈ GW := gw_in 143 (by rfl) rfl
set_option maxRecDepth 20000 in
theorem gl_X7_41 : Cond.methodLink RX7 41 yX6_init ∈ GW := gw_in 141 (by rfl) rfl
set_option maxRecDepth 20000 in
theorem gi_X7_41 : Cond.instanceMethod yX6_init ∈ GW := gw_in 142 (by rfl) rfl
set_option maxRecDepth 20000 in
theorem cw_J7_fill_53178 : Cond.code yJ7_fill_53178 cJ7_fill_53178 4 none ∈ GW := gw_in 147 (by rfl) rfl
set_option maxRecDepth 20000 in
theorem gm_X6_23 : GoodIn GW (va_wsS RX6 23 yJ7_fill_53178 (gws yJ7_fill_53178 cJ7_fill_53178 4 none)) := good_S (gw_in 145 (by rfl) rfl) (gw_in 146 (by rfl) rfl) (gw_in 36 (by rfl) rfl) cw_J7_fill_53178
set_option maxRecDepth 20000 in
theorem cw_X0_init : Cond.code yX0_init cX0_init 1 none ∈ GW := gw_in 162 (by rfl) rfl
set_option maxRecDepth 20000 in
theorem gl_X7_50 : Cond.methodLink RX7 50 yX0_init ∈ GW := gw_in 160 (by rfl) rfl
set_option maxRecDepth 20000 in
theorem gi_X7_50 : Cond.instanceMethod yX0_init ∈ GW := gw_in 161 (by rfl) rfl
set_option maxRecDepth 20000 in
theorem cw_X1_init : Cond.code yX1_init cX1_init 2 none ∈ GW := gw_in 185 (by rfl) rfl
set_option maxRecDepth 20000 in
theorem gl_X7_57 : Cond.methodLink RX7 57 yX1_init ∈ GW := gw_in 183 (by rfl) rfl
set_option maxRecDepth 20000 in
theorem gi_X7_57 : Cond.instanceMethod yX1_init ∈ GW := gw_in 184 (by rfl) rfl
set_option maxRecDepth 20000 in
theorem gl_X1_11 : Cond.methodLink RX1 11 yX2_init ∈ GW := gw_in 188 (by rfl) rfl
set_option maxRecDepth 20000 in
theorem gi_X1_11 : Cond.instanceMethod yX2_init ∈ GW := gw_in 107 (by rfl) rfl
set_option maxRecDepth 20000 in
theorem cw_X7_product : Cond.code yX7_product cX7_product 3 (some .int) ∈ GW := gw_in 235 (by rfl) rfl
set_option maxRecDepth 20000 in
theorem gm_L_124 : GoodIn GW (wsV RL 124 RX7 yX7_product (gws yX7_product cX7_product 3 (some .int))) := good_V (gw_in 232 (by rfl) rfl) (gw_in 233 (by rfl) rfl) (gw_in 234 (by rfl) rfl) (gw_in 30 (by rfl) rfl) cw_X7_product
set_option maxRecDepth 20000 in
theorem cw_X3_times : Cond.code yX3_times cX3_times 3 (some .int) ∈ GW := gw_in 239 (by rfl) rfl
set_option maxRecDepth 20000 in
theorem gm_X7_164 : GoodIn GW (wsV RX7 164 RX3 yX3_times (gws yX3_times cX3_times 3 (some .int))) := good_V (gw_in 236 (by rfl) rfl) (gw_in 237 (by rfl) rfl) (gw_in 238 (by rfl) rfl) (gw_in 31 (by rfl) rfl) cw_X3_times
-- with a table: L_feed
set_option maxRecDepth 20000 in
theorem cw_X7_feed : Cond.code yX7_feed cX7_feed 6 (some .int) ∈ GW := gw_in 247 (by rfl) rfl
set_option maxRecDepth 20000 in
theorem gm_L_7 : GoodIn GW (wsV RL 7 RX7 yX7_feed (gws yX7_feed cX7_feed 6 (some .int))) := good_V (gw_in 244 (by rfl) rfl) (gw_in 245 (by rfl) rfl) (gw_in 246 (by rfl) rfl) (gw_in 30 (by rfl) rfl) cw_X7_feed
set_option maxRecDepth 20000 in
theorem cw_X5_hasRoom : Cond.code yX5_hasRoom cX5_hasRoom 2 (some .boolean) ∈ GW := gw_in 251 (by rfl) rfl
set_option maxRecDepth 20000 in
theorem gm_X7_62 : GoodIn GW (wsV RX7 62 RX5 yX5_hasRoom (gws yX5_hasRoom cX5_hasRoom 2 (some .boolean))) := good_V (gw_in 248 (by rfl) rfl) (gw_in 249 (by rfl) rfl) (gw_in 250 (by rfl) rfl) (gw_in 32 (by rfl) rfl) cw_X5_hasRoom
set_option maxRecDepth 20000 in
theorem cw_X5_append : Cond.code yX5_append cX5_append 3 none ∈ GW := gw_in 319 (by rfl) rfl
set_option maxRecDepth 20000 in
theorem gm_X7_69 : GoodIn GW (wsV RX7 69 RX5 yX5_append (gws yX5_append cX5_append 3 none)) := good_V (gw_in 316 (by rfl) rfl) (gw_in 317 (by rfl) rfl) (gw_in 318 (by rfl) rfl) (gw_in 32 (by rfl) rfl) cw_X5_append
-- with a table: L_end
set_option maxRecDepth 20000 in
theorem cw_X7_end : Cond.code yX7_end cX7_end 2 none ∈ GW := gw_in 327 (by rfl) rfl
set_option maxRecDepth 20000 in
theorem gm_L_15 : GoodIn GW (wsV RL 15 RX7 yX7_end (gws yX7_end cX7_end 2 none)) := good_V (gw_in 324 (by rfl) rfl) (gw_in 325 (by rfl) rfl) (gw_in 326 (by rfl) rfl) (gw_in 30 (by rfl) rfl) cw_X7_end
-- with a table: L_turn
set_option maxRecDepth 20000 in
theorem cw_X7_turn : Cond.code yX7_turn cX7_turn 2 (some .int) ∈ GW := gw_in 349 (by rfl) rfl
set_option maxRecDepth 20000 in
theorem gm_L_21 : GoodIn GW (wsV RL 21 RX7 yX7_turn (gws yX7_turn cX7_turn 2 (some .int))) := good_V (gw_in 346 (by rfl) rfl) (gw_in 347 (by rfl) rfl) (gw_in 348 (by rfl) rfl) (gw_in 30 (by rfl) rfl) cw_X7_turn
set_option maxRecDepth 20000 in
theorem cw_X7_isSymbolCount : Cond.code yX7_isSymbolCount cX7_isSymbolCount 1 (some .boolean) ∈ GW := gw_in 352 (by rfl) rfl
set_option maxRecDepth 20000 in
theorem gm_X7_80 : GoodIn GW (va_wsS RX7 80 yX7_isSymbolCount (gws yX7_isSymbolCount cX7_isSymbolCount 1 (some .boolean))) := good_S (gw_in 350 (by rfl) rfl) (gw_in 351 (by rfl) rfl) (gw_in 30 (by rfl) rfl) cw_X7_isSymbolCount
set_option maxRecDepth 20000 in
theorem cw_X6_of : Cond.code yX6_of cX6_of 3 (some .int) ∈ GW := gw_in 356 (by rfl) rfl
set_option maxRecDepth 20000 in
theorem gm_X7_83 : GoodIn GW (wsV RX7 83 RX6 yX6_of (gws yX6_of cX6_of 3 (some .int))) := good_V (gw_in 353 (by rfl) rfl) (gw_in 354 (by rfl) rfl) (gw_in 355 (by rfl) rfl) (gw_in 35 (by rfl) rfl) cw_X6_of
set_option maxRecDepth 20000 in
theorem cw_X6_fillsRank : Cond.code yX6_fillsRank cX6_fillsRank 4 (some .boolean) ∈ GW := gw_in 360 (by rfl) rfl
set_option maxRecDepth 20000 in
theorem gm_X6_29 : GoodIn GW (wsV RX6 29 RX6 yX6_fillsRank (gws yX6_fillsRank cX6_fillsRank 4 (some .boolean))) := good_V (gw_in 357 (by rfl) rfl) (gw_in 359 (by rfl) rfl) (gw_in 1 (by rfl) rfl) (gw_in 35 (by rfl) rfl) cw_X6_fillsRank
set_option maxRecDepth 20000 in
theorem cw_X2_start : Cond.code yX2_start cX2_start 4 none ∈ GW := gw_in 364 (by rfl) rfl
set_option maxRecDepth 20000 in
theorem gm_X6_33 : GoodIn GW (wsV RX6 33 RX2 yX2_start (gws yX2_start cX2_start 4 none)) := good_V (gw_in 361 (by rfl) rfl) (gw_in 362 (by rfl) rfl) (gw_in 363 (by rfl) rfl) (gw_in 34 (by rfl) rfl) cw_X2_start
set_option maxRecDepth 20000 in
theorem cw_X2_setSumLine : Cond.code yX2_setSumLine cX2_setSumLine 5 none ∈ GW := gw_in 368 (by rfl) rfl
set_option maxRecDepth 20000 in
theorem gm_X2_38 : GoodIn GW (wsV RX2 38 RX2 yX2_setSumLine (gws yX2_setSumLine cX2_setSumLine 5 none)) := good_V (gw_in 365 (by rfl) rfl) (gw_in 367 (by rfl) rfl) (gw_in 2 (by rfl) rfl) (gw_in 34 (by rfl) rfl) cw_X2_setSumLine
set_option maxRecDepth 20000 in
theorem gm_X2_49 : GoodIn GW (va_wsS RX2 49 yJ7_fill_53178 (gws yJ7_fill_53178 cJ7_fill_53178 4 none)) := good_S (gw_in 369 (by rfl) rfl) (gw_in 146 (by rfl) rfl) (gw_in 36 (by rfl) rfl) cw_J7_fill_53178
set_option maxRecDepth 20000 in
theorem cw_X2_learn : Cond.code yX2_learn cX2_learn 2 (some .int) ∈ GW := gw_in 373 (by rfl) rfl
set_option maxRecDepth 20000 in
theorem gm_X2_42 : GoodIn GW (wsV RX2 42 RX2 yX2_learn (gws yX2_learn cX2_learn 2 (some .int))) := good_V (gw_in 370 (by rfl) rfl) (gw_in 371 (by rfl) rfl) (gw_in 372 (by rfl) rfl) (gw_in 34 (by rfl) rfl) cw_X2_learn
set_option maxRecDepth 20000 in
theorem cw_X2_reduceLine : Cond.code yX2_reduceLine cX2_reduceLine 3 none ∈ GW := gw_in 377 (by rfl) rfl
set_option maxRecDepth 20000 in
theorem gm_X2_63 : GoodIn GW (wsV RX2 63 RX2 yX2_reduceLine (gws yX2_reduceLine cX2_reduceLine 3 none)) := good_V (gw_in 374 (by rfl) rfl) (gw_in 376 (by rfl) rfl) (gw_in 3 (by rfl) rfl) (gw_in 34 (by rfl) rfl) cw_X2_reduceLine
set_option maxRecDepth 20000 in
theorem cw_X3_addTimes : Cond.code yX3_addTimes cX3_addTimes 8 none ∈ GW := gw_in 381 (by rfl) rfl
set_option maxRecDepth 20000 in
theorem gm_X2_87 : GoodIn GW (wsV RX2 87 RX3 yX3_addTimes (gws yX3_addTimes cX3_addTimes 8 none)) := good_V (gw_in 378 (by rfl) rfl) (gw_in 379 (by rfl) rfl) (gw_in 380 (by rfl) rfl) (gw_in 31 (by rfl) rfl) cw_X3_addTimes
set_option maxRecDepth 20000 in
theorem cw_X2_lineLead : Cond.code yX2_lineLead cX2_lineLead 2 (some .int) ∈ GW := gw_in 385 (by rfl) rfl
set_option maxRecDepth 20000 in
theorem gm_X2_66 : GoodIn GW (wsV RX2 66 RX2 yX2_lineLead (gws yX2_lineLead cX2_lineLead 2 (some .int))) := good_V (gw_in 382 (by rfl) rfl) (gw_in 384 (by rfl) rfl) (gw_in 4 (by rfl) rfl) (gw_in 34 (by rfl) rfl) cw_X2_lineLead
set_option maxRecDepth 20000 in
theorem cw_X2_hasValueLeft : Cond.code yX2_hasValueLeft cX2_hasValueLeft 2 (some .boolean) ∈ GW := gw_in 389 (by rfl) rfl
set_option maxRecDepth 20000 in
theorem gm_X2_69 : GoodIn GW (wsV RX2 69 RX2 yX2_hasValueLeft (gws yX2_hasValueLeft cX2_hasValueLeft 2 (some .boolean))) := good_V (gw_in 386 (by rfl) rfl) (gw_in 388 (by rfl) rfl) (gw_in 5 (by rfl) rfl) (gw_in 34 (by rfl) rfl) cw_X2_hasValueLeft
set_option maxRecDepth 20000 in
theorem cw_X2_keepLine : Cond.code yX2_keepLine cX2_keepLine 6 none ∈ GW := gw_in 393 (by rfl) rfl
set_option maxRecDepth 20000 in
theorem gm_X2_73 : GoodIn GW (wsV RX2 73 RX2 yX2_keepLine (gws yX2_keepLine cX2_keepLine 6 none)) := good_V (gw_in 390 (by rfl) rfl) (gw_in 392 (by rfl) rfl) (gw_in 6 (by rfl) rfl) (gw_in 34 (by rfl) rfl) cw_X2_keepLine
set_option maxRecDepth 20000 in
theorem cw_X3_inverse : Cond.code yX3_inverse cX3_inverse 2 (some .int) ∈ GW := gw_in 397 (by rfl) rfl
set_option maxRecDepth 20000 in
theorem gm_X2_91 : GoodIn GW (wsV RX2 91 RX3 yX3_inverse (gws yX3_inverse cX3_inverse 2 (some .int))) := good_V (gw_in 394 (by rfl) rfl) (gw_in 395 (by rfl) rfl) (gw_in 396 (by rfl) rfl) (gw_in 31 (by rfl) rfl) cw_X3_inverse
set_option maxRecDepth 20000 in
theorem gm_X2_94 : GoodIn GW (wsV RX2 94 RX3 yX3_times (gws yX3_times cX3_times 3 (some .int))) := good_V (gw_in 398 (by rfl) rfl) (gw_in 237 (by rfl) rfl) (gw_in 238 (by rfl) rfl) (gw_in 31 (by rfl) rfl) cw_X3_times
set_option maxRecDepth 20000 in
theorem cw_X2_setPowerLine : Cond.code yX2_setPowerLine cX2_setPowerLine 4 none ∈ GW := gw_in 402 (by rfl) rfl
set_option maxRecDepth 20000 in
theorem gm_X2_46 : GoodIn GW (wsV RX2 46 RX2 yX2_setPowerLine (gws yX2_setPowerLine cX2_setPowerLine 4 none)) := good_V (gw_in 399 (by rfl) rfl) (gw_in 401 (by rfl) rfl) (gw_in 7 (by rfl) rfl) (gw_in 34 (by rfl) rfl) cw_X2_setPowerLine
set_option maxRecDepth 20000 in
theorem cw_X3_powerOfTwo : Cond.code yX3_powerOfTwo cX3_powerOfTwo 2 (some .int) ∈ GW := gw_in 406 (by rfl) rfl
set_option maxRecDepth 20000 in
theorem gm_X2_81 : GoodIn GW (wsV RX2 81 RX3 yX3_powerOfTwo (gws yX3_powerOfTwo cX3_powerOfTwo 2 (some .int))) := good_V (gw_in 403 (by rfl) rfl) (gw_in 404 (by rfl) rfl) (gw_in 405 (by rfl) rfl) (gw_in 31 (by rfl) rfl) cw_X3_powerOfTwo
set_option maxRecDepth 20000 in
theorem cw_X4_find : Cond.code yX4_find cX4_find 12 none ∈ GW := gw_in 410 (by rfl) rfl
set_option maxRecDepth 20000 in
theorem gm_X6_39 : GoodIn GW (wsV RX6 39 RX4 yX4_find (gws yX4_find cX4_find 12 none)) := good_V (gw_in 407 (by rfl) rfl) (gw_in 408 (by rfl) rfl) (gw_in 409 (by rfl) rfl) (gw_in 33 (by rfl) rfl) cw_X4_find
set_option maxRecDepth 20000 in
theorem cw_X4_chance : Cond.code yX4_chance cX4_chance 4 (some .int) ∈ GW := gw_in 414 (by rfl) rfl
set_option maxRecDepth 20000 in
theorem gm_X4_21 : GoodIn GW (va_wsS RX4 21 yX4_chance (gws yX4_chance cX4_chance 4 (some .int))) := good_S (gw_in 412 (by rfl) rfl) (gw_in 413 (by rfl) rfl) (gw_in 33 (by rfl) rfl) cw_X4_chance
set_option maxRecDepth 20000 in
theorem cw_X4_mix : Cond.code yX4_mix cX4_mix 5 (some .long) ∈ GW := gw_in 417 (by rfl) rfl
set_option maxRecDepth 20000 in
theorem gm_X4_47 : GoodIn GW (va_wsS RX4 47 yX4_mix (gws yX4_mix cX4_mix 5 (some .long))) := good_S (gw_in 415 (by rfl) rfl) (gw_in 416 (by rfl) rfl) (gw_in 33 (by rfl) rfl) cw_X4_mix
set_option maxRecDepth 20000 in
theorem cw_X4_sizeFor : Cond.code yX4_sizeFor cX4_sizeFor 2 (some .int) ∈ GW := gw_in 423 (by rfl) rfl
set_option maxRecDepth 20000 in
theorem gm_X4_25 : GoodIn GW (va_wsS RX4 25 yX4_sizeFor (gws yX4_sizeFor cX4_sizeFor 2 (some .int))) := good_S (gw_in 421 (by rfl) rfl) (gw_in 422 (by rfl) rfl) (gw_in 33 (by rfl) rfl) cw_X4_sizeFor
set_option maxRecDepth 20000 in
theorem cw_J9_min_7cf53 : Cond.code yJ9_min_7cf53 cJ9_min_7cf53 2 (some .int) ∈ GW := gw_in 430 (by rfl) rfl
set_option maxRecDepth 20000 in
theorem gm_X4_29 : GoodIn GW (va_wsS RX4 29 yJ9_min_7cf53 (gws yJ9_min_7cf53 cJ9_min_7cf53 2 (some .int))) := good_S (gw_in 428 (by rfl) rfl) (gw_in 429 (by rfl) rfl) (gw_in 45 (by rfl) rfl) cw_J9_min_7cf53
set_option maxRecDepth 20000 in
theorem cw_X4_leastPrimeFrom : Cond.code yX4_leastPrimeFrom cX4_leastPrimeFrom 2 (some .int) ∈ GW := gw_in 433 (by rfl) rfl
set_option maxRecDepth 20000 in
theorem gm_X4_35 : GoodIn GW (va_wsS RX4 35 yX4_leastPrimeFrom (gws yX4_leastPrimeFrom cX4_leastPrimeFrom 2 (some .int))) := good_S (gw_in 431 (by rfl) rfl) (gw_in 432 (by rfl) rfl) (gw_in 33 (by rfl) rfl) cw_X4_leastPrimeFrom
set_option maxRecDepth 20000 in
theorem cw_X4_isPrime : Cond.code yX4_isPrime cX4_isPrime 2 (some .boolean) ∈ GW := gw_in 436 (by rfl) rfl
set_option maxRecDepth 20000 in
theorem gm_X4_57 : GoodIn GW (va_wsS RX4 57 yX4_isPrime (gws yX4_isPrime cX4_isPrime 2 (some .boolean))) := good_S (gw_in 434 (by rfl) rfl) (gw_in 435 (by rfl) rfl) (gw_in 33 (by rfl) rfl) cw_X4_isPrime
set_option maxRecDepth 20000 in
theorem cw_X2_setLine : Cond.code yX2_setLine cX2_setLine 3 none ∈ GW := gw_in 440 (by rfl) rfl
set_option maxRecDepth 20000 in
theorem gm_X6_45 : GoodIn GW (wsV RX6 45 RX2 yX2_setLine (gws yX2_setLine cX2_setLine 3 none)) := good_V (gw_in 437 (by rfl) rfl) (gw_in 438 (by rfl) rfl) (gw_in 439 (by rfl) rfl) (gw_in 34 (by rfl) rfl) cw_X2_setLine
set_option maxRecDepth 20000 in
theorem gm_X6_49 : GoodIn GW (wsV RX6 49 RX2 yX2_learn (gws yX2_learn cX2_learn 2 (some .int))) := good_V (gw_in 441 (by rfl) rfl) (gw_in 371 (by rfl) rfl) (gw_in 372 (by rfl) rfl) (gw_in 34 (by rfl) rfl) cw_X2_learn
-- with a table: L_block
set_option maxRecDepth 20000 in
theorem cw_X7_block : Cond.code yX7_block cX7_block 4 none ∈ GW := gw_in 448 (by rfl) rfl
set_option maxRecDepth 20000 in
theorem gm_L_25 : GoodIn GW (wsV RL 25 RX7 yX7_block (gws yX7_block cX7_block 4 none)) := good_V (gw_in 445 (by rfl) rfl) (gw_in 446 (by rfl) rfl) (gw_in 447 (by rfl) rfl) (gw_in 30 (by rfl) rfl) cw_X7_block
set_option maxRecDepth 20000 in
theorem cw_X7_isByteCount : Cond.code yX7_isByteCount cX7_isByteCount 1 (some .boolean) ∈ GW := gw_in 451 (by rfl) rfl
set_option maxRecDepth 20000 in
theorem gm_X7_87 : GoodIn GW (va_wsS RX7 87 yX7_isByteCount (gws yX7_isByteCount cX7_isByteCount 1 (some .boolean))) := good_S (gw_in 449 (by rfl) rfl) (gw_in 450 (by rfl) rfl) (gw_in 30 (by rfl) rfl) cw_X7_isByteCount
set_option maxRecDepth 20000 in
theorem cw_X7_solveTape : Cond.code yX7_solveTape cX7_solveTape 6 none ∈ GW := gw_in 455 (by rfl) rfl
set_option maxRecDepth 20000 in
theorem gm_X7_90 : GoodIn GW (wsV RX7 90 RX7 yX7_solveTape (gws yX7_solveTape cX7_solveTape 6 none)) := good_V (gw_in 452 (by rfl) rfl) (gw_in 454 (by rfl) rfl) (gw_in 8 (by rfl) rfl) (gw_in 30 (by rfl) rfl) cw_X7_solveTape
set_option maxRecDepth 20000 in
theorem gm_X7_173 : GoodIn GW (wsV RX7 173 RX2 yX2_start (gws yX2_start cX2_start 4 none)) := good_V (gw_in 456 (by rfl) rfl) (gw_in 362 (by rfl) rfl) (gw_in 363 (by rfl) rfl) (gw_in 34 (by rfl) rfl) cw_X2_start
set_option maxRecDepth 20000 in
theorem gm_X7_116 : GoodIn GW (wsV RX7 116 RX4 yX4_find (gws yX4_find cX4_find 12 none)) := good_V (gw_in 457 (by rfl) rfl) (gw_in 408 (by rfl) rfl) (gw_in 409 (by rfl) rfl) (gw_in 33 (by rfl) rfl) cw_X4_find
set_option maxRecDepth 20000 in
theorem gm_X7_177 : GoodIn GW (wsV RX7 177 RX2 yX2_setLine (gws yX2_setLine cX2_setLine 3 none)) := good_V (gw_in 458 (by rfl) rfl) (gw_in 438 (by rfl) rfl) (gw_in 439 (by rfl) rfl) (gw_in 34 (by rfl) rfl) cw_X2_setLine
set_option maxRecDepth 20000 in
theorem cw_X2_setValue : Cond.code yX2_setValue cX2_setValue 3 none ∈ GW := gw_in 462 (by rfl) rfl
set_option maxRecDepth 20000 in
theorem gm_X7_185 : GoodIn GW (wsV RX7 185 RX2 yX2_setValue (gws yX2_setValue cX2_setValue 3 none)) := good_V (gw_in 459 (by rfl) rfl) (gw_in 460 (by rfl) rfl) (gw_in 461 (by rfl) rfl) (gw_in 34 (by rfl) rfl) cw_X2_setValue
set_option maxRecDepth 20000 in
theorem gm_X7_188 : GoodIn GW (wsV RX7 188 RX2 yX2_learn (gws yX2_learn cX2_learn 2 (some .int))) := good_V (gw_in 463 (by rfl) rfl) (gw_in 371 (by rfl) rfl) (gw_in 372 (by rfl) rfl) (gw_in 34 (by rfl) rfl) cw_X2_learn
set_option maxRecDepth 20000 in
theorem cw_X0_load : Cond.code yX0_load cX0_load 5 none ∈ GW := gw_in 467 (by rfl) rfl
set_option maxRecDepth 20000 in
theorem gm_X7_94 : GoodIn GW (wsV RX7 94 RX0 yX0_load (gws yX0_load cX0_load 5 none)) := good_V (gw_in 464 (by rfl) rfl) (gw_in 465 (by rfl) rfl) (gw_in 466 (by rfl) rfl) (gw_in 37 (by rfl) rfl) cw_X0_load
-- with a table: L_byteAt
set_option maxRecDepth 20000 in
theorem cw_X7_byteAt : Cond.code yX7_byteAt cX7_byteAt 3 (some .int) ∈ GW := gw_in 479 (by rfl) rfl
set_option maxRecDepth 20000 in
theorem gm_L_29 : GoodIn GW (wsV RL 29 RX7 yX7_byteAt (gws yX7_byteAt cX7_byteAt 3 (some .int))) := good_V (gw_in 476 (by rfl) rfl) (gw_in 477 (by rfl) rfl) (gw_in 478 (by rfl) rfl) (gw_in 30 (by rfl) rfl) cw_X7_byteAt
set_option maxRecDepth 20000 in
theorem cw_X7_isPacket : Cond.code yX7_isPacket cX7_isPacket 1 (some .boolean) ∈ GW := gw_in 497 (by rfl) rfl
set_option maxRecDepth 20000 in
theorem gm_X7_104 : GoodIn GW (va_wsS RX7 104 yX7_isPacket (gws yX7_isPacket cX7_isPacket 1 (some .boolean))) := good_S (gw_in 495 (by rfl) rfl) (gw_in 496 (by rfl) rfl) (gw_in 30 (by rfl) rfl) cw_X7_isPacket
set_option maxRecDepth 20000 in
theorem cw_X0_valueOf : Cond.code yX0_valueOf cX0_valueOf 5 (some .int) ∈ GW := gw_in 517 (by rfl) rfl
set_option maxRecDepth 20000 in
theorem gm_X7_119 : GoodIn GW (wsV RX7 119 RX0 yX0_valueOf (gws yX0_valueOf cX0_valueOf 5 (some .int))) := good_V (gw_in 514 (by rfl) rfl) (gw_in 515 (by rfl) rfl) (gw_in 516 (by rfl) rfl) (gw_in 37 (by rfl) rfl) cw_X0_valueOf
-- with a table: L_row
set_option maxRecDepth 20000 in
theorem cw_X7_row : Cond.code yX7_row cX7_row 4 (some .int) ∈ GW := gw_in 524 (by rfl) rfl
set_option maxRecDepth 20000 in
theorem gm_L_37 : GoodIn GW (wsV RL 37 RX7 yX7_row (gws yX7_row cX7_row 4 (some .int))) := good_V (gw_in 521 (by rfl) rfl) (gw_in 522 (by rfl) rfl) (gw_in 523 (by rfl) rfl) (gw_in 30 (by rfl) rfl) cw_X7_row
set_option maxRecDepth 20000 in
theorem cw_X4_greatest : Cond.code yX4_greatest cX4_greatest 3 (some .int) ∈ GW := gw_in 528 (by rfl) rfl
set_option maxRecDepth 20000 in
theorem gm_X7_123 : GoodIn GW (wsV RX7 123 RX4 yX4_greatest (gws yX4_greatest cX4_greatest 3 (some .int))) := good_V (gw_in 525 (by rfl) rfl) (gw_in 526 (by rfl) rfl) (gw_in 527 (by rfl) rfl) (gw_in 33 (by rfl) rfl) cw_X4_greatest
set_option maxRecDepth 20000 in
theorem cw_J9_max_7cf53 : Cond.code yJ9_max_7cf53 cJ9_max_7cf53 2 (some .int) ∈ GW := gw_in 531 (by rfl) rfl
set_option maxRecDepth 20000 in
theorem gm_X4_38 : GoodIn GW (va_wsS RX4 38 yJ9_max_7cf53 (gws yJ9_max_7cf53 cJ9_max_7cf53 2 (some .int))) := good_S (gw_in 529 (by rfl) rfl) (gw_in 530 (by rfl) rfl) (gw_in 45 (by rfl) rfl) cw_J9_max_7cf53
-- with a table: L_open
set_option maxRecDepth 20000 in
theorem cw_X7_open : Cond.code yX7_open cX7_open 3 none ∈ GW := gw_in 538 (by rfl) rfl
set_option maxRecDepth 20000 in
theorem gm_L_41 : GoodIn GW (wsV RL 41 RX7 yX7_open (gws yX7_open cX7_open 3 none)) := good_V (gw_in 535 (by rfl) rfl) (gw_in 536 (by rfl) rfl) (gw_in 537 (by rfl) rfl) (gw_in 30 (by rfl) rfl) cw_X7_open
set_option maxRecDepth 20000 in
theorem cw_X1_begin : Cond.code yX1_begin cX1_begin 4 none ∈ GW := gw_in 542 (by rfl) rfl
set_option maxRecDepth 20000 in
theorem gm_X7_130 : GoodIn GW (wsV RX7 130 RX1 yX1_begin (gws yX1_begin cX1_begin 4 none)) := good_V (gw_in 539 (by rfl) rfl) (gw_in 540 (by rfl) rfl) (gw_in 541 (by rfl) rfl) (gw_in 38 (by rfl) rfl) cw_X1_begin
set_option maxRecDepth 20000 in
theorem gm_X1_33 : GoodIn GW (wsV RX1 33 RX2 yX2_start (gws yX2_start cX2_start 4 none)) := good_V (gw_in 543 (by rfl) rfl) (gw_in 362 (by rfl) rfl) (gw_in 363 (by rfl) rfl) (gw_in 34 (by rfl) rfl) cw_X2_start
-- with a table: L_take
set_option maxRecDepth 20000 in
theorem cw_X7_take : Cond.code yX7_take cX7_take 3 (some .boolean) ∈ GW := gw_in 550 (by rfl) rfl
set_option maxRecDepth 20000 in
theorem gm_L_44 : GoodIn GW (wsV RL 44 RX7 yX7_take (gws yX7_take cX7_take 3 (some .boolean))) := good_V (gw_in 547 (by rfl) rfl) (gw_in 548 (by rfl) rfl) (gw_in 549 (by rfl) rfl) (gw_in 30 (by rfl) rfl) cw_X7_take
set_option maxRecDepth 20000 in
theorem cw_X7_blockFitsCatcher : Cond.code yX7_blockFitsCatcher cX7_blockFitsCatcher 1 (some .boolean) ∈ GW := gw_in 554 (by rfl) rfl
set_option maxRecDepth 20000 in
theorem gm_X7_133 : GoodIn GW (wsV RX7 133 RX7 yX7_blockFitsCatcher (gws yX7_blockFitsCatcher cX7_blockFitsCatcher 1 (some .boolean))) := good_V (gw_in 551 (by rfl) rfl) (gw_in 553 (by rfl) rfl) (gw_in 9 (by rfl) rfl) (gw_in 30 (by rfl) rfl) cw_X7_blockFitsCatcher
set_option maxRecDepth 20000 in
theorem cw_X7_catchFromBlock : Cond.code yX7_catchFromBlock cX7_catchFromBlock 3 (some .int) ∈ GW := gw_in 558 (by rfl) rfl
set_option maxRecDepth 20000 in
theorem gm_X7_137 : GoodIn GW (wsV RX7 137 RX7 yX7_catchFromBlock (gws yX7_catchFromBlock cX7_catchFromBlock 3 (some .int))) := good_V (gw_in 555 (by rfl) rfl) (gw_in 557 (by rfl) rfl) (gw_in 10 (by rfl) rfl) (gw_in 30 (by rfl) rfl) cw_X7_catchFromBlock
set_option maxRecDepth 20000 in
theorem cw_X1_catchLine : Cond.code yX1_catchLine cX1_catchLine 2 (some .int) ∈ GW := gw_in 562 (by rfl) rfl
set_option maxRecDepth 20000 in
theorem gm_X7_192 : GoodIn GW (wsV RX7 192 RX1 yX1_catchLine (gws yX1_catchLine cX1_catchLine 2 (some .int))) := good_V (gw_in 559 (by rfl) rfl) (gw_in 560 (by rfl) rfl) (gw_in 561 (by rfl) rfl) (gw_in 38 (by rfl) rfl) cw_X1_catchLine
set_option maxRecDepth 20000 in
theorem gm_X1_37 : GoodIn GW (wsV RX1 37 RX2 yX2_learn (gws yX2_learn cX2_learn 2 (some .int))) := good_V (gw_in 563 (by rfl) rfl) (gw_in 371 (by rfl) rfl) (gw_in 372 (by rfl) rfl) (gw_in 34 (by rfl) rfl) cw_X2_learn
-- with a table: L_takeAll
set_option maxRecDepth 20000 in
theorem cw_X7_takeAll : Cond.code yX7_takeAll cX7_takeAll 8 (some .int) ∈ GW := gw_in 570 (by rfl) rfl
set_option maxRecDepth 20000 in
theorem gm_L_48 : GoodIn GW (wsV RL 48 RX7 yX7_takeAll (gws yX7_takeAll cX7_takeAll 8 (some .int))) := good_V (gw_in 567 (by rfl) rfl) (gw_in 568 (by rfl) rfl) (gw_in 569 (by rfl) rfl) (gw_in 30 (by rfl) rfl) cw_X7_takeAll
set_option maxRecDepth 20000 in
theorem cw_J9_floorMod_7cf53 : Cond.code yJ9_floorMod_7cf53 cJ9_floorMod_7cf53 3 (some .int) ∈ GW := gw_in 573 (by rfl) rfl
set_option maxRecDepth 20000 in
theorem gm_X7_141 : GoodIn GW (va_wsS RX7 141 yJ9_floorMod_7cf53 (gws yJ9_floorMod_7cf53 cJ9_floorMod_7cf53 3 (some .int))) := good_S (gw_in 571 (by rfl) rfl) (gw_in 572 (by rfl) rfl) (gw_in 45 (by rfl) rfl) cw_J9_floorMod_7cf53
-- with a table: L_give
set_option maxRecDepth 20000 in
theorem cw_X7_give : Cond.code yX7_give cX7_give 3 (some .boolean) ∈ GW := gw_in 580 (by rfl) rfl
set_option maxRecDepth 20000 in
theorem gm_L_52 : GoodIn GW (wsV RL 52 RX7 yX7_give (gws yX7_give cX7_give 3 (some .boolean))) := good_V (gw_in 577 (by rfl) rfl) (gw_in 578 (by rfl) rfl) (gw_in 579 (by rfl) rfl) (gw_in 30 (by rfl) rfl) cw_X7_give
set_option maxRecDepth 20000 in
theorem cw_X7_catchFromTape : Cond.code yX7_catchFromTape cX7_catchFromTape 3 (some .int) ∈ GW := gw_in 584 (by rfl) rfl
set_option maxRecDepth 20000 in
theorem gm_X7_149 : GoodIn GW (wsV RX7 149 RX7 yX7_catchFromTape (gws yX7_catchFromTape cX7_catchFromTape 3 (some .int))) := good_V (gw_in 581 (by rfl) rfl) (gw_in 583 (by rfl) rfl) (gw_in 11 (by rfl) rfl) (gw_in 30 (by rfl) rfl) cw_X7_catchFromTape
-- with a table: L_rank
set_option maxRecDepth 20000 in
theorem cw_X7_rank : Cond.code yX7_rank cX7_rank 1 (some .int) ∈ GW := gw_in 591 (by rfl) rfl
set_option maxRecDepth 20000 in
theorem gm_L_55 : GoodIn GW (wsV RL 55 RX7 yX7_rank (gws yX7_rank cX7_rank 1 (some .int))) := good_V (gw_in 588 (by rfl) rfl) (gw_in 589 (by rfl) rfl) (gw_in 590 (by rfl) rfl) (gw_in 30 (by rfl) rfl) cw_X7_rank
-- with a table: L_follows
set_option maxRecDepth 20000 in
theorem cw_X7_follows : Cond.code yX7_follows cX7_follows 2 (some .boolean) ∈ GW := gw_in 598 (by rfl) rfl
set_option maxRecDepth 20000 in
theorem gm_L_59 : GoodIn GW (wsV RL 59 RX7 yX7_follows (gws yX7_follows cX7_follows 2 (some .boolean))) := good_V (gw_in 595 (by rfl) rfl) (gw_in 596 (by rfl) rfl) (gw_in 597 (by rfl) rfl) (gw_in 30 (by rfl) rfl) cw_X7_follows
set_option maxRecDepth 20000 in
theorem cw_X7_catcherDerives : Cond.code yX7_catcherDerives cX7_catcherDerives 2 (some .boolean) ∈ GW := gw_in 602 (by rfl) rfl
set_option maxRecDepth 20000 in
theorem gm_X7_158 : GoodIn GW (wsV RX7 158 RX7 yX7_catcherDerives (gws yX7_catcherDerives cX7_catcherDerives 2 (some .boolean))) := good_V (gw_in 599 (by rfl) rfl) (gw_in 601 (by rfl) rfl) (gw_in 12 (by rfl) rfl) (gw_in 30 (by rfl) rfl) cw_X7_catcherDerives
set_option maxRecDepth 20000 in
theorem cw_X2_derive : Cond.code yX2_derive cX2_derive 2 (some .boolean) ∈ GW := gw_in 606 (by rfl) rfl
set_option maxRecDepth 20000 in
theorem gm_X7_195 : GoodIn GW (wsV RX7 195 RX2 yX2_derive (gws yX2_derive cX2_derive 2 (some .boolean))) := good_V (gw_in 603 (by rfl) rfl) (gw_in 604 (by rfl) rfl) (gw_in 605 (by rfl) rfl) (gw_in 34 (by rfl) rfl) cw_X2_derive
set_option maxRecDepth 20000 in
theorem gm_X2_77 : GoodIn GW (wsV RX2 77 RX2 yX2_setLine (gws yX2_setLine cX2_setLine 3 none)) := good_V (gw_in 607 (by rfl) rfl) (gw_in 438 (by rfl) rfl) (gw_in 439 (by rfl) rfl) (gw_in 34 (by rfl) rfl) cw_X2_setLine
-- with a table: L_known
set_option maxRecDepth 20000 in
theorem cw_X7_known : Cond.code yX7_known cX7_known 3 (some .int) ∈ GW := gw_in 614 (by rfl) rfl
set_option maxRecDepth 20000 in
theorem gm_L_62 : GoodIn GW (wsV RL 62 RX7 yX7_known (gws yX7_known cX7_known 3 (some .int))) := good_V (gw_in 611 (by rfl) rfl) (gw_in 612 (by rfl) rfl) (gw_in 613 (by rfl) rfl) (gw_in 30 (by rfl) rfl) cw_X7_known
set_option maxRecDepth 20000 in
theorem cw_X2_derivedValue : Cond.code yX2_derivedValue cX2_derivedValue 2 (some .int) ∈ GW := gw_in 618 (by rfl) rfl
set_option maxRecDepth 20000 in
theorem gm_X7_161 : GoodIn GW (wsV RX7 161 RX2 yX2_derivedValue (gws yX2_derivedValue cX2_derivedValue 2 (some .int))) := good_V (gw_in 615 (by rfl) rfl) (gw_in 616 (by rfl) rfl) (gw_in 617 (by rfl) rfl) (gw_in 34 (by rfl) rfl) cw_X2_derivedValue
-- with a table: L_count
set_option maxRecDepth 20000 in
theorem cw_X7_count : Cond.code yX7_count cX7_count 2 (some .int) ∈ GW := gw_in 625 (by rfl) rfl
set_option maxRecDepth 20000 in
theorem gm_L_65 : GoodIn GW (wsV RL 65 RX7 yX7_count (gws yX7_count cX7_count 2 (some .int))) := good_V (gw_in 622 (by rfl) rfl) (gw_in 623 (by rfl) rfl) (gw_in 624 (by rfl) rfl) (gw_in 30 (by rfl) rfl) cw_X7_count
set_option maxRecDepth 20000 in
theorem cw_X7_symbolsThatFollow : Cond.code yX7_symbolsThatFollow cX7_symbolsThatFollow 3 (some .int) ∈ GW := gw_in 629 (by rfl) rfl
set_option maxRecDepth 20000 in
theorem gm_X7_170 : GoodIn GW (wsV RX7 170 RX7 yX7_symbolsThatFollow (gws yX7_symbolsThatFollow cX7_symbolsThatFollow 3 (some .int))) := good_V (gw_in 626 (by rfl) rfl) (gw_in 628 (by rfl) rfl) (gw_in 13 (by rfl) rfl) (gw_in 30 (by rfl) rfl) cw_X7_symbolsThatFollow
set_option maxRecDepth 20000 in
theorem cw_X8_init : Cond.code yX8_init cX8_init 3 none ∈ GW := gw_in 634 (by rfl) rfl
set_option maxRecDepth 20000 in
theorem gl_L_71 : Cond.methodLink RL 71 yX8_init ∈ GW := gw_in 632 (by rfl) rfl
set_option maxRecDepth 20000 in
theorem gi_L_71 : Cond.instanceMethod yX8_init ∈ GW := gw_in 633 (by rfl) rfl
set_option maxRecDepth 20000 in
theorem cw_X8_times : Cond.code yX8_times cX8_times 5 (some .int) ∈ GW := gw_in 638 (by rfl) rfl
set_option maxRecDepth 20000 in
theorem gm_X8_38 : GoodIn GW (va_wsS RX8 38 yX8_times (gws yX8_times cX8_times 5 (some .int))) := good_S (gw_in 636 (by rfl) rfl) (gw_in 637 (by rfl) rfl) (gw_in 39 (by rfl) rfl) cw_X8_times
set_option maxRecDepth 20000 in
theorem cw_X8_thrown : Cond.code yX8_thrown cX8_thrown 1 (some .int) ∈ GW := gw_in 701 (by rfl) rfl
set_option maxRecDepth 20000 in
theorem gm_L_78 : GoodIn GW (wsV RL 78 RX8 yX8_thrown (gws yX8_thrown cX8_thrown 1 (some .int))) := good_V (gw_in 698 (by rfl) rfl) (gw_in 699 (by rfl) rfl) (gw_in 700 (by rfl) rfl) (gw_in 39 (by rfl) rfl) cw_X8_thrown
set_option maxRecDepth 20000 in
theorem cw_X8_feed : Cond.code yX8_feed cX8_feed 8 (some .int) ∈ GW := gw_in 705 (by rfl) rfl
set_option maxRecDepth 20000 in
theorem gm_L_77 : GoodIn GW (wsV RL 77 RX8 yX8_feed (gws yX8_feed cX8_feed 8 (some .int))) := good_V (gw_in 702 (by rfl) rfl) (gw_in 703 (by rfl) rfl) (gw_in 704 (by rfl) rfl) (gw_in 39 (by rfl) rfl) cw_X8_feed
set_option maxRecDepth 20000 in
theorem cw_X8_end : Cond.code yX8_end cX8_end 2 none ∈ GW := gw_in 709 (by rfl) rfl
set_option maxRecDepth 20000 in
theorem gm_L_84 : GoodIn GW (wsV RL 84 RX8 yX8_end (gws yX8_end cX8_end 2 none)) := good_V (gw_in 706 (by rfl) rfl) (gw_in 707 (by rfl) rfl) (gw_in 708 (by rfl) rfl) (gw_in 39 (by rfl) rfl) cw_X8_end
set_option maxRecDepth 20000 in
theorem cw_X8_turn : Cond.code yX8_turn cX8_turn 2 (some .int) ∈ GW := gw_in 713 (by rfl) rfl
set_option maxRecDepth 20000 in
theorem gm_L_88 : GoodIn GW (wsV RL 88 RX8 yX8_turn (gws yX8_turn cX8_turn 2 (some .int))) := good_V (gw_in 710 (by rfl) rfl) (gw_in 711 (by rfl) rfl) (gw_in 712 (by rfl) rfl) (gw_in 39 (by rfl) rfl) cw_X8_turn
set_option maxRecDepth 20000 in
theorem cw_X8_isK : Cond.code yX8_isK cX8_isK 1 (some .boolean) ∈ GW := gw_in 716 (by rfl) rfl
set_option maxRecDepth 20000 in
theorem gm_X8_107 : GoodIn GW (va_wsS RX8 107 yX8_isK (gws yX8_isK cX8_isK 1 (some .boolean))) := good_S (gw_in 714 (by rfl) rfl) (gw_in 715 (by rfl) rfl) (gw_in 39 (by rfl) rfl) cw_X8_isK
set_option maxRecDepth 20000 in
theorem cw_X8_turnOf : Cond.code yX8_turnOf cX8_turnOf 3 (some .int) ∈ GW := gw_in 720 (by rfl) rfl
set_option maxRecDepth 20000 in
theorem gm_X8_110 : GoodIn GW (wsV RX8 110 RX8 yX8_turnOf (gws yX8_turnOf cX8_turnOf 3 (some .int))) := good_V (gw_in 717 (by rfl) rfl) (gw_in 719 (by rfl) rfl) (gw_in 14 (by rfl) rfl) (gw_in 39 (by rfl) rfl) cw_X8_turnOf
set_option maxRecDepth 20000 in
theorem cw_X8_isFull : Cond.code yX8_isFull cX8_isFull 4 (some .boolean) ∈ GW := gw_in 724 (by rfl) rfl
set_option maxRecDepth 20000 in
theorem gm_X8_103 : GoodIn GW (wsV RX8 103 RX8 yX8_isFull (gws yX8_isFull cX8_isFull 4 (some .boolean))) := good_V (gw_in 721 (by rfl) rfl) (gw_in 723 (by rfl) rfl) (gw_in 15 (by rfl) rfl) (gw_in 39 (by rfl) rfl) cw_X8_isFull
set_option maxRecDepth 20000 in
theorem cw_X8_start : Cond.code yX8_start cX8_start 3 none ∈ GW := gw_in 728 (by rfl) rfl
set_option maxRecDepth 20000 in
theorem gm_X8_95 : GoodIn GW (wsV RX8 95 RX8 yX8_start (gws yX8_start cX8_start 3 none)) := good_V (gw_in 725 (by rfl) rfl) (gw_in 727 (by rfl) rfl) (gw_in 16 (by rfl) rfl) (gw_in 39 (by rfl) rfl) cw_X8_start
set_option maxRecDepth 20000 in
theorem cw_X8_fixed : Cond.code yX8_fixed cX8_fixed 5 none ∈ GW := gw_in 732 (by rfl) rfl
set_option maxRecDepth 20000 in
theorem gm_X8_88 : GoodIn GW (wsV RX8 88 RX8 yX8_fixed (gws yX8_fixed cX8_fixed 5 none)) := good_V (gw_in 729 (by rfl) rfl) (gw_in 731 (by rfl) rfl) (gw_in 17 (by rfl) rfl) (gw_in 39 (by rfl) rfl) cw_X8_fixed
set_option maxRecDepth 20000 in
theorem cw_X8_blank : Cond.code yX8_blank cX8_blank 2 none ∈ GW := gw_in 736 (by rfl) rfl
set_option maxRecDepth 20000 in
theorem gm_X8_55 : GoodIn GW (wsV RX8 55 RX8 yX8_blank (gws yX8_blank cX8_blank 2 none)) := good_V (gw_in 733 (by rfl) rfl) (gw_in 735 (by rfl) rfl) (gw_in 18 (by rfl) rfl) (gw_in 39 (by rfl) rfl) cw_X8_blank
set_option maxRecDepth 20000 in
theorem cw_X8_power : Cond.code yX8_power cX8_power 2 (some .int) ∈ GW := gw_in 740 (by rfl) rfl
set_option maxRecDepth 20000 in
theorem gm_X8_58 : GoodIn GW (wsV RX8 58 RX8 yX8_power (gws yX8_power cX8_power 2 (some .int))) := good_V (gw_in 737 (by rfl) rfl) (gw_in 739 (by rfl) rfl) (gw_in 19 (by rfl) rfl) (gw_in 39 (by rfl) rfl) cw_X8_power
set_option maxRecDepth 20000 in
theorem cw_X8_isAdded : Cond.code yX8_isAdded cX8_isAdded 7 (some .boolean) ∈ GW := gw_in 744 (by rfl) rfl
set_option maxRecDepth 20000 in
theorem gm_X8_92 : GoodIn GW (wsV RX8 92 RX8 yX8_isAdded (gws yX8_isAdded cX8_isAdded 7 (some .boolean))) := good_V (gw_in 741 (by rfl) rfl) (gw_in 743 (by rfl) rfl) (gw_in 20 (by rfl) rfl) (gw_in 39 (by rfl) rfl) cw_X8_isAdded
set_option maxRecDepth 20000 in
theorem cw_X8_isReduced : Cond.code yX8_isReduced cX8_isReduced 5 (some .boolean) ∈ GW := gw_in 748 (by rfl) rfl
set_option maxRecDepth 20000 in
theorem gm_X8_77 : GoodIn GW (wsV RX8 77 RX8 yX8_isReduced (gws yX8_isReduced cX8_isReduced 5 (some .boolean))) := good_V (gw_in 745 (by rfl) rfl) (gw_in 747 (by rfl) rfl) (gw_in 21 (by rfl) rfl) (gw_in 39 (by rfl) rfl) cw_X8_isReduced
set_option maxRecDepth 20000 in
theorem cw_X8_inverse : Cond.code yX8_inverse cX8_inverse 2 (some .int) ∈ GW := gw_in 751 (by rfl) rfl
set_option maxRecDepth 20000 in
theorem gm_X8_81 : GoodIn GW (va_wsS RX8 81 yX8_inverse (gws yX8_inverse cX8_inverse 2 (some .int))) := good_S (gw_in 749 (by rfl) rfl) (gw_in 750 (by rfl) rfl) (gw_in 39 (by rfl) rfl) cw_X8_inverse
set_option maxRecDepth 20000 in
theorem cw_X8_packet : Cond.code yX8_packet cX8_packet 12 (some .int) ∈ GW := gw_in 755 (by rfl) rfl
set_option maxRecDepth 20000 in
theorem gm_X8_99 : GoodIn GW (wsV RX8 99 RX8 yX8_packet (gws yX8_packet cX8_packet 12 (some .int))) := good_V (gw_in 752 (by rfl) rfl) (gw_in 754 (by rfl) rfl) (gw_in 22 (by rfl) rfl) (gw_in 39 (by rfl) rfl) cw_X8_packet
set_option maxRecDepth 20000 in
theorem cw_X8_chance : Cond.code yX8_chance cX8_chance 6 (some .int) ∈ GW := gw_in 759 (by rfl) rfl
set_option maxRecDepth 20000 in
theorem gm_X8_64 : GoodIn GW (va_wsS RX8 64 yX8_chance (gws yX8_chance cX8_chance 6 (some .int))) := good_S (gw_in 757 (by rfl) rfl) (gw_in 758 (by rfl) rfl) (gw_in 39 (by rfl) rfl) cw_X8_chance
set_option maxRecDepth 20000 in
theorem cw_X8_degree : Cond.code yX8_degree cX8_degree 1 (some .int) ∈ GW := gw_in 765 (by rfl) rfl
set_option maxRecDepth 20000 in
theorem gm_X8_68 : GoodIn GW (va_wsS RX8 68 yX8_degree (gws yX8_degree cX8_degree 1 (some .int))) := good_S (gw_in 763 (by rfl) rfl) (gw_in 764 (by rfl) rfl) (gw_in 39 (by rfl) rfl) cw_X8_degree
set_option maxRecDepth 20000 in
theorem cw_X8_prime : Cond.code yX8_prime cX8_prime 4 (some .int) ∈ GW := gw_in 768 (by rfl) rfl
set_option maxRecDepth 20000 in
theorem gm_X8_71 : GoodIn GW (va_wsS RX8 71 yX8_prime (gws yX8_prime cX8_prime 4 (some .int))) := good_S (gw_in 766 (by rfl) rfl) (gw_in 767 (by rfl) rfl) (gw_in 39 (by rfl) rfl) cw_X8_prime
set_option maxRecDepth 20000 in
theorem cw_X8_block : Cond.code yX8_block cX8_block 7 none ∈ GW := gw_in 772 (by rfl) rfl
set_option maxRecDepth 20000 in
theorem gm_L_92 : GoodIn GW (wsV RL 92 RX8 yX8_block (gws yX8_block cX8_block 7 none)) := good_V (gw_in 769 (by rfl) rfl) (gw_in 770 (by rfl) rfl) (gw_in 771 (by rfl) rfl) (gw_in 39 (by rfl) rfl) cw_X8_block
set_option maxRecDepth 20000 in
theorem cw_X8_isT : Cond.code yX8_isT cX8_isT 1 (some .boolean) ∈ GW := gw_in 775 (by rfl) rfl
set_option maxRecDepth 20000 in
theorem gm_X8_113 : GoodIn GW (va_wsS RX8 113 yX8_isT (gws yX8_isT cX8_isT 1 (some .boolean))) := good_S (gw_in 773 (by rfl) rfl) (gw_in 774 (by rfl) rfl) (gw_in 39 (by rfl) rfl) cw_X8_isT
set_option maxRecDepth 20000 in
theorem cw_X8_byteAt : Cond.code yX8_byteAt cX8_byteAt 3 (some .int) ∈ GW := gw_in 779 (by rfl) rfl
set_option maxRecDepth 20000 in
theorem gm_L_96 : GoodIn GW (wsV RL 96 RX8 yX8_byteAt (gws yX8_byteAt cX8_byteAt 3 (some .int))) := good_V (gw_in 776 (by rfl) rfl) (gw_in 777 (by rfl) rfl) (gw_in 778 (by rfl) rfl) (gw_in 39 (by rfl) rfl) cw_X8_byteAt
set_option maxRecDepth 20000 in
theorem cw_X8_isPacket : Cond.code yX8_isPacket cX8_isPacket 1 (some .boolean) ∈ GW := gw_in 782 (by rfl) rfl
set_option maxRecDepth 20000 in
theorem gm_X8_123 : GoodIn GW (va_wsS RX8 123 yX8_isPacket (gws yX8_isPacket cX8_isPacket 1 (some .boolean))) := good_S (gw_in 780 (by rfl) rfl) (gw_in 781 (by rfl) rfl) (gw_in 39 (by rfl) rfl) cw_X8_isPacket
set_option maxRecDepth 20000 in
theorem cw_X8_summed : Cond.code yX8_summed cX8_summed 4 (some .int) ∈ GW := gw_in 787 (by rfl) rfl
set_option maxRecDepth 20000 in
theorem gm_X8_126 : GoodIn GW (wsV RX8 126 RX8 yX8_summed (gws yX8_summed cX8_summed 4 (some .int))) := good_V (gw_in 784 (by rfl) rfl) (gw_in 786 (by rfl) rfl) (gw_in 23 (by rfl) rfl) (gw_in 39 (by rfl) rfl) cw_X8_summed
set_option maxRecDepth 20000 in
theorem cw_X8_row : Cond.code yX8_row cX8_row 6 (some .int) ∈ GW := gw_in 791 (by rfl) rfl
set_option maxRecDepth 20000 in
theorem gm_L_100 : GoodIn GW (wsV RL 100 RX8 yX8_row (gws yX8_row cX8_row 6 (some .int))) := good_V (gw_in 788 (by rfl) rfl) (gw_in 789 (by rfl) rfl) (gw_in 790 (by rfl) rfl) (gw_in 39 (by rfl) rfl) cw_X8_row
set_option maxRecDepth 20000 in
theorem cw_X8_open : Cond.code yX8_open cX8_open 3 none ∈ GW := gw_in 795 (by rfl) rfl
set_option maxRecDepth 20000 in
theorem gm_L_103 : GoodIn GW (wsV RL 103 RX8 yX8_open (gws yX8_open cX8_open 3 none)) := good_V (gw_in 792 (by rfl) rfl) (gw_in 793 (by rfl) rfl) (gw_in 794 (by rfl) rfl) (gw_in 39 (by rfl) rfl) cw_X8_open
set_option maxRecDepth 20000 in
theorem cw_X8_take : Cond.code yX8_take cX8_take 3 (some .boolean) ∈ GW := gw_in 799 (by rfl) rfl
set_option maxRecDepth 20000 in
theorem gm_L_106 : GoodIn GW (wsV RL 106 RX8 yX8_take (gws yX8_take cX8_take 3 (some .boolean))) := good_V (gw_in 796 (by rfl) rfl) (gw_in 797 (by rfl) rfl) (gw_in 798 (by rfl) rfl) (gw_in 39 (by rfl) rfl) cw_X8_take
set_option maxRecDepth 20000 in
theorem cw_X8_isSame : Cond.code yX8_isSame cX8_isSame 1 (some .boolean) ∈ GW := gw_in 803 (by rfl) rfl
set_option maxRecDepth 20000 in
theorem gm_X8_147 : GoodIn GW (wsV RX8 147 RX8 yX8_isSame (gws yX8_isSame cX8_isSame 1 (some .boolean))) := good_V (gw_in 800 (by rfl) rfl) (gw_in 802 (by rfl) rfl) (gw_in 24 (by rfl) rfl) (gw_in 39 (by rfl) rfl) cw_X8_isSame
set_option maxRecDepth 20000 in
theorem cw_X8_taken : Cond.code yX8_taken cX8_taken 3 (some .int) ∈ GW := gw_in 807 (by rfl) rfl
set_option maxRecDepth 20000 in
theorem gm_X8_151 : GoodIn GW (wsV RX8 151 RX8 yX8_taken (gws yX8_taken cX8_taken 3 (some .int))) := good_V (gw_in 804 (by rfl) rfl) (gw_in 806 (by rfl) rfl) (gw_in 25 (by rfl) rfl) (gw_in 39 (by rfl) rfl) cw_X8_taken
set_option maxRecDepth 20000 in
theorem cw_X8_comes : Cond.code yX8_comes cX8_comes 3 (some .int) ∈ GW := gw_in 811 (by rfl) rfl
set_option maxRecDepth 20000 in
theorem gm_X8_144 : GoodIn GW (wsV RX8 144 RX8 yX8_comes (gws yX8_comes cX8_comes 3 (some .int))) := good_V (gw_in 808 (by rfl) rfl) (gw_in 810 (by rfl) rfl) (gw_in 26 (by rfl) rfl) (gw_in 39 (by rfl) rfl) cw_X8_comes
set_option maxRecDepth 20000 in
theorem cw_X8_gather : Cond.code yX8_gather cX8_gather 3 none ∈ GW := gw_in 815 (by rfl) rfl
set_option maxRecDepth 20000 in
theorem gm_X8_141 : GoodIn GW (wsV RX8 141 RX8 yX8_gather (gws yX8_gather cX8_gather 3 none)) := good_V (gw_in 812 (by rfl) rfl) (gw_in 814 (by rfl) rfl) (gw_in 27 (by rfl) rfl) (gw_in 39 (by rfl) rfl) cw_X8_gather
set_option maxRecDepth 20000 in
theorem cw_X8_takeAll : Cond.code yX8_takeAll cX8_takeAll 8 (some .int) ∈ GW := gw_in 819 (by rfl) rfl
set_option maxRecDepth 20000 in
theorem gm_L_110 : GoodIn GW (wsV RL 110 RX8 yX8_takeAll (gws yX8_takeAll cX8_takeAll 8 (some .int))) := good_V (gw_in 816 (by rfl) rfl) (gw_in 817 (by rfl) rfl) (gw_in 818 (by rfl) rfl) (gw_in 39 (by rfl) rfl) cw_X8_takeAll
set_option maxRecDepth 20000 in
theorem cw_X8_give : Cond.code yX8_give cX8_give 3 (some .boolean) ∈ GW := gw_in 824 (by rfl) rfl
set_option maxRecDepth 20000 in
theorem gm_L_113 : GoodIn GW (wsV RL 113 RX8 yX8_give (gws yX8_give cX8_give 3 (some .boolean))) := good_V (gw_in 821 (by rfl) rfl) (gw_in 822 (by rfl) rfl) (gw_in 823 (by rfl) rfl) (gw_in 39 (by rfl) rfl) cw_X8_give
set_option maxRecDepth 20000 in
theorem cw_X8_rank : Cond.code yX8_rank cX8_rank 1 (some .int) ∈ GW := gw_in 828 (by rfl) rfl
set_option maxRecDepth 20000 in
theorem gm_L_117 : GoodIn GW (wsV RL 117 RX8 yX8_rank (gws yX8_rank cX8_rank 1 (some .int))) := good_V (gw_in 825 (by rfl) rfl) (gw_in 826 (by rfl) rfl) (gw_in 827 (by rfl) rfl) (gw_in 39 (by rfl) rfl) cw_X8_rank
set_option maxRecDepth 20000 in
theorem cw_X8_follows : Cond.code yX8_follows cX8_follows 2 (some .boolean) ∈ GW := gw_in 832 (by rfl) rfl
set_option maxRecDepth 20000 in
theorem gm_L_120 : GoodIn GW (wsV RL 120 RX8 yX8_follows (gws yX8_follows cX8_follows 2 (some .boolean))) := good_V (gw_in 829 (by rfl) rfl) (gw_in 830 (by rfl) rfl) (gw_in 831 (by rfl) rfl) (gw_in 39 (by rfl) rfl) cw_X8_follows
set_option maxRecDepth 20000 in
theorem cw_X8_isKnown : Cond.code yX8_isKnown cX8_isKnown 2 (some .boolean) ∈ GW := gw_in 836 (by rfl) rfl
set_option maxRecDepth 20000 in
theorem gm_X8_155 : GoodIn GW (wsV RX8 155 RX8 yX8_isKnown (gws yX8_isKnown cX8_isKnown 2 (some .boolean))) := good_V (gw_in 833 (by rfl) rfl) (gw_in 835 (by rfl) rfl) (gw_in 28 (by rfl) rfl) (gw_in 39 (by rfl) rfl) cw_X8_isKnown
set_option maxRecDepth 20000 in
theorem cw_X8_known : Cond.code yX8_known cX8_known 3 (some .int) ∈ GW := gw_in 840 (by rfl) rfl
set_option maxRecDepth 20000 in
theorem gm_L_123 : GoodIn GW (wsV RL 123 RX8 yX8_known (gws yX8_known cX8_known 3 (some .int))) := good_V (gw_in 837 (by rfl) rfl) (gw_in 838 (by rfl) rfl) (gw_in 839 (by rfl) rfl) (gw_in 39 (by rfl) rfl) cw_X8_known
set_option maxRecDepth 20000 in
theorem cw_X8_product : Cond.code yX8_product cX8_product 3 (some .int) ∈ GW := gw_in 844 (by rfl) rfl
set_option maxRecDepth 20000 in
theorem gm_L_127 : GoodIn GW (wsV RL 127 RX8 yX8_product (gws yX8_product cX8_product 3 (some .int))) := good_V (gw_in 841 (by rfl) rfl) (gw_in 842 (by rfl) rfl) (gw_in 843 (by rfl) rfl) (gw_in 39 (by rfl) rfl) cw_X8_product
set_option maxRecDepth 20000 in
theorem cw_X8_count : Cond.code yX8_count cX8_count 4 (some .int) ∈ GW := gw_in 848 (by rfl) rfl
set_option maxRecDepth 20000 in
theorem gm_L_130 : GoodIn GW (wsV RL 130 RX8 yX8_count (gws yX8_count cX8_count 4 (some .int))) := good_V (gw_in 845 (by rfl) rfl) (gw_in 846 (by rfl) rfl) (gw_in 847 (by rfl) rfl) (gw_in 39 (by rfl) rfl) cw_X8_count
theorem cd_J7_fill_53178 : yJ7_fill_53178.cls = RJ7 ∧ yJ7_fill_53178.cls ≠ "java/lang/invoke/MethodHandle" ∧ yJ7_fill_53178.cls ≠ "java/lang/invoke/VarHandle" ∧ (parseMethodDescriptor yJ7_fill_53178.desc).map (fun d => d.parameters.length) = some 2 := by decide +kernel
theorem cd_J9_floorMod_7cf53 : yJ9_floorMod_7cf53.cls = RJ9 ∧ yJ9_floorMod_7cf53.cls ≠ "java/lang/invoke/MethodHandle" ∧ yJ9_floorMod_7cf53.cls ≠ "java/lang/invoke/VarHandle" ∧ (parseMethodDescriptor yJ9_floorMod_7cf53.desc).map (fun d => d.parameters.length) = some 2 := by decide +kernel
theorem cd_J9_max_7cf53 : yJ9_max_7cf53.cls = RJ9 ∧ yJ9_max_7cf53.cls ≠ "java/lang/invoke/MethodHandle" ∧ yJ9_max_7cf53.cls ≠ "java/lang/invoke/VarHandle" ∧ (parseMethodDescriptor yJ9_max_7cf53.desc).map (fun d => d.parameters.length) = some 2 := by decide +kernel
theorem cd_J9_min_7cf53 : yJ9_min_7cf53.cls = RJ9 ∧ yJ9_min_7cf53.cls ≠ "java/lang/invoke/MethodHandle" ∧ yJ9_min_7cf53.cls ≠ "java/lang/invoke/VarHandle" ∧ (parseMethodDescriptor yJ9_min_7cf53.desc).map (fun d => d.parameters.length) = some 2 := by decide +kernel
theorem cd_L_block : yL_block.cls = RL ∧ yL_block.cls ≠ "java/lang/invoke/MethodHandle" ∧ yL_block.cls ≠ "java/lang/invoke/VarHandle" ∧ (parseMethodDescriptor yL_block.desc).map (fun d => d.parameters.length) = some 3 := by decide +kernel
theorem cd_L_byteAt : yL_byteAt.cls = RL ∧ yL_byteAt.cls ≠ "java/lang/invoke/MethodHandle" ∧ yL_byteAt.cls ≠ "java/lang/invoke/VarHandle" ∧ (parseMethodDescriptor yL_byteAt.desc).map (fun d => d.parameters.length) = some 4 := by decide +kernel
theorem cd_L_count : yL_count.cls = RL ∧ yL_count.cls ≠ "java/lang/invoke/MethodHandle" ∧ yL_count.cls ≠ "java/lang/invoke/VarHandle" ∧ (parseMethodDescriptor yL_count.desc).map (fun d => d.parameters.length) = some 3 := by decide +kernel
theorem cd_L_end : yL_end.cls = RL ∧ yL_end.cls ≠ "java/lang/invoke/MethodHandle" ∧ yL_end.cls ≠ "java/lang/invoke/VarHandle" ∧ (parseMethodDescriptor yL_end.desc).map (fun d => d.parameters.length) = some 2 := by decide +kernel
theorem cd_L_feed : yL_feed.cls = RL ∧ yL_feed.cls ≠ "java/lang/invoke/MethodHandle" ∧ yL_feed.cls ≠ "java/lang/invoke/VarHandle" ∧ (parseMethodDescriptor yL_feed.desc).map (fun d => d.parameters.length) = some 7 := by decide +kernel
theorem cd_L_follows : yL_follows.cls = RL ∧ yL_follows.cls ≠ "java/lang/invoke/MethodHandle" ∧ yL_follows.cls ≠ "java/lang/invoke/VarHandle" ∧ (parseMethodDescriptor yL_follows.desc).map (fun d => d.parameters.length) = some 3 := by decide +kernel
theorem cd_L_give : yL_give.cls = RL ∧ yL_give.cls ≠ "java/lang/invoke/MethodHandle" ∧ yL_give.cls ≠ "java/lang/invoke/VarHandle" ∧ (parseMethodDescriptor yL_give.desc).map (fun d => d.parameters.length) = some 3 := by decide +kernel
theorem cd_L_known : yL_known.cls = RL ∧ yL_known.cls ≠ "java/lang/invoke/MethodHandle" ∧ yL_known.cls ≠ "java/lang/invoke/VarHandle" ∧ (parseMethodDescriptor yL_known.desc).map (fun d => d.parameters.length) = some 4 := by decide +kernel
theorem cd_L_open : yL_open.cls = RL ∧ yL_open.cls ≠ "java/lang/invoke/MethodHandle" ∧ yL_open.cls ≠ "java/lang/invoke/VarHandle" ∧ (parseMethodDescriptor yL_open.desc).map (fun d => d.parameters.length) = some 3 := by decide +kernel
theorem cd_L_rank : yL_rank.cls = RL ∧ yL_rank.cls ≠ "java/lang/invoke/MethodHandle" ∧ yL_rank.cls ≠ "java/lang/invoke/VarHandle" ∧ (parseMethodDescriptor yL_rank.desc).map (fun d => d.parameters.length) = some 2 := by decide +kernel
theorem cd_L_row : yL_row.cls = RL ∧ yL_row.cls ≠ "java/lang/invoke/MethodHandle" ∧ yL_row.cls ≠ "java/lang/invoke/VarHandle" ∧ (parseMethodDescriptor yL_row.desc).map (fun d => d.parameters.length) = some 5 := by decide +kernel
theorem cd_L_take : yL_take.cls = RL ∧ yL_take.cls ≠ "java/lang/invoke/MethodHandle" ∧ yL_take.cls ≠ "java/lang/invoke/VarHandle" ∧ (parseMethodDescriptor yL_take.desc).map (fun d => d.parameters.length) = some 3 := by decide +kernel
theorem cd_L_takeAll : yL_takeAll.cls = RL ∧ yL_takeAll.cls ≠ "java/lang/invoke/MethodHandle" ∧ yL_takeAll.cls ≠ "java/lang/invoke/VarHandle" ∧ (parseMethodDescriptor yL_takeAll.desc).map (fun d => d.parameters.length) = some 5 := by decide +kernel
theorem cd_L_turn : yL_turn.cls = RL ∧ yL_turn.cls ≠ "java/lang/invoke/MethodHandle" ∧ yL_turn.cls ≠ "java/lang/invoke/VarHandle" ∧ (parseMethodDescriptor yL_turn.desc).map (fun d => d.parameters.length) = some 3 := by decide +kernel
theorem cd_X0_init : yX0_init.cls = RX0 ∧ yX0_init.cls ≠ "java/lang/invoke/MethodHandle" ∧ yX0_init.cls ≠ "java/lang/invoke/VarHandle" ∧ (parseMethodDescriptor yX0_init.desc).map (fun d => d.parameters.length) = some 0 := by decide +kernel
theorem cd_X0_load : yX0_load.cls = RX0 ∧ yX0_load.cls ≠ "java/lang/invoke/MethodHandle" ∧ yX0_load.cls ≠ "java/lang/invoke/VarHandle" ∧ (parseMethodDescriptor yX0_load.desc).map (fun d => d.parameters.length) = some 3 := by decide +kernel
theorem cd_X0_valueOf : yX0_valueOf.cls = RX0 ∧ yX0_valueOf.cls ≠ "java/lang/invoke/MethodHandle" ∧ yX0_valueOf.cls ≠ "java/lang/invoke/VarHandle" ∧ (parseMethodDescriptor yX0_valueOf.desc).map (fun d => d.parameters.length) = some 2 := by decide +kernel
theorem cd_X1_begin : yX1_begin.cls = RX1 ∧ yX1_begin.cls ≠ "java/lang/invoke/MethodHandle" ∧ yX1_begin.cls ≠ "java/lang/invoke/VarHandle" ∧ (parseMethodDescriptor yX1_begin.desc).map (fun d => d.parameters.length) = some 3 := by decide +kernel
theorem cd_X1_catchLine : yX1_catchLine.cls = RX1 ∧ yX1_catchLine.cls ≠ "java/lang/invoke/MethodHandle" ∧ yX1_catchLine.cls ≠ "java/lang/invoke/VarHandle" ∧ (parseMethodDescriptor yX1_catchLine.desc).map (fun d => d.parameters.length) = some 0 := by decide +kernel
theorem cd_X1_init : yX1_init.cls = RX1 ∧ yX1_init.cls ≠ "java/lang/invoke/MethodHandle" ∧ yX1_init.cls ≠ "java/lang/invoke/VarHandle" ∧ (parseMethodDescriptor yX1_init.desc).map (fun d => d.parameters.length) = some 1 := by decide +kernel
theorem cd_X2_derive : yX2_derive.cls = RX2 ∧ yX2_derive.cls ≠ "java/lang/invoke/MethodHandle" ∧ yX2_derive.cls ≠ "java/lang/invoke/VarHandle" ∧ (parseMethodDescriptor yX2_derive.desc).map (fun d => d.parameters.length) = some 1 := by decide +kernel
theorem cd_X2_derivedValue : yX2_derivedValue.cls = RX2 ∧ yX2_derivedValue.cls ≠ "java/lang/invoke/MethodHandle" ∧ yX2_derivedValue.cls ≠ "java/lang/invoke/VarHandle" ∧ (parseMethodDescriptor yX2_derivedValue.desc).map (fun d => d.parameters.length) = some 1 := by decide +kernel
theorem cd_X2_hasValueLeft : yX2_hasValueLeft.cls = RX2 ∧ yX2_hasValueLeft.cls ≠ "java/lang/invoke/MethodHandle" ∧ yX2_hasValueLeft.cls ≠ "java/lang/invoke/VarHandle" ∧ (parseMethodDescriptor yX2_hasValueLeft.desc).map (fun d => d.parameters.length) = some 0 := by decide +kernel
theorem cd_X2_init : yX2_init.cls = RX2 ∧ yX2_init.cls ≠ "java/lang/invoke/MethodHandle" ∧ yX2_init.cls ≠ "java/lang/invoke/VarHandle" ∧ (parseMethodDescriptor yX2_init.desc).map (fun d => d.parameters.length) = some 1 := by decide +kernel
theorem cd_X2_keepLine : yX2_keepLine.cls = RX2 ∧ yX2_keepLine.cls ≠ "java/lang/invoke/MethodHandle" ∧ yX2_keepLine.cls ≠ "java/lang/invoke/VarHandle" ∧ (parseMethodDescriptor yX2_keepLine.desc).map (fun d => d.parameters.length) = some 1 := by decide +kernel
theorem cd_X2_learn : yX2_learn.cls = RX2 ∧ yX2_learn.cls ≠ "java/lang/invoke/MethodHandle" ∧ yX2_learn.cls ≠ "java/lang/invoke/VarHandle" ∧ (parseMethodDescriptor yX2_learn.desc).map (fun d => d.parameters.length) = some 0 := by decide +kernel
theorem cd_X2_lineLead : yX2_lineLead.cls = RX2 ∧ yX2_lineLead.cls ≠ "java/lang/invoke/MethodHandle" ∧ yX2_lineLead.cls ≠ "java/lang/invoke/VarHandle" ∧ (parseMethodDescriptor yX2_lineLead.desc).map (fun d => d.parameters.length) = some 0 := by decide +kernel
theorem cd_X2_reduceLine : yX2_reduceLine.cls = RX2 ∧ yX2_reduceLine.cls ≠ "java/lang/invoke/MethodHandle" ∧ yX2_reduceLine.cls ≠ "java/lang/invoke/VarHandle" ∧ (parseMethodDescriptor yX2_reduceLine.desc).map (fun d => d.parameters.length) = some 0 := by decide +kernel
theorem cd_X2_setLine : yX2_setLine.cls = RX2 ∧ yX2_setLine.cls ≠ "java/lang/invoke/MethodHandle" ∧ yX2_setLine.cls ≠ "java/lang/invoke/VarHandle" ∧ (parseMethodDescriptor yX2_setLine.desc).map (fun d => d.parameters.length) = some 1 := by decide +kernel
theorem cd_X2_setPowerLine : yX2_setPowerLine.cls = RX2 ∧ yX2_setPowerLine.cls ≠ "java/lang/invoke/MethodHandle" ∧ yX2_setPowerLine.cls ≠ "java/lang/invoke/VarHandle" ∧ (parseMethodDescriptor yX2_setPowerLine.desc).map (fun d => d.parameters.length) = some 2 := by decide +kernel
theorem cd_X2_setSumLine : yX2_setSumLine.cls = RX2 ∧ yX2_setSumLine.cls ≠ "java/lang/invoke/MethodHandle" ∧ yX2_setSumLine.cls ≠ "java/lang/invoke/VarHandle" ∧ (parseMethodDescriptor yX2_setSumLine.desc).map (fun d => d.parameters.length) = some 2 := by decide +kernel
theorem cd_X2_setValue : yX2_setValue.cls = RX2 ∧ yX2_setValue.cls ≠ "java/lang/invoke/MethodHandle" ∧ yX2_setValue.cls ≠ "java/lang/invoke/VarHandle" ∧ (parseMethodDescriptor yX2_setValue.desc).map (fun d => d.parameters.length) = some 2 := by decide +kernel
theorem cd_X2_start : yX2_start.cls = RX2 ∧ yX2_start.cls ≠ "java/lang/invoke/MethodHandle" ∧ yX2_start.cls ≠ "java/lang/invoke/VarHandle" ∧ (parseMethodDescriptor yX2_start.desc).map (fun d => d.parameters.length) = some 2 := by decide +kernel
theorem cd_X3_addTimes : yX3_addTimes.cls = RX3 ∧ yX3_addTimes.cls ≠ "java/lang/invoke/MethodHandle" ∧ yX3_addTimes.cls ≠ "java/lang/invoke/VarHandle" ∧ (parseMethodDescriptor yX3_addTimes.desc).map (fun d => d.parameters.length) = some 4 := by decide +kernel
theorem cd_X3_init : yX3_init.cls = RX3 ∧ yX3_init.cls ≠ "java/lang/invoke/MethodHandle" ∧ yX3_init.cls ≠ "java/lang/invoke/VarHandle" ∧ (parseMethodDescriptor yX3_init.desc).map (fun d => d.parameters.length) = some 0 := by decide +kernel
theorem cd_X3_inverse : yX3_inverse.cls = RX3 ∧ yX3_inverse.cls ≠ "java/lang/invoke/MethodHandle" ∧ yX3_inverse.cls ≠ "java/lang/invoke/VarHandle" ∧ (parseMethodDescriptor yX3_inverse.desc).map (fun d => d.parameters.length) = some 1 := by decide +kernel
theorem cd_X3_powerOfTwo : yX3_powerOfTwo.cls = RX3 ∧ yX3_powerOfTwo.cls ≠ "java/lang/invoke/MethodHandle" ∧ yX3_powerOfTwo.cls ≠ "java/lang/invoke/VarHandle" ∧ (parseMethodDescriptor yX3_powerOfTwo.desc).map (fun d => d.parameters.length) = some 1 := by decide +kernel
theorem cd_X3_times : yX3_times.cls = RX3 ∧ yX3_times.cls ≠ "java/lang/invoke/MethodHandle" ∧ yX3_times.cls ≠ "java/lang/invoke/VarHandle" ∧ (parseMethodDescriptor yX3_times.desc).map (fun d => d.parameters.length) = some 2 := by decide +kernel
theorem cd_X4_chance : yX4_chance.cls = RX4 ∧ yX4_chance.cls ≠ "java/lang/invoke/MethodHandle" ∧ yX4_chance.cls ≠ "java/lang/invoke/VarHandle" ∧ (parseMethodDescriptor yX4_chance.desc).map (fun d => d.parameters.length) = some 3 := by decide +kernel
theorem cd_X4_find : yX4_find.cls = RX4 ∧ yX4_find.cls ≠ "java/lang/invoke/MethodHandle" ∧ yX4_find.cls ≠ "java/lang/invoke/VarHandle" ∧ (parseMethodDescriptor yX4_find.desc).map (fun d => d.parameters.length) = some 3 := by decide +kernel
theorem cd_X4_greatest : yX4_greatest.cls = RX4 ∧ yX4_greatest.cls ≠ "java/lang/invoke/MethodHandle" ∧ yX4_greatest.cls ≠ "java/lang/invoke/VarHandle" ∧ (parseMethodDescriptor yX4_greatest.desc).map (fun d => d.parameters.length) = some 0 := by decide +kernel
theorem cd_X4_init : yX4_init.cls = RX4 ∧ yX4_init.cls ≠ "java/lang/invoke/MethodHandle" ∧ yX4_init.cls ≠ "java/lang/invoke/VarHandle" ∧ (parseMethodDescriptor yX4_init.desc).map (fun d => d.parameters.length) = some 0 := by decide +kernel
theorem cd_X4_isPrime : yX4_isPrime.cls = RX4 ∧ yX4_isPrime.cls ≠ "java/lang/invoke/MethodHandle" ∧ yX4_isPrime.cls ≠ "java/lang/invoke/VarHandle" ∧ (parseMethodDescriptor yX4_isPrime.desc).map (fun d => d.parameters.length) = some 1 := by decide +kernel
theorem cd_X4_leastPrimeFrom : yX4_leastPrimeFrom.cls = RX4 ∧ yX4_leastPrimeFrom.cls ≠ "java/lang/invoke/MethodHandle" ∧ yX4_leastPrimeFrom.cls ≠ "java/lang/invoke/VarHandle" ∧ (parseMethodDescriptor yX4_leastPrimeFrom.desc).map (fun d => d.parameters.length) = some 1 := by decide +kernel
theorem cd_X4_mix : yX4_mix.cls = RX4 ∧ yX4_mix.cls ≠ "java/lang/invoke/MethodHandle" ∧ yX4_mix.cls ≠ "java/lang/invoke/VarHandle" ∧ (parseMethodDescriptor yX4_mix.desc).map (fun d => d.parameters.length) = some 2 := by decide +kernel
theorem cd_X4_sizeFor : yX4_sizeFor.cls = RX4 ∧ yX4_sizeFor.cls ≠ "java/lang/invoke/MethodHandle" ∧ yX4_sizeFor.cls ≠ "java/lang/invoke/VarHandle" ∧ (parseMethodDescriptor yX4_sizeFor.desc).map (fun d => d.parameters.length) = some 1 := by decide +kernel
theorem cd_X5_append : yX5_append.cls = RX5 ∧ yX5_append.cls ≠ "java/lang/invoke/MethodHandle" ∧ yX5_append.cls ≠ "java/lang/invoke/VarHandle" ∧ (parseMethodDescriptor yX5_append.desc).map (fun d => d.parameters.length) = some 1 := by decide +kernel
theorem cd_X5_hasRoom : yX5_hasRoom.cls = RX5 ∧ yX5_hasRoom.cls ≠ "java/lang/invoke/MethodHandle" ∧ yX5_hasRoom.cls ≠ "java/lang/invoke/VarHandle" ∧ (parseMethodDescriptor yX5_hasRoom.desc).map (fun d => d.parameters.length) = some 1 := by decide +kernel
theorem cd_X5_init : yX5_init.cls = RX5 ∧ yX5_init.cls ≠ "java/lang/invoke/MethodHandle" ∧ yX5_init.cls ≠ "java/lang/invoke/VarHandle" ∧ (parseMethodDescriptor yX5_init.desc).map (fun d => d.parameters.length) = some 0 := by decide +kernel
theorem cd_X6_fillsRank : yX6_fillsRank.cls = RX6 ∧ yX6_fillsRank.cls ≠ "java/lang/invoke/MethodHandle" ∧ yX6_fillsRank.cls ≠ "java/lang/invoke/VarHandle" ∧ (parseMethodDescriptor yX6_fillsRank.desc).map (fun d => d.parameters.length) = some 2 := by decide +kernel
theorem cd_X6_init : yX6_init.cls = RX6 ∧ yX6_init.cls ≠ "java/lang/invoke/MethodHandle" ∧ yX6_init.cls ≠ "java/lang/invoke/VarHandle" ∧ (parseMethodDescriptor yX6_init.desc).map (fun d => d.parameters.length) = some 2 := by decide +kernel
theorem cd_X6_of : yX6_of.cls = RX6 ∧ yX6_of.cls ≠ "java/lang/invoke/MethodHandle" ∧ yX6_of.cls ≠ "java/lang/invoke/VarHandle" ∧ (parseMethodDescriptor yX6_of.desc).map (fun d => d.parameters.length) = some 1 := by decide +kernel
theorem cd_X7_block : yX7_block.cls = RX7 ∧ yX7_block.cls ≠ "java/lang/invoke/MethodHandle" ∧ yX7_block.cls ≠ "java/lang/invoke/VarHandle" ∧ (parseMethodDescriptor yX7_block.desc).map (fun d => d.parameters.length) = some 2 := by decide +kernel
theorem cd_X7_blockFitsCatcher : yX7_blockFitsCatcher.cls = RX7 ∧ yX7_blockFitsCatcher.cls ≠ "java/lang/invoke/MethodHandle" ∧ yX7_blockFitsCatcher.cls ≠ "java/lang/invoke/VarHandle" ∧ (parseMethodDescriptor yX7_blockFitsCatcher.desc).map (fun d => d.parameters.length) = some 0 := by decide +kernel
theorem cd_X7_byteAt : yX7_byteAt.cls = RX7 ∧ yX7_byteAt.cls ≠ "java/lang/invoke/MethodHandle" ∧ yX7_byteAt.cls ≠ "java/lang/invoke/VarHandle" ∧ (parseMethodDescriptor yX7_byteAt.desc).map (fun d => d.parameters.length) = some 2 := by decide +kernel
theorem cd_X7_catchFromBlock : yX7_catchFromBlock.cls = RX7 ∧ yX7_catchFromBlock.cls ≠ "java/lang/invoke/MethodHandle" ∧ yX7_catchFromBlock.cls ≠ "java/lang/invoke/VarHandle" ∧ (parseMethodDescriptor yX7_catchFromBlock.desc).map (fun d => d.parameters.length) = some 1 := by decide +kernel
theorem cd_X7_catchFromTape : yX7_catchFromTape.cls = RX7 ∧ yX7_catchFromTape.cls ≠ "java/lang/invoke/MethodHandle" ∧ yX7_catchFromTape.cls ≠ "java/lang/invoke/VarHandle" ∧ (parseMethodDescriptor yX7_catchFromTape.desc).map (fun d => d.parameters.length) = some 1 := by decide +kernel
theorem cd_X7_catcherDerives : yX7_catcherDerives.cls = RX7 ∧ yX7_catcherDerives.cls ≠ "java/lang/invoke/MethodHandle" ∧ yX7_catcherDerives.cls ≠ "java/lang/invoke/VarHandle" ∧ (parseMethodDescriptor yX7_catcherDerives.desc).map (fun d => d.parameters.length) = some 1 := by decide +kernel
theorem cd_X7_count : yX7_count.cls = RX7 ∧ yX7_count.cls ≠ "java/lang/invoke/MethodHandle" ∧ yX7_count.cls ≠ "java/lang/invoke/VarHandle" ∧ (parseMethodDescriptor yX7_count.desc).map (fun d => d.parameters.length) = some 1 := by decide +kernel
theorem cd_X7_end : yX7_end.cls = RX7 ∧ yX7_end.cls ≠ "java/lang/invoke/MethodHandle" ∧ yX7_end.cls ≠ "java/lang/invoke/VarHandle" ∧ (parseMethodDescriptor yX7_end.desc).map (fun d => d.parameters.length) = some 1 := by decide +kernel
theorem cd_X7_feed : yX7_feed.cls = RX7 ∧ yX7_feed.cls ≠ "java/lang/invoke/MethodHandle" ∧ yX7_feed.cls ≠ "java/lang/invoke/VarHandle" ∧ (parseMethodDescriptor yX7_feed.desc).map (fun d => d.parameters.length) = some 5 := by decide +kernel
theorem cd_X7_follows : yX7_follows.cls = RX7 ∧ yX7_follows.cls ≠ "java/lang/invoke/MethodHandle" ∧ yX7_follows.cls ≠ "java/lang/invoke/VarHandle" ∧ (parseMethodDescriptor yX7_follows.desc).map (fun d => d.parameters.length) = some 1 := by decide +kernel
theorem cd_X7_give : yX7_give.cls = RX7 ∧ yX7_give.cls ≠ "java/lang/invoke/MethodHandle" ∧ yX7_give.cls ≠ "java/lang/invoke/VarHandle" ∧ (parseMethodDescriptor yX7_give.desc).map (fun d => d.parameters.length) = some 1 := by decide +kernel
theorem cd_X7_init : yX7_init.cls = RX7 ∧ yX7_init.cls ≠ "java/lang/invoke/MethodHandle" ∧ yX7_init.cls ≠ "java/lang/invoke/VarHandle" ∧ (parseMethodDescriptor yX7_init.desc).map (fun d => d.parameters.length) = some 0 := by decide +kernel
theorem cd_X7_isByteCount : yX7_isByteCount.cls = RX7 ∧ yX7_isByteCount.cls ≠ "java/lang/invoke/MethodHandle" ∧ yX7_isByteCount.cls ≠ "java/lang/invoke/VarHandle" ∧ (parseMethodDescriptor yX7_isByteCount.desc).map (fun d => d.parameters.length) = some 1 := by decide +kernel
theorem cd_X7_isPacket : yX7_isPacket.cls = RX7 ∧ yX7_isPacket.cls ≠ "java/lang/invoke/MethodHandle" ∧ yX7_isPacket.cls ≠ "java/lang/invoke/VarHandle" ∧ (parseMethodDescriptor yX7_isPacket.desc).map (fun d => d.parameters.length) = some 1 := by decide +kernel
theorem cd_X7_isSymbolCount : yX7_isSymbolCount.cls = RX7 ∧ yX7_isSymbolCount.cls ≠ "java/lang/invoke/MethodHandle" ∧ yX7_isSymbolCount.cls ≠ "java/lang/invoke/VarHandle" ∧ (parseMethodDescriptor yX7_isSymbolCount.desc).map (fun d => d.parameters.length) = some 1 := by decide +kernel
theorem cd_X7_known : yX7_known.cls = RX7 ∧ yX7_known.cls ≠ "java/lang/invoke/MethodHandle" ∧ yX7_known.cls ≠ "java/lang/invoke/VarHandle" ∧ (parseMethodDescriptor yX7_known.desc).map (fun d => d.parameters.length) = some 2 := by decide +kernel
theorem cd_X7_open : yX7_open.cls = RX7 ∧ yX7_open.cls ≠ "java/lang/invoke/MethodHandle" ∧ yX7_open.cls ≠ "java/lang/invoke/VarHandle" ∧ (parseMethodDescriptor yX7_open.desc).map (fun d => d.parameters.length) = some 2 := by decide +kernel
theorem cd_X7_product : yX7_product.cls = RX7 ∧ yX7_product.cls ≠ "java/lang/invoke/MethodHandle" ∧ yX7_product.cls ≠ "java/lang/invoke/VarHandle" ∧ (parseMethodDescriptor yX7_product.desc).map (fun d => d.parameters.length) = some 2 := by decide +kernel
theorem cd_X7_rank : yX7_rank.cls = RX7 ∧ yX7_rank.cls ≠ "java/lang/invoke/MethodHandle" ∧ yX7_rank.cls ≠ "java/lang/invoke/VarHandle" ∧ (parseMethodDescriptor yX7_rank.desc).map (fun d => d.parameters.length) = some 0 := by decide +kernel
theorem cd_X7_row : yX7_row.cls = RX7 ∧ yX7_row.cls ≠ "java/lang/invoke/MethodHandle" ∧ yX7_row.cls ≠ "java/lang/invoke/VarHandle" ∧ (parseMethodDescriptor yX7_row.desc).map (fun d => d.parameters.length) = some 3 := by decide +kernel
theorem cd_X7_solveTape : yX7_solveTape.cls = RX7 ∧ yX7_solveTape.cls ≠ "java/lang/invoke/MethodHandle" ∧ yX7_solveTape.cls ≠ "java/lang/invoke/VarHandle" ∧ (parseMethodDescriptor yX7_solveTape.desc).map (fun d => d.parameters.length) = some 3 := by decide +kernel
theorem cd_X7_symbolsThatFollow : yX7_symbolsThatFollow.cls = RX7 ∧ yX7_symbolsThatFollow.cls ≠ "java/lang/invoke/MethodHandle" ∧ yX7_symbolsThatFollow.cls ≠ "java/lang/invoke/VarHandle" ∧ (parseMethodDescriptor yX7_symbolsThatFollow.desc).map (fun d => d.parameters.length) = some 0 := by decide +kernel
theorem cd_X7_take : yX7_take.cls = RX7 ∧ yX7_take.cls ≠ "java/lang/invoke/MethodHandle" ∧ yX7_take.cls ≠ "java/lang/invoke/VarHandle" ∧ (parseMethodDescriptor yX7_take.desc).map (fun d => d.parameters.length) = some 1 := by decide +kernel
theorem cd_X7_takeAll : yX7_takeAll.cls = RX7 ∧ yX7_takeAll.cls ≠ "java/lang/invoke/MethodHandle" ∧ yX7_takeAll.cls ≠ "java/lang/invoke/VarHandle" ∧ (parseMethodDescriptor yX7_takeAll.desc).map (fun d => d.parameters.length) = some 3 := by decide +kernel
theorem cd_X7_turn : yX7_turn.cls = RX7 ∧ yX7_turn.cls ≠ "java/lang/invoke/MethodHandle" ∧ yX7_turn.cls ≠ "java/lang/invoke/VarHandle" ∧ (parseMethodDescriptor yX7_turn.desc).map (fun d => d.parameters.length) = some 1 := by decide +kernel
theorem cd_X8_blank : yX8_blank.cls = RX8 ∧ yX8_blank.cls ≠ "java/lang/invoke/MethodHandle" ∧ yX8_blank.cls ≠ "java/lang/invoke/VarHandle" ∧ (parseMethodDescriptor yX8_blank.desc).map (fun d => d.parameters.length) = some 0 := by decide +kernel
theorem cd_X8_block : yX8_block.cls = RX8 ∧ yX8_block.cls ≠ "java/lang/invoke/MethodHandle" ∧ yX8_block.cls ≠ "java/lang/invoke/VarHandle" ∧ (parseMethodDescriptor yX8_block.desc).map (fun d => d.parameters.length) = some 2 := by decide +kernel
theorem cd_X8_byteAt : yX8_byteAt.cls = RX8 ∧ yX8_byteAt.cls ≠ "java/lang/invoke/MethodHandle" ∧ yX8_byteAt.cls ≠ "java/lang/invoke/VarHandle" ∧ (parseMethodDescriptor yX8_byteAt.desc).map (fun d => d.parameters.length) = some 2 := by decide +kernel
theorem cd_X8_chance : yX8_chance.cls = RX8 ∧ yX8_chance.cls ≠ "java/lang/invoke/MethodHandle" ∧ yX8_chance.cls ≠ "java/lang/invoke/VarHandle" ∧ (parseMethodDescriptor yX8_chance.desc).map (fun d => d.parameters.length) = some 3 := by decide +kernel
theorem cd_X8_comes : yX8_comes.cls = RX8 ∧ yX8_comes.cls ≠ "java/lang/invoke/MethodHandle" ∧ yX8_comes.cls ≠ "java/lang/invoke/VarHandle" ∧ (parseMethodDescriptor yX8_comes.desc).map (fun d => d.parameters.length) = some 1 := by decide +kernel
theorem cd_X8_count : yX8_count.cls = RX8 ∧ yX8_count.cls ≠ "java/lang/invoke/MethodHandle" ∧ yX8_count.cls ≠ "java/lang/invoke/VarHandle" ∧ (parseMethodDescriptor yX8_count.desc).map (fun d => d.parameters.length) = some 1 := by decide +kernel
theorem cd_X8_degree : yX8_degree.cls = RX8 ∧ yX8_degree.cls ≠ "java/lang/invoke/MethodHandle" ∧ yX8_degree.cls ≠ "java/lang/invoke/VarHandle" ∧ (parseMethodDescriptor yX8_degree.desc).map (fun d => d.parameters.length) = some 1 := by decide +kernel
theorem cd_X8_end : yX8_end.cls = RX8 ∧ yX8_end.cls ≠ "java/lang/invoke/MethodHandle" ∧ yX8_end.cls ≠ "java/lang/invoke/VarHandle" ∧ (parseMethodDescriptor yX8_end.desc).map (fun d => d.parameters.length) = some 1 := by decide +kernel
theorem cd_X8_feed : yX8_feed.cls = RX8 ∧ yX8_feed.cls ≠ "java/lang/invoke/MethodHandle" ∧ yX8_feed.cls ≠ "java/lang/invoke/VarHandle" ∧ (parseMethodDescriptor yX8_feed.desc).map (fun d => d.parameters.length) = some 5 := by decide +kernel
theorem cd_X8_fixed : yX8_fixed.cls = RX8 ∧ yX8_fixed.cls ≠ "java/lang/invoke/MethodHandle" ∧ yX8_fixed.cls ≠ "java/lang/invoke/VarHandle" ∧ (parseMethodDescriptor yX8_fixed.desc).map (fun d => d.parameters.length) = some 2 := by decide +kernel
theorem cd_X8_follows : yX8_follows.cls = RX8 ∧ yX8_follows.cls ≠ "java/lang/invoke/MethodHandle" ∧ yX8_follows.cls ≠ "java/lang/invoke/VarHandle" ∧ (parseMethodDescriptor yX8_follows.desc).map (fun d => d.parameters.length) = some 1 := by decide +kernel
theorem cd_X8_gather : yX8_gather.cls = RX8 ∧ yX8_gather.cls ≠ "java/lang/invoke/MethodHandle" ∧ yX8_gather.cls ≠ "java/lang/invoke/VarHandle" ∧ (parseMethodDescriptor yX8_gather.desc).map (fun d => d.parameters.length) = some 0 := by decide +kernel
theorem cd_X8_give : yX8_give.cls = RX8 ∧ yX8_give.cls ≠ "java/lang/invoke/MethodHandle" ∧ yX8_give.cls ≠ "java/lang/invoke/VarHandle" ∧ (parseMethodDescriptor yX8_give.desc).map (fun d => d.parameters.length) = some 1 := by decide +kernel
theorem cd_X8_init : yX8_init.cls = RX8 ∧ yX8_init.cls ≠ "java/lang/invoke/MethodHandle" ∧ yX8_init.cls ≠ "java/lang/invoke/VarHandle" ∧ (parseMethodDescriptor yX8_init.desc).map (fun d => d.parameters.length) = some 0 := by decide +kernel
theorem cd_X8_inverse : yX8_inverse.cls = RX8 ∧ yX8_inverse.cls ≠ "java/lang/invoke/MethodHandle" ∧ yX8_inverse.cls ≠ "java/lang/invoke/VarHandle" ∧ (parseMethodDescriptor yX8_inverse.desc).map (fun d => d.parameters.length) = some 1 := by decide +kernel
theorem cd_X8_isAdded : yX8_isAdded.cls = RX8 ∧ yX8_isAdded.cls ≠ "java/lang/invoke/MethodHandle" ∧ yX8_isAdded.cls ≠ "java/lang/invoke/VarHandle" ∧ (parseMethodDescriptor yX8_isAdded.desc).map (fun d => d.parameters.length) = some 1 := by decide +kernel
theorem cd_X8_isFull : yX8_isFull.cls = RX8 ∧ yX8_isFull.cls ≠ "java/lang/invoke/MethodHandle" ∧ yX8_isFull.cls ≠ "java/lang/invoke/VarHandle" ∧ (parseMethodDescriptor yX8_isFull.desc).map (fun d => d.parameters.length) = some 2 := by decide +kernel
theorem cd_X8_isK : yX8_isK.cls = RX8 ∧ yX8_isK.cls ≠ "java/lang/invoke/MethodHandle" ∧ yX8_isK.cls ≠ "java/lang/invoke/VarHandle" ∧ (parseMethodDescriptor yX8_isK.desc).map (fun d => d.parameters.length) = some 1 := by decide +kernel
theorem cd_X8_isKnown : yX8_isKnown.cls = RX8 ∧ yX8_isKnown.cls ≠ "java/lang/invoke/MethodHandle" ∧ yX8_isKnown.cls ≠ "java/lang/invoke/VarHandle" ∧ (parseMethodDescriptor yX8_isKnown.desc).map (fun d => d.parameters.length) = some 1 := by decide +kernel
theorem cd_X8_isPacket : yX8_isPacket.cls = RX8 ∧ yX8_isPacket.cls ≠ "java/lang/invoke/MethodHandle" ∧ yX8_isPacket.cls ≠ "java/lang/invoke/VarHandle" ∧ (parseMethodDescriptor yX8_isPacket.desc).map (fun d => d.parameters.length) = some 1 := by decide +kernel
theorem cd_X8_isReduced : yX8_isReduced.cls = RX8 ∧ yX8_isReduced.cls ≠ "java/lang/invoke/MethodHandle" ∧ yX8_isReduced.cls ≠ "java/lang/invoke/VarHandle" ∧ (parseMethodDescriptor yX8_isReduced.desc).map (fun d => d.parameters.length) = some 1 := by decide +kernel
theorem cd_X8_isSame : yX8_isSame.cls = RX8 ∧ yX8_isSame.cls ≠ "java/lang/invoke/MethodHandle" ∧ yX8_isSame.cls ≠ "java/lang/invoke/VarHandle" ∧ (parseMethodDescriptor yX8_isSame.desc).map (fun d => d.parameters.length) = some 0 := by decide +kernel
theorem cd_X8_isT : yX8_isT.cls = RX8 ∧ yX8_isT.cls ≠ "java/lang/invoke/MethodHandle" ∧ yX8_isT.cls ≠ "java/lang/invoke/VarHandle" ∧ (parseMethodDescriptor yX8_isT.desc).map (fun d => d.parameters.length) = some 1 := by decide +kernel
theorem cd_X8_known : yX8_known.cls = RX8 ∧ yX8_known.cls ≠ "java/lang/invoke/MethodHandle" ∧ yX8_known.cls ≠ "java/lang/invoke/VarHandle" ∧ (parseMethodDescriptor yX8_known.desc).map (fun d => d.parameters.length) = some 2 := by decide +kernel
theorem cd_X8_open : yX8_open.cls = RX8 ∧ yX8_open.cls ≠ "java/lang/invoke/MethodHandle" ∧ yX8_open.cls ≠ "java/lang/invoke/VarHandle" ∧ (parseMethodDescriptor yX8_open.desc).map (fun d => d.parameters.length) = some 2 := by decide +kernel
theorem cd_X8_packet : yX8_packet.cls = RX8 ∧ yX8_packet.cls ≠ "java/lang/invoke/MethodHandle" ∧ yX8_packet.cls ≠ "java/lang/invoke/VarHandle" ∧ (parseMethodDescriptor yX8_packet.desc).map (fun d => d.parameters.length) = some 3 := by decide +kernel
theorem cd_X8_power : yX8_power.cls = RX8 ∧ yX8_power.cls ≠ "java/lang/invoke/MethodHandle" ∧ yX8_power.cls ≠ "java/lang/invoke/VarHandle" ∧ (parseMethodDescriptor yX8_power.desc).map (fun d => d.parameters.length) = some 1 := by decide +kernel
theorem cd_X8_prime : yX8_prime.cls = RX8 ∧ yX8_prime.cls ≠ "java/lang/invoke/MethodHandle" ∧ yX8_prime.cls ≠ "java/lang/invoke/VarHandle" ∧ (parseMethodDescriptor yX8_prime.desc).map (fun d => d.parameters.length) = some 1 := by decide +kernel
theorem cd_X8_product : yX8_product.cls = RX8 ∧ yX8_product.cls ≠ "java/lang/invoke/MethodHandle" ∧ yX8_product.cls ≠ "java/lang/invoke/VarHandle" ∧ (parseMethodDescriptor yX8_product.desc).map (fun d => d.parameters.length) = some 2 := by decide +kernel
theorem cd_X8_rank : yX8_rank.cls = RX8 ∧ yX8_rank.cls ≠ "java/lang/invoke/MethodHandle" ∧ yX8_rank.cls ≠ "java/lang/invoke/VarHandle" ∧ (parseMethodDescriptor yX8_rank.desc).map (fun d => d.parameters.length) = some 0 := by decide +kernel
theorem cd_X8_row : yX8_row.cls = RX8 ∧ yX8_row.cls ≠ "java/lang/invoke/MethodHandle" ∧ yX8_row.cls ≠ "java/lang/invoke/VarHandle" ∧ (parseMethodDescriptor yX8_row.desc).map (fun d => d.parameters.length) = some 3 := by decide +kernel
theorem cd_X8_start : yX8_start.cls = RX8 ∧ yX8_start.cls ≠ "java/lang/invoke/MethodHandle" ∧ yX8_start.cls ≠ "java/lang/invoke/VarHandle" ∧ (parseMethodDescriptor yX8_start.desc).map (fun d => d.parameters.length) = some 1 := by decide +kernel
theorem cd_X8_summed : yX8_summed.cls = RX8 ∧ yX8_summed.cls ≠ "java/lang/invoke/MethodHandle" ∧ yX8_summed.cls ≠ "java/lang/invoke/VarHandle" ∧ (parseMethodDescriptor yX8_summed.desc).map (fun d => d.parameters.length) = some 1 := by decide +kernel
theorem cd_X8_take : yX8_take.cls = RX8 ∧ yX8_take.cls ≠ "java/lang/invoke/MethodHandle" ∧ yX8_take.cls ≠ "java/lang/invoke/VarHandle" ∧ (parseMethodDescriptor yX8_take.desc).map (fun d => d.parameters.length) = some 1 := by decide +kernel
theorem cd_X8_takeAll : yX8_takeAll.cls = RX8 ∧ yX8_takeAll.cls ≠ "java/lang/invoke/MethodHandle" ∧ yX8_takeAll.cls ≠ "java/lang/invoke/VarHandle" ∧ (parseMethodDescriptor yX8_takeAll.desc).map (fun d => d.parameters.length) = some 3 := by decide +kernel
theorem cd_X8_taken : yX8_taken.cls = RX8 ∧ yX8_taken.cls ≠ "java/lang/invoke/MethodHandle" ∧ yX8_taken.cls ≠ "java/lang/invoke/VarHandle" ∧ (parseMethodDescriptor yX8_taken.desc).map (fun d => d.parameters.length) = some 1 := by decide +kernel
theorem cd_X8_thrown : yX8_thrown.cls = RX8 ∧ yX8_thrown.cls ≠ "java/lang/invoke/MethodHandle" ∧ yX8_thrown.cls ≠ "java/lang/invoke/VarHandle" ∧ (parseMethodDescriptor yX8_thrown.desc).map (fun d => d.parameters.length) = some 0 := by decide +kernel
theorem cd_X8_times : yX8_times.cls = RX8 ∧ yX8_times.cls ≠ "java/lang/invoke/MethodHandle" ∧ yX8_times.cls ≠ "java/lang/invoke/VarHandle" ∧ (parseMethodDescriptor yX8_times.desc).map (fun d => d.parameters.length) = some 2 := by decide +kernel
theorem cd_X8_turn : yX8_turn.cls = RX8 ∧ yX8_turn.cls ≠ "java/lang/invoke/MethodHandle" ∧ yX8_turn.cls ≠ "java/lang/invoke/VarHandle" ∧ (parseMethodDescriptor yX8_turn.desc).map (fun d => d.parameters.length) = some 1 := by decide +kernel
theorem cd_X8_turnOf : yX8_turnOf.cls = RX8 ∧ yX8_turnOf.cls ≠ "java/lang/invoke/MethodHandle" ∧ yX8_turnOf.cls ≠ "java/lang/invoke/VarHandle" ∧ (parseMethodDescriptor yX8_turnOf.desc).map (fun d => d.parameters.length) = some 1 := by decide +kernel
set_option maxRecDepth 20000 in
theorem wi_X0 : Cond.initialized RX0 ∈ GW := gw_in 37 (by rfl) rfl
set_option maxRecDepth 20000 in
theorem wi_X1 : Cond.initialized RX1 ∈ GW := gw_in 38 (by rfl) rfl
set_option maxRecDepth 20000 in
theorem wi_X2 : Cond.initialized RX2 ∈ GW := gw_in 34 (by rfl) rfl
set_option maxRecDepth 20000 in
theorem wi_X3 : Cond.initialized RX3 ∈ GW := gw_in 31 (by rfl) rfl
set_option maxRecDepth 20000 in
theorem wi_X4 : Cond.initialized RX4 ∈ GW := gw_in 33 (by rfl) rfl
set_option maxRecDepth 20000 in
theorem wi_X5 : Cond.initialized RX5 ∈ GW := gw_in 32 (by rfl) rfl
set_option maxRecDepth 20000 in
theorem wi_X6 : Cond.initialized RX6 ∈ GW := gw_in 35 (by rfl) rfl
set_option maxRecDepth 20000 in
theorem wi_X7 : Cond.initialized RX7 ∈ GW := gw_in 30 (by rfl) rfl
set_option maxRecDepth 20000 in
theorem wi_X8 : Cond.initialized RX8 ∈ GW := gw_in 39 (by rfl) rfl
set_option maxRecDepth 20000 in
theorem wi_J9 : Cond.initialized RJ9 ∈ GW := gw_in 45 (by rfl) rfl
set_option maxRecDepth 20000 in
theorem wi_J10 : Cond.initialized RJ10 ∈ GW := gw_in 46 (by rfl) rfl
set_option maxRecDepth 20000 in
theorem wi_J7 : Cond.initialized RJ7 ∈ GW := gw_in 36 (by rfl) rfl
set_option maxRecDepth 20000 in
theorem wi_L : Cond.initialized RL ∈ GW := gw_in 29 (by rfl) rfl
set_option maxRecDepth 20000 in
theorem kc_X7_140 : Cond.constant RX7 140 (65536) ∈ GW := gw_in 498 (by rfl) rfl
set_option maxRecDepth 20000 in
theorem kc_X4_19 : Cond.constantLong RX4 19 (65536) ∈ GW := gw_in 411 (by rfl) rfl
set_option maxRecDepth 20000 in
theorem kc_X4_51 : Cond.constantLong RX4 51 (-7046029254386353131) ∈ GW := gw_in 418 (by rfl) rfl
set_option maxRecDepth 20000 in
theorem kc_X4_53 : Cond.constantLong RX4 53 (-4658895280553007687) ∈ GW := gw_in 419 (by rfl) rfl
set_option maxRecDepth 20000 in
theorem kc_X4_55 : Cond.constantLong RX4 55 (-7723592293110705685) ∈ GW := gw_in 420 (by rfl) rfl
set_option maxRecDepth 20000 in
theorem kc_X8_49 : Cond.constantLong RX8 49 (-7046029254386353131) ∈ GW := gw_in 760 (by rfl) rfl
set_option maxRecDepth 20000 in
theorem kc_X8_51 : Cond.constantLong RX8 51 (-4658895280553007687) ∈ GW := gw_in 761 (by rfl) rfl
set_option maxRecDepth 20000 in
theorem kc_X8_53 : Cond.constantLong RX8 53 (-7723592293110705685) ∈ GW := gw_in 762 (by rfl) rfl
set_option maxRecDepth 20000 in
theorem kc_X8_62 : Cond.constantLong RX8 62 (65536) ∈ GW := gw_in 756 (by rfl) rfl
set_option maxRecDepth 20000 in
theorem kc_X8_122 : Cond.constant RX8 122 (65536) ∈ GW := gw_in 783 (by rfl) rfl
set_option maxRecDepth 20000 in
theorem kc_X8_154 : Cond.constant RX8 154 (65535) ∈ GW := gw_in 820 (by rfl) rfl
set_option maxRecDepth 20000 in
theorem kl_X7_9 : Cond.classLink RX7 9 RX3 ∈ GW := gw_in 57 (by rfl) rfl
set_option maxRecDepth 20000 in
theorem kl_X7_16 : Cond.classLink RX7 16 RX5 ∈ GW := gw_in 71 (by rfl) rfl
set_option maxRecDepth 20000 in
theorem kl_X7_23 : Cond.classLink RX7 23 RX4 ∈ GW := gw_in 86 (by rfl) rfl
set_option maxRecDepth 20000 in
theorem kl_X7_30 : Cond.classLink RX7 30 RX2 ∈ GW := gw_in 104 (by rfl) rfl
set_option maxRecDepth 20000 in
theorem kl_X7_39 : Cond.classLink RX7 39 RX6 ∈ GW := gw_in 139 (by rfl) rfl
set_option maxRecDepth 20000 in
theorem kl_X7_48 : Cond.classLink RX7 48 RX0 ∈ GW := gw_in 158 (by rfl) rfl
set_option maxRecDepth 20000 in
theorem kl_X7_55 : Cond.classLink RX7 55 RX1 ∈ GW := gw_in 181 (by rfl) rfl
set_option maxRecDepth 20000 in
theorem kl_X7_66 : Cond.classLink RX7 66 "java/lang/UnsupportedOperationException" ∈ GW := gw_in 252 (by rfl) rfl
set_option maxRecDepth 20000 in
theorem kl_X7_77 : Cond.classLink RX7 77 "java/lang/IllegalArgumentException" ∈ GW := gw_in 328 (by rfl) rfl
set_option maxRecDepth 20000 in
theorem kl_X7_101 : Cond.classLink RX7 101 "java/lang/IllegalStateException" ∈ GW := gw_in 480 (by rfl) rfl
set_option maxRecDepth 20000 in
theorem kl_X7_110 : Cond.classLink RX7 110 "java/lang/IndexOutOfBoundsException" ∈ GW := gw_in 499 (by rfl) rfl
set_option maxRecDepth 20000 in
theorem kl_X0_9 : Cond.classLink RX0 9 "[[I" ∈ GW := gw_in 164 (by rfl) rfl
set_option maxRecDepth 20000 in
theorem kl_X1_9 : Cond.classLink RX1 9 RX2 ∈ GW := gw_in 187 (by rfl) rfl
set_option maxRecDepth 20000 in
theorem kl_X2_15 : Cond.classLink RX2 15 "[[I" ∈ GW := gw_in 110 (by rfl) rfl
set_option maxRecDepth 20000 in
theorem kl_L_8 : Cond.classLink RL 8 RX7 ∈ GW := gw_in 49 (by rfl) rfl
set_option maxRecDepth 20000 in
theorem kl_L_13 : Cond.classLink RL 13 "java/lang/UnsupportedOperationException" ∈ GW := gw_in 243 (by rfl) rfl
set_option maxRecDepth 20000 in
theorem kl_L_19 : Cond.classLink RL 19 "java/lang/IllegalArgumentException" ∈ GW := gw_in 323 (by rfl) rfl
set_option maxRecDepth 20000 in
theorem kl_L_33 : Cond.classLink RL 33 "java/lang/IllegalStateException" ∈ GW := gw_in 474 (by rfl) rfl
set_option maxRecDepth 20000 in
theorem kl_L_35 : Cond.classLink RL 35 "java/lang/IndexOutOfBoundsException" ∈ GW := gw_in 475 (by rfl) rfl
set_option maxRecDepth 20000 in
theorem kl_L_69 : Cond.classLink RL 69 RX8 ∈ GW := gw_in 630 (by rfl) rfl
set_option maxRecDepth 20000 in
theorem ki_X7 : Cond.instantiable RX7 7 ∈ GW := gw_in 50 (by rfl) rfl
set_option maxRecDepth 20000 in
theorem ki_X3 : Cond.instantiable RX3 2 ∈ GW := gw_in 58 (by rfl) rfl
set_option maxRecDepth 20000 in
theorem ki_X5 : Cond.instantiable RX5 2 ∈ GW := gw_in 72 (by rfl) rfl
set_option maxRecDepth 20000 in
theorem ki_X4 : Cond.instantiable RX4 2 ∈ GW := gw_in 87 (by rfl) rfl
set_option maxRecDepth 20000 in
theorem ki_X2 : Cond.instantiable RX2 7 ∈ GW := gw_in 105 (by rfl) rfl
set_option maxRecDepth 20000 in
theorem ki_X6 : Cond.instantiable RX6 3 ∈ GW := gw_in 140 (by rfl) rfl
set_option maxRecDepth 20000 in
theorem ki_X0 : Cond.instantiable RX0 4 ∈ GW := gw_in 159 (by rfl) rfl
set_option maxRecDepth 20000 in
theorem ki_X1 : Cond.instantiable RX1 5 ∈ GW := gw_in 182 (by rfl) rfl
set_option maxRecDepth 20000 in
theorem ki_X8 : Cond.instantiable RX8 19 ∈ GW := gw_in 631 (by rfl) rfl
end
section
/-! ===== starts, ends, calls of the layer ===== -/
theorem inc1 (a : Nat) : nI a + Int32.ofInt 1 = nI (a + 1) := nI_1 a
theorem inc2 (a : Nat) : nI a + Int32.ofInt 2 = nI (a + 2) := nI_add a 2
theorem inc6 (a : Nat) : nI a + Int32.ofInt 6 = nI (a + 6) := nI_add a 6
theorem dec1 (a : Nat) : nI (a + 1) + Int32.ofInt (-1) = nI a := pk_m1 a
theorem dec8 (a : Nat) : nI (a + 8) + Int32.ofInt (-8) = nI a := by
  rw [← nI_add a 8, show Int32.ofInt (-8) = -(nI 8) from by decide, ← Int32.sub_eq_add_neg, Int32.add_sub_cancel]
section Layer2
variable {p : Program} {l : Launch} {e : Env} {Rm : Room} {s : State} {m : MethodId} {args : Array Value} {below : List Frame} {meth : Method} {c : Code} {H : Heap} {locs : List Loc} {cells slots : Nat} {Q : State → Prop}
variable {cc : ByteArray} {nL pc : Nat} {own : String} {ls : Array Slot} {rest : List Value} {D : va_G} {ca : Nat → ClassId} {tB tS : Nat} {A : Nat → Prop} {R : Nat} {ad : Nat → Nat} {g : Nat → va_E}
theorem k_zeq (C : CallFix p m c cc nL s args GW own) {a : Nat} {off : Int} {tgt : Nat} (hdg : decode cc pc = .ok (.ifCond .eq off, 3)) (ht : (pc : Int) + off = (tgt : Int)) (ha : a < 2 ^ 31) (kt : a = 0 → W p l e Rm s m args below meth c H locs cells slots Q (F0 m tgt ls rest)) (kf : a ≠ 0 → W p l e Rm s m args below meth c H locs cells slots Q (F0 m (pc + 3) ls rest)) : W p l e Rm s m args below meth c H locs cells slots Q (F0 m pc ls (.int (nI a) :: rest)) := lv_if_eq C.1 C.2.1 hdg ht (fun h => kt ((nI_eq (b := 0) ha (by decide)).mp h)) (fun h => kf (mt (nI_eq (b := 0) ha (by decide)).mpr h))
theorem k_zne (C : CallFix p m c cc nL s args GW own) {a : Nat} {off : Int} {tgt : Nat} (hdg : decode cc pc = .ok (.ifCond .ne off, 3)) (ht : (pc : Int) + off = (tgt : Int)) (ha : a < 2 ^ 31) (kt : a ≠ 0 → W p l e Rm s m args below meth c H locs cells slots Q (F0 m tgt ls rest)) (kf : a = 0 → W p l e Rm s m args below meth c H locs cells slots Q (F0 m (pc + 3) ls rest)) : W p l e Rm s m args below meth c H locs cells slots Q (F0 m pc ls (.int (nI a) :: rest)) := lv_if_ne C.1 C.2.1 hdg ht (fun h => kt (mt (nI_eq (b := 0) ha (by decide)).mpr h)) (fun h => kf ((nI_eq (b := 0) ha (by decide)).mp h))
theorem k_zge (C : CallFix p m c cc nL s args GW own) {a : Nat} {off : Int} {tgt : Nat} (hdg : decode cc pc = .ok (.ifCond .ge off, 3)) (ht : (pc : Int) + off = (tgt : Int)) (ha : a < 2 ^ 31) (kt : W p l e Rm s m args below meth c H locs cells slots Q (F0 m tgt ls rest)) : W p l e Rm s m args below meth c H locs cells slots Q (F0 m pc ls (.int (nI a) :: rest)) := lv_if_ge C.1 C.2.1 hdg ht (fun _ => kt) (fun h => absurd (nI_pos' ha) h)
theorem k_zlt (C : CallFix p m c cc nL s args GW own) {a : Nat} {off : Int} {tgt : Nat} (hdg : decode cc pc = .ok (.ifCond .lt off, 3)) (ht : (pc : Int) + off = (tgt : Int)) (ha : a < 2 ^ 31) (kf : W p l e Rm s m args below meth c H locs cells slots Q (F0 m (pc + 3) ls rest)) : W p l e Rm s m args below meth c H locs cells slots Q (F0 m pc ls (.int (nI a) :: rest)) := lv_if_lt C.1 C.2.1 hdg ht (fun h => absurd h (nI_pos ha)) (fun _ => kf)
theorem k_zgt (C : CallFix p m c cc nL s args GW own) {a : Nat} {off : Int} {tgt : Nat} (hdg : decode cc pc = .ok (.ifCond .gt off, 3)) (ht : (pc : Int) + off = (tgt : Int)) (ha : a < 2 ^ 31) (kt : 0 < a → W p l e Rm s m args below meth c H locs cells slots Q (F0 m tgt ls rest)) (kf : a = 0 → W p l e Rm s m args below meth c H locs cells slots Q (F0 m (pc + 3) ls rest)) : W p l e Rm s m args below meth c H locs cells slots Q (F0 m pc ls (.int (nI a) :: rest)) := lv_if_gt C.1 C.2.1 hdg ht (fun h => kt ((nI_ltI (a := 0) (by decide) ha).mp h)) (fun h => kf (by have := mt (nI_ltI (a := 0) (by decide) ha).mpr h; omega))
theorem k_zle (C : CallFix p m c cc nL s args GW own) {a : Nat} {off : Int} {tgt : Nat} (hdg : decode cc pc = .ok (.ifCond .le off, 3)) (ht : (pc : Int) + off = (tgt : Int)) (ha : a < 2 ^ 31) (kt : a = 0 → W p l e Rm s m args below meth c H locs cells slots Q (F0 m tgt ls rest)) (kf : 0 < a → W p l e Rm s m args below meth c H locs cells slots Q (F0 m (pc + 3) ls rest)) : W p l e Rm s m args below meth c H locs cells slots Q (F0 m pc ls (.int (nI a) :: rest)) := lv_if_le C.1 C.2.1 hdg ht (fun h => kt (by have := (nI_leI (b := 0) ha (by decide)).mp h; omega)) (fun h => kf (by have := mt (nI_leI (b := 0) ha (by decide)).mpr h; omega))
/-- an answer that is a truth -/
abbrev bI (b : Bool) : Int32 := if b = true then 1 else 0
theorem k_beq (C : CallFix p m c cc nL s args GW own) {b : Bool} {off : Int} {tgt : Nat} (hdg : decode cc pc = .ok (.ifCond .eq off, 3)) (ht : (pc : Int) + off = (tgt : Int)) (kt : b = false → W p l e Rm s m args below meth c H locs cells slots Q (F0 m tgt ls rest)) (kf : b = true → W p l e Rm s m args below meth c H locs cells slots Q (F0 m (pc + 3) ls rest)) : W p l e Rm s m args below meth c H locs cells slots Q (F0 m pc ls (.int (bI b) :: rest)) := lv_if_eq C.1 C.2.1 hdg ht (fun h => kt (by cases b; rfl; exact absurd h (by decide))) (fun h => kf (by cases b; exact absurd rfl h; rfl))
theorem k_bne (C : CallFix p m c cc nL s args GW own) {b : Bool} {off : Int} {tgt : Nat} (hdg : decode cc pc = .ok (.ifCond .ne off, 3)) (ht : (pc : Int) + off = (tgt : Int)) (kt : b = true → W p l e Rm s m args below meth c H locs cells slots Q (F0 m tgt ls rest)) (kf : b = false → W p l e Rm s m args below meth c H locs cells slots Q (F0 m (pc + 3) ls rest)) : W p l e Rm s m args below meth c H locs cells slots Q (F0 m pc ls (.int (bI b) :: rest)) := lv_if_ne C.1 C.2.1 hdg ht (fun h => kt (by cases b; exact absurd rfl h; rfl)) (fun h => kf (by cases b; rfl; exact absurd h (by decide)))
theorem k_inc (C : CallFix p m c cc nL s args GW own) {i k : Nat} {n : Int} {a : Nat} (a' : Nat) {lv lv' : List (Nat × Value)} (hdg : decode cc pc = .ok (.iinc i n, 3)) (h : lv_has ls nL lv) (hk : lv[k]? = some (i, .int (nI a))) (hv : nI a + Int32.ofInt n = nI a') (hn : i < nL) (hl : (i, Value.int (nI a')) :: lv.filter (fun q => !(q.1 == i) && !(q.1 + 1 == i && q.2.category == 2)) = lv')
    (kk : ∀ ls' : Array Slot, lv_has ls' nL lv' → W p l e Rm s m args below meth c H locs cells slots Q (F0 m (pc + 3) ls' rest)) : W p l e Rm s m args below meth c H locs cells slots Q (F0 m pc ls rest) := lv_iinc C.1 C.2.1 hdg h hk hv hn hl kk
/-! starts -/
theorem m_start {y : MethodName} {ret : Option FieldType} {rm : Room} {av : List Value} {sz : Nat} {Qc : Array Value → State → Outcome → State → Prop} {mc ms : Nat} {free : Addr → Prop} {n : Nat}
    (hy : plainFor y = true) (hlen : (lg_sl av).length ≤ n)
    (body : ∀ (p : Program) (e : Env) (s : State) (m : MethodId) (below : List Frame) (meth : Method) (c : Code) (ls : Array Slot), s.heap.size = sz → CallFix p m c cc n s av.toArray GW y.cls → meth.sig.returnType = ret → meth.locks = false → meth.name = y.name → lv_has ls n (lv_args 0 av) → Fx D ca tB tS (AA R ad sz) s → Wd D (AA R ad sz) s R ad g s.heap [] →
      W p l e rm s m av.toArray below meth c s.heap [] 0 0 (MQ below Qc av.toArray s mc ms free) (F0 m 0 ls [])) :
    Met l y (gws y cc n ret) rm (va_Pc av (WB D ca tB tS R ad g sz)) Qc mc ms free := by
  refine va_MetF (cc := cc) (maxL := n) (ret := ret) hy rfl ?_
  intro p e s m args below meth c s₁ B hml hv
  obtain ⟨rfl, hsz, hP, hK, hD, hE⟩ := hv
  have hts := atoms_spec (ws := gws y cc n ret) B.pre
  have hown : s.vm.findClass y.cls = some m.cls := findClass_of_methodNamed B.named
  rw [lg_entry_eq]
  exact body p e s m below meth c _ hsz ⟨B.exec, B.bytes, hml, hown, fun w hw => hts w (List.mem_cons_of_mem _ hw)⟩ B.returns B.notSynchronized (name_of_methodNamed B.named B.method).1 (lv_entry av hlen) ⟨hK, hE, fun q h => Or.inr (by rw [← hsz]; exact h)⟩ ⟨hP, hD, va_S.rf⟩
/-! ends -/
theorem m_iret {g1 : Nat → va_E} {v : Int32} {post : Int32 → (Nat → va_E) → Prop} (C : CallFix p m c cc nL s args GW own) (hr : meth.sig.returnType = some .int) (hlocks : meth.locks = false) (hw : Wd D A s R ad g1 H locs) (hdg : decode cc pc = .ok (.ireturn, 1)) (hp : post v g1) : W p l e Rm s m args below meth c H locs cells slots (MQ below (va_Qi post (WE D R ad A) A) args s cells slots A) (F0 m pc ls [.int v]) :=
  W.iret C.1 C.2.1 hr (fun t ht hW => ⟨⟨v, g1, rfl, hp, ⟨by rw [ht]; exact hw.1, hw.2.1⟩⟩, hw.2.2.F ht⟩) hw.2.2.2.2 hdg
theorem m_vret {g1 : Nat → va_E} {post : (Nat → va_E) → Prop} (C : CallFix p m c cc nL s args GW own) (hr : meth.sig.returnType = none) (hlocks : meth.locks = false) (hw : Wd D A s R ad g1 H locs) (hdg : decode cc pc = .ok (.return_, 1)) (hp : post g1) : W p l e Rm s m args below meth c H locs cells slots (MQ below (va_Qv post (WE D R ad A) A) args s cells slots A) (F0 m pc ls []) :=
  W.vret C.1 C.2.1 hr (fun t ht hW => ⟨⟨g1, rfl, hp, ⟨by rw [ht]; exact hw.1, hw.2.1⟩⟩, hw.2.2.F ht⟩) hw.2.2.2.2 hdg
theorem m_lret {g1 : Nat → va_E} {v : Int64} {post : Int64 → (Nat → va_E) → Prop} (C : CallFix p m c cc nL s args GW own) (hr : meth.sig.returnType = some .long) (hlocks : meth.locks = false) (hw : Wd D A s R ad g1 H locs) (hdg : decode cc pc = .ok (.lreturn, 1)) (hp : post v g1) : W p l e Rm s m args below meth c H locs cells slots (MQ below (va_Ql post (WE D R ad A) A) args s cells slots A) (F0 m pc ls [.long v]) :=
  W.lret C.1 C.2.1 hr (fun t ht hW => ⟨⟨v, g1, rfl, hp, ⟨by rw [ht]; exact hw.1, hw.2.1⟩⟩, hw.2.2.F ht⟩) hw.2.2.2.2 hdg
theorem bI_narrow (b : Bool) : narrow .boolean (.int (bI b)) = .int (bI b) := by cases b <;> rfl
theorem m_zret {g1 : Nat → va_E} {b : Bool} {v : Int32} {post : Int32 → (Nat → va_E) → Prop} (C : CallFix p m c cc nL s args GW own) (hr : meth.sig.returnType = some .boolean) (hlocks : meth.locks = false) (hw : Wd D A s R ad g1 H locs) (hdg : decode cc pc = .ok (.ireturn, 1)) (hv : v = bI b) (hp : post v g1) : W p l e Rm s m args below meth c H locs cells slots (MQ below (va_Qi post (WE D R ad A) A) args s cells slots A) (F0 m pc ls [.int v]) := by
  subst hv
  exact W.zret C.1 C.2.1 hr (bI_narrow b) (fun t ht hW => ⟨⟨bI b, g1, rfl, hp, ⟨by rw [ht]; exact hw.1, hw.2.1⟩⟩, hw.2.2.F ht⟩) hw.2.2.2.2 hdg
/-! calls -/
theorem k_Vi (C : CallFix p m c cc nL s args GW own) (F : Fx D ca tB tS A s) (hw : Wd D A s R ad g H locs) {y : MethodName} {cc' : ByteArray} {n' : Nat} {ret' : Option FieldType} {rm : Room} {mc ms index : Nat} {As : List Value} {post : Int32 → (Nat → va_E) → Prop} {i ci : Nat} {fs : List Value} {q : vw_C} {st0 : List Value}
    (hM : Met l y (gws y cc' n' ret') rm (va_Pc (.ref (ad i) :: As) (WB D ca tB tS R ad g H.size)) (va_Qi post (WE D R ad (AA R ad H.size)) (AA R ad H.size)) mc ms (AA R ad H.size)) (hi : i < R) (he : g i = .inr (ci, fs)) (hc : vwCl[ci]? = some q)
    (cw : CallW Rm s args own q.1 index y cc' n' ret' (gws y cc' n' ret') rm mc ms As.length) (hsize : ls.size = nL) (hst : st0 = As.reverse ++ .ref (ad i) :: rest) (hW : (rest.map fun v => v.category).sum ≤ 8) (hdg : decode cc pc = .ok (.invokevirtual index, 3)) (hf : cells + mc ≤ Rm.cells ∧ slots + ms ≤ Rm.slots)
    (kk : ∀ (r : Int32) (g1 : Nat → va_E) (H1 : Heap) (locs1 : List Loc), post r g1 → Wd D A s R ad g1 H1 locs1 → W p l e Rm s m args below meth c H1 locs1 (cells + mc) (slots + ms) Q (F0 m (pc + 3) ls (.int r :: rest))) : W p l e Rm s m args below meth c H locs cells slots Q (F0 m pc ls st0) := by
  subst hst
  refine va_calli (va_runV (b := ad i) (As := As) (rest := rest) C hM cw ⟨WB.blind, va_recv F.1 hw.1 hc (ww_at i hi he), fun U hU hW => ⟨rfl, WB.make F hw hU hW⟩⟩ rfl rfl hsize rfl (lv_room hW) hdg hf) hw.2.2 (fun q _ h => AA.sub F.2.2 hw q h) (AA.sub F.2.2 hw) (fun r u t H1 locs1 ht _ hp hB _ _ hS => ?_)
  subst ht
  exact kk r u t.heap locs1 hp ⟨hB.1, hB.2.weaken (fun _ _ _ h => AA.sub F.2.2 hw _ h), hS⟩
theorem k_Vv (C : CallFix p m c cc nL s args GW own) (F : Fx D ca tB tS A s) (hw : Wd D A s R ad g H locs) {y : MethodName} {cc' : ByteArray} {n' : Nat} {ret' : Option FieldType} {rm : Room} {mc ms index : Nat} {As : List Value} {post : (Nat → va_E) → Prop} {i ci : Nat} {fs : List Value} {q : vw_C} {st0 : List Value}
    (hM : Met l y (gws y cc' n' ret') rm (va_Pc (.ref (ad i) :: As) (WB D ca tB tS R ad g H.size)) (va_Qv post (WE D R ad (AA R ad H.size)) (AA R ad H.size)) mc ms (AA R ad H.size)) (hi : i < R) (he : g i = .inr (ci, fs)) (hc : vwCl[ci]? = some q)
    (cw : CallW Rm s args own q.1 index y cc' n' ret' (gws y cc' n' ret') rm mc ms As.length) (hsize : ls.size = nL) (hst : st0 = As.reverse ++ .ref (ad i) :: rest) (hW : (rest.map fun v => v.category).sum ≤ 8) (hdg : decode cc pc = .ok (.invokevirtual index, 3)) (hf : cells + mc ≤ Rm.cells ∧ slots + ms ≤ Rm.slots)
    (kk : ∀ (g1 : Nat → va_E) (H1 : Heap) (locs1 : List Loc), post g1 → Wd D A s R ad g1 H1 locs1 → W p l e Rm s m args below meth c H1 locs1 (cells + mc) (slots + ms) Q (F0 m (pc + 3) ls rest)) : W p l e Rm s m args below meth c H locs cells slots Q (F0 m pc ls st0) := by
  subst hst
  refine va_callv (va_runV (b := ad i) (As := As) (rest := rest) C hM cw ⟨WB.blind, va_recv F.1 hw.1 hc (ww_at i hi he), fun U hU hW => ⟨rfl, WB.make F hw hU hW⟩⟩ rfl rfl hsize rfl (lv_room hW) hdg hf) hw.2.2 (fun q _ h => AA.sub F.2.2 hw q h) (AA.sub F.2.2 hw) (fun u t H1 locs1 ht _ hp hB _ _ hS => ?_)
  subst ht
  exact kk u t.heap locs1 hp ⟨hB.1, hB.2.weaken (fun _ _ _ h => AA.sub F.2.2 hw _ h), hS⟩
theorem k_Si (C : CallFix p m c cc nL s args GW own) (F : Fx D ca tB tS A s) (hw : Wd D A s R ad g H locs) {y : MethodName} {cc' : ByteArray} {n' : Nat} {ret' : Option FieldType} {rm : Room} {mc ms index : Nat} {As : List Value} {post : Int32 → (Nat → va_E) → Prop} {st0 : List Value}
    (hM : Met l y (gws y cc' n' ret') rm (va_Pc As (WB D ca tB tS R ad g H.size)) (va_Qi post (WE D R ad (AA R ad H.size)) (AA R ad H.size)) mc ms (AA R ad H.size))
    (cw : CallB Rm s args own index y cc' n' ret' (gws y cc' n' ret') rm mc ms As.length ∧ (Cond.static y).before args s = true) (hsize : ls.size = nL) (hst : st0 = As.reverse ++ rest) (hW : (rest.map fun v => v.category).sum ≤ 8) (hdg : decode cc pc = .ok (.invokestatic index, 3)) (hf : cells + mc ≤ Rm.cells ∧ slots + ms ≤ Rm.slots)
    (kk : ∀ (r : Int32) (g1 : Nat → va_E) (H1 : Heap) (locs1 : List Loc), post r g1 → Wd D A s R ad g1 H1 locs1 → W p l e Rm s m args below meth c H1 locs1 (cells + mc) (slots + ms) Q (F0 m (pc + 3) ls (.int r :: rest))) : W p l e Rm s m args below meth c H locs cells slots Q (F0 m pc ls st0) := by
  subst hst
  refine va_calli (va_runS (As := As) (rest := rest) C hM cw ⟨WB.blind, fun U hU hW => ⟨rfl, WB.make F hw hU hW⟩⟩ rfl rfl hsize rfl (lv_room hW) hdg hf) hw.2.2 (fun q _ h => AA.sub F.2.2 hw q h) (AA.sub F.2.2 hw) (fun r u t H1 locs1 ht _ hp hB _ _ hS => ?_)
  subst ht
  exact kk r u t.heap locs1 hp ⟨hB.1, hB.2.weaken (fun _ _ _ h => AA.sub F.2.2 hw _ h), hS⟩
theorem k_Sl (C : CallFix p m c cc nL s args GW own) (F : Fx D ca tB tS A s) (hw : Wd D A s R ad g H locs) {y : MethodName} {cc' : ByteArray} {n' : Nat} {ret' : Option FieldType} {rm : Room} {mc ms index : Nat} {As : List Value} {post : Int64 → (Nat → va_E) → Prop} {st0 : List Value}
    (hM : Met l y (gws y cc' n' ret') rm (va_Pc As (WB D ca tB tS R ad g H.size)) (va_Ql post (WE D R ad (AA R ad H.size)) (AA R ad H.size)) mc ms (AA R ad H.size))
    (cw : CallB Rm s args own index y cc' n' ret' (gws y cc' n' ret') rm mc ms As.length ∧ (Cond.static y).before args s = true) (hsize : ls.size = nL) (hst : st0 = As.reverse ++ rest) (hW : (rest.map fun v => v.category).sum ≤ 8) (hdg : decode cc pc = .ok (.invokestatic index, 3)) (hf : cells + mc ≤ Rm.cells ∧ slots + ms ≤ Rm.slots)
    (kk : ∀ (r : Int64) (g1 : Nat → va_E) (H1 : Heap) (locs1 : List Loc), post r g1 → Wd D A s R ad g1 H1 locs1 → W p l e Rm s m args below meth c H1 locs1 (cells + mc) (slots + ms) Q (F0 m (pc + 3) ls (.long r :: rest))) : W p l e Rm s m args below meth c H locs cells slots Q (F0 m pc ls st0) := by
  subst hst
  refine va_calll (va_runS (As := As) (rest := rest) C hM cw ⟨WB.blind, fun U hU hW => ⟨rfl, WB.make F hw hU hW⟩⟩ rfl rfl hsize rfl (lv_room hW) hdg hf) hw.2.2 (fun q _ h => AA.sub F.2.2 hw q h) (AA.sub F.2.2 hw) (fun r u t H1 locs1 ht _ hp hB _ _ hS => ?_)
  subst ht
  exact kk r u t.heap locs1 hp ⟨hB.1, hB.2.weaken (fun _ _ _ h => AA.sub F.2.2 hw _ h), hS⟩
theorem k_Sv (C : CallFix p m c cc nL s args GW own) (F : Fx D ca tB tS A s) (hw : Wd D A s R ad g H locs) {y : MethodName} {cc' : ByteArray} {n' : Nat} {ret' : Option FieldType} {rm : Room} {mc ms index : Nat} {As : List Value} {post : (Nat → va_E) → Prop} {st0 : List Value}
    (hM : Met l y (gws y cc' n' ret') rm (va_Pc As (WB D ca tB tS R ad g H.size)) (va_Qv post (WE D R ad (AA R ad H.size)) (AA R ad H.size)) mc ms (AA R ad H.size))
    (cw : CallB Rm s args own index y cc' n' ret' (gws y cc' n' ret') rm mc ms As.length ∧ (Cond.static y).before args s = true) (hsize : ls.size = nL) (hst : st0 = As.reverse ++ rest) (hW : (rest.map fun v => v.category).sum ≤ 8) (hdg : decode cc pc = .ok (.invokestatic index, 3)) (hf : cells + mc ≤ Rm.cells ∧ slots + ms ≤ Rm.slots)
    (kk : ∀ (g1 : Nat → va_E) (H1 : Heap) (locs1 : List Loc), post g1 → Wd D A s R ad g1 H1 locs1 → W p l e Rm s m args below meth c H1 locs1 (cells + mc) (slots + ms) Q (F0 m (pc + 3) ls rest)) : W p l e Rm s m args below meth c H locs cells slots Q (F0 m pc ls st0) := by
  subst hst
  refine va_callv (va_runS (As := As) (rest := rest) C hM cw ⟨WB.blind, fun U hU hW => ⟨rfl, WB.make F hw hU hW⟩⟩ rfl rfl hsize rfl (lv_room hW) hdg hf) hw.2.2 (fun q _ h => AA.sub F.2.2 hw q h) (AA.sub F.2.2 hw) (fun u t H1 locs1 ht _ hp hB _ _ hS => ?_)
  subst ht
  exact kk u t.heap locs1 hp ⟨hB.1, hB.2.weaken (fun _ _ _ h => AA.sub F.2.2 hw _ h), hS⟩
end Layer2
end
section
/-! ===== contracts over the world by roles, and their starts ===== -/
abbrev MV (l : Launch) (y : MethodName) (cc : ByteArray) (n : Nat) (rm : Room) (D : va_G) (ca : Nat → ClassId) (tB tS R : Nat) (ad : Nat → Nat) (g : Nat → va_E) (sz : Nat) (av : List Value) (post : (Nat → va_E) → Prop) : Prop :=
  Met l y (gws y cc n none) rm (va_Pc av (WB D ca tB tS R ad g sz)) (va_Qv post (WE D R ad (AA R ad sz)) (AA R ad sz)) 0 0 (AA R ad sz)
abbrev MI (l : Launch) (y : MethodName) (cc : ByteArray) (n : Nat) (ret : FieldType) (rm : Room) (D : va_G) (ca : Nat → ClassId) (tB tS R : Nat) (ad : Nat → Nat) (g : Nat → va_E) (sz : Nat) (av : List Value) (post : Int32 → (Nat → va_E) → Prop) : Prop :=
  Met l y (gws y cc n (some ret)) rm (va_Pc av (WB D ca tB tS R ad g sz)) (va_Qi post (WE D R ad (AA R ad sz)) (AA R ad sz)) 0 0 (AA R ad sz)
abbrev ML (l : Launch) (y : MethodName) (cc : ByteArray) (n : Nat) (rm : Room) (D : va_G) (ca : Nat → ClassId) (tB tS R : Nat) (ad : Nat → Nat) (g : Nat → va_E) (sz : Nat) (av : List Value) (post : Int64 → (Nat → va_E) → Prop) : Prop :=
  Met l y (gws y cc n (some .long)) rm (va_Pc av (WB D ca tB tS R ad g sz)) (va_Ql post (WE D R ad (AA R ad sz)) (AA R ad sz)) 0 0 (AA R ad sz)
section Starts
variable {l : Launch} {y : MethodName} {cc : ByteArray} {n : Nat} {rm : Room} {D : va_G} {ca : Nat → ClassId} {tB tS R : Nat} {ad : Nat → Nat} {g : Nat → va_E} {sz : Nat} {av : List Value}
theorem m_startV {post : (Nat → va_E) → Prop} (hy : plainFor y = true) (hlen : (lg_sl av).length ≤ n)
    (body : ∀ (p : Program) (e : Env) (s : State) (m : MethodId) (args : Array Value) (below : List Frame) (meth : Method) (c : Code) (ls : Array Slot) (Q : State → Prop), s.heap.size = sz → CallFix p m c cc n s args GW y.cls → meth.name = y.name → lv_has ls n (lv_args 0 av) → Fx D ca tB tS (AA R ad sz) s → Wd D (AA R ad sz) s R ad g s.heap [] →
      (∀ (H : Heap) (locs : List Loc) (ls : Array Slot) (pc : Nat) (g1 : Nat → va_E), decode cc pc = .ok (.return_, 1) → Wd D (AA R ad sz) s R ad g1 H locs → post g1 → W p l e rm s m args below meth c H locs 0 0 Q (F0 m pc ls [])) →
      W p l e rm s m args below meth c s.heap [] 0 0 Q (F0 m 0 ls [])) : MV l y cc n rm D ca tB tS R ad g sz av post :=
  m_start hy hlen (fun p e s m below meth c ls hsz C hr hlocks hnm hl F hw => body p e s m _ below meth c ls _ hsz C hnm hl F hw (fun H locs ls pc g1 hd h1 hp => m_vret C hr hlocks h1 hd hp))
theorem m_startI {post : Int32 → (Nat → va_E) → Prop} (hy : plainFor y = true) (hlen : (lg_sl av).length ≤ n)
    (body : ∀ (p : Program) (e : Env) (s : State) (m : MethodId) (args : Array Value) (below : List Frame) (meth : Method) (c : Code) (ls : Array Slot) (Q : State → Prop), s.heap.size = sz → CallFix p m c cc n s args GW y.cls → lv_has ls n (lv_args 0 av) → Fx D ca tB tS (AA R ad sz) s → Wd D (AA R ad sz) s R ad g s.heap [] →
      (∀ (H : Heap) (locs : List Loc) (ls : Array Slot) (pc : Nat) (v : Int32) (g1 : Nat → va_E), decode cc pc = .ok (.ireturn, 1) → Wd D (AA R ad sz) s R ad g1 H locs → post v g1 → W p l e rm s m args below meth c H locs 0 0 Q (F0 m pc ls [.int v])) →
      W p l e rm s m args below meth c s.heap [] 0 0 Q (F0 m 0 ls [])) : MI l y cc n .int rm D ca tB tS R ad g sz av post :=
  m_start hy hlen (fun p e s m below meth c ls hsz C hr hlocks hnm hl F hw => body p e s m _ below meth c ls _ hsz C hl F hw (fun H locs ls pc v g1 hd h1 hp => m_iret C hr hlocks h1 hd hp))
theorem m_startZ {post : Int32 → (Nat → va_E) → Prop} (hy : plainFor y = true) (hlen : (lg_sl av).length ≤ n)
    (body : ∀ (p : Program) (e : Env) (s : State) (m : MethodId) (args : Array Value) (below : List Frame) (meth : Method) (c : Code) (ls : Array Slot) (Q : State → Prop), s.heap.size = sz → CallFix p m c cc n s args GW y.cls → lv_has ls n (lv_args 0 av) → Fx D ca tB tS (AA R ad sz) s → Wd D (AA R ad sz) s R ad g s.heap [] →
      (∀ (H : Heap) (locs : List Loc) (ls : Array Slot) (pc : Nat) (b : Bool) (v : Int32) (g1 : Nat → va_E), decode cc pc = .ok (.ireturn, 1) → Wd D (AA R ad sz) s R ad g1 H locs → v = bI b → post (bI b) g1 → W p l e rm s m args below meth c H locs 0 0 Q (F0 m pc ls [.int v])) →
      W p l e rm s m args below meth c s.heap [] 0 0 Q (F0 m 0 ls [])) : MI l y cc n .boolean rm D ca tB tS R ad g sz av post :=
  m_start hy hlen (fun p e s m below meth c ls hsz C hr hlocks hnm hl F hw => body p e s m _ below meth c ls _ hsz C hl F hw (fun H locs ls pc b v g1 hd h1 hv hp => m_zret C hr hlocks h1 hd hv (by rw [hv]; exact hp)))
theorem m_startL {post : Int64 → (Nat → va_E) → Prop} (hy : plainFor y = true) (hlen : (lg_sl av).length ≤ n)
    (body : ∀ (p : Program) (e : Env) (s : State) (m : MethodId) (args : Array Value) (below : List Frame) (meth : Method) (c : Code) (ls : Array Slot) (Q : State → Prop), s.heap.size = sz → CallFix p m c cc n s args GW y.cls → lv_has ls n (lv_args 0 av) → Fx D ca tB tS (AA R ad sz) s → Wd D (AA R ad sz) s R ad g s.heap [] →
      (∀ (H : Heap) (locs : List Loc) (ls : Array Slot) (pc : Nat) (v : Int64) (g1 : Nat → va_E), decode cc pc = .ok (.lreturn, 1) → Wd D (AA R ad sz) s R ad g1 H locs → post v g1 → W p l e rm s m args below meth c H locs 0 0 Q (F0 m pc ls [.long v])) →
      W p l e rm s m args below meth c s.heap [] 0 0 Q (F0 m 0 ls [])) : ML l y cc n rm D ca tB tS R ad g sz av post :=
  m_start hy hlen (fun p e s m below meth c ls hsz C hr hlocks hnm hl F hw => body p e s m _ below meth c ls _ hsz C hl F hw (fun H locs ls pc v g1 hd h1 hp => m_lret C hr hlocks h1 hd hp))
end Starts
/-- a loop by a counter: what n rounds make of a -/
def fr {α : Type} (step : Nat → α → α) : Nat → α → α
  | 0, a => a
  | n + 1, a => step n (fr step n a)
end
section
/-! ===== further rows of the layer ===== -/
section Layer3
variable {p : Program} {l : Launch} {e : Env} {Rm : Room} {s : State} {m : MethodId} {args : Array Value} {below : List Frame} {meth : Method} {c : Code} {H : Heap} {locs : List Loc} {cells slots : Nat} {Q : State → Prop}
variable {cc : ByteArray} {nL pc : Nat} {own : String} {ls : Array Slot} {rest : List Value} {D : va_G} {ca : Nat → ClassId} {tB tS : Nat} {A : Nat → Prop} {R : Nat} {ad : Nat → Nat} {g : Nat → va_E}
theorem k_ialdR (C : CallFix p m c cc nL s args GW own) (F : Fx D ca tB tS A s) (hw : Wd D A s R ad g H locs) (i : Nat) {n : Nat} {f : Nat → Int32} (hi : i < R) (he : g i = ia ca n f) (j : Nat) (hj : j < n) (hn : n < 2 ^ 31) (hdg : decode cc pc = .ok (.iaload, 1))
    (kk : W p l e Rm s m args below meth c H locs cells slots Q (F0 m (pc + 1) ls (.int (f j) :: rest))) : W p l e Rm s m args below meth c H locs cells slots Q (F0 m pc ls (.int (nI j) :: .ref (ad i) :: rest)) := by
  refine va_iald C.1 C.2.1 F.1 hw.1 i 0 (ww_at i hi he) rfl (vp_in_nI hj hn) hdg ?_
  rw [nI_clamp (by omega)]
  exact kk
theorem k_iastR (C : CallFix p m c cc nL s args GW own) (F : Fx D ca tB tS A s) (hw : Wd D A s R ad g H locs) (i : Nat) {n : Nat} {f : Nat → Int32} (hi : i < R) (he : g i = ia ca n f) (j : Nat) (x : Int32) (hj : j < n) (hn : n < 2 ^ 31) (hdg : decode cc pc = .ok (.iastore, 1))
    (kk : ∀ (H1 : Heap) (locs1 : List Loc), Wd D A s R ad (va_up g i (ia ca n (upd f j x))) H1 locs1 → W p l e Rm s m args below meth c H1 locs1 cells slots Q (F0 m (pc + 1) ls rest)) : W p l e Rm s m args below meth c H locs cells slots Q (F0 m pc ls (.int x :: .int (nI j) :: .ref (ad i) :: rest)) := by
  refine va_iast C.1 C.2.1 F.1 hw.1 hw.2.1 hw.2.2 i 0 (ww_at i hi he) rfl (vp_in_nI hj hn) hdg (fun H1 locs1 h1 h2 h3 => ?_)
  rw [ww_set, nI_clamp (by omega)] at h1 h2
  exact kk H1 locs1 ⟨h1, h2, h3⟩
theorem k_bald (C : CallFix p m c cc nL s args GW own) (F : Fx D ca tB tS A s) (hw : Wd D A s R ad g H locs) (i : Nat) {n : Nat} {f : Nat → Int32} (hi : i < R) (he : g i = ba ca n f) (j : Nat) (hj : j < n) (hn : n < 2 ^ 31) (hdg : decode cc pc = .ok (.baload, 1))
    (kk : W p l e Rm s m args below meth c H locs cells slots Q (F0 m (pc + 1) ls (.int (f j) :: rest))) : W p l e Rm s m args below meth c H locs cells slots Q (F0 m pc ls (.int (nI j) :: .ref (ad i) :: rest)) := by
  refine va_bald C.1 C.2.1 F.1 hw.1 i 1 (ww_at i hi he) rfl (vp_in_nI hj hn) hdg ?_
  rw [nI_clamp (by omega)]
  exact kk
theorem k_bast (C : CallFix p m c cc nL s args GW own) (F : Fx D ca tB tS A s) (hw : Wd D A s R ad g H locs) (i : Nat) {n : Nat} {f : Nat → Int32} {x : Int32} (hi : i < R) (he : g i = ba ca n f) (j : Nat) (hj : j < n) (hn : n < 2 ^ 31) (hdg : decode cc pc = .ok (.bastore, 1))
    (kk : ∀ (H1 : Heap) (locs1 : List Loc), Wd D A s R ad (va_up g i (ba ca n (upd f j (vp_nar .byte x)))) H1 locs1 → W p l e Rm s m args below meth c H1 locs1 cells slots Q (F0 m (pc + 1) ls rest)) : W p l e Rm s m args below meth c H locs cells slots Q (F0 m pc ls (.int x :: .int (nI j) :: .ref (ad i) :: rest)) := by
  refine va_bast C.1 C.2.1 F.1 hw.1 hw.2.1 hw.2.2 i 1 (ww_at i hi he) rfl (vp_in_nI hj hn) hdg (fun H1 locs1 h1 h2 h3 => ?_)
  rw [ww_set, nI_clamp (by omega)] at h1 h2
  exact kk H1 locs1 ⟨h1, h2, h3⟩
theorem k_getsB (C : CallFix p m c cc nL s args GW own) (F : Fx D ca tB tS A s) (hw : Wd D A s R ad g H locs) {index : Nat} (hl : Cond.fieldLink own index RX4 "BELOW" "[I" ∈ GW) (hdg : decode cc pc = .ok (.getstatic index, 3)) (kk : W p l e Rm s m args below meth c H locs cells slots Q (F0 m (pc + 3) ls (.ref tB :: rest))) : W p l e Rm s m args below meth c H locs cells slots Q (F0 m pc ls rest) :=
  va_gets C.1 C.2.1 F.2.1.2.1.1 hw.2.2 C.2.2.2.1 (C.2.2.2.2 _ hl) (fun _ h => h) hdg kk
theorem k_getsS (C : CallFix p m c cc nL s args GW own) (F : Fx D ca tB tS A s) (hw : Wd D A s R ad g H locs) {index : Nat} (hl : Cond.fieldLink own index RX4 "SIZES" "[I" ∈ GW) (hdg : decode cc pc = .ok (.getstatic index, 3)) (kk : W p l e Rm s m args below meth c H locs cells slots Q (F0 m (pc + 3) ls (.ref tS :: rest))) : W p l e Rm s m args below meth c H locs cells slots Q (F0 m pc ls rest) :=
  va_gets C.1 C.2.1 F.2.1.2.2.1.1 hw.2.2 C.2.2.2.1 (C.2.2.2.2 _ hl) (fun _ h => h) hdg kk
theorem k_tabB (C : CallFix p m c cc nL s args GW own) (F : Fx D ca tB tS A s) (hw : Wd D A s R ad g H locs) (j : Nat) (hj : j < 11) (hdg : decode cc pc = .ok (.iaload, 1)) (kk : W p l e Rm s m args below meth c H locs cells slots Q (F0 m (pc + 1) ls (.int (nI (fBelow.getD j 0)) :: rest))) : W p l e Rm s m args below meth c H locs cells slots Q (F0 m pc ls (.int (nI j) :: .ref tB :: rest)) :=
  va_ti C.1 C.2.1 F.2.1.2.1.2 hw.2.2 (vp_in_nI hj (by decide)) (by rw [nI_clamp (by omega)]) hdg kk
theorem k_tabS (C : CallFix p m c cc nL s args GW own) (F : Fx D ca tB tS A s) (hw : Wd D A s R ad g H locs) (j : Nat) (hj : j < 11) (hdg : decode cc pc = .ok (.iaload, 1)) (kk : W p l e Rm s m args below meth c H locs cells slots Q (F0 m (pc + 1) ls (.int (nI (fSizes.getD j 0)) :: rest))) : W p l e Rm s m args below meth c H locs cells slots Q (F0 m pc ls (.int (nI j) :: .ref tS :: rest)) :=
  va_ti C.1 C.2.1 F.2.1.2.2.1.2 hw.2.2 (vp_in_nI hj (by decide)) (by rw [nI_clamp (by omega)]) hdg kk
theorem k_tlenB (C : CallFix p m c cc nL s args GW own) (F : Fx D ca tB tS A s) (hw : Wd D A s R ad g H locs) (hdg : decode cc pc = .ok (.arraylength, 1)) (kk : W p l e Rm s m args below meth c H locs cells slots Q (F0 m (pc + 1) ls (.int (nI 11) :: rest))) : W p l e Rm s m args below meth c H locs cells slots Q (F0 m pc ls (.ref tB :: rest)) :=
  va_tlen C.1 C.2.1 F.2.1.2.1.2 hw.2.2 rfl hdg kk
theorem k_tlenS (C : CallFix p m c cc nL s args GW own) (F : Fx D ca tB tS A s) (hw : Wd D A s R ad g H locs) (hdg : decode cc pc = .ok (.arraylength, 1)) (kk : W p l e Rm s m args below meth c H locs cells slots Q (F0 m (pc + 1) ls (.int (nI 11) :: rest))) : W p l e Rm s m args below meth c H locs cells slots Q (F0 m pc ls (.ref tS :: rest)) :=
  va_tlen C.1 C.2.1 F.2.1.2.2.1.2 hw.2.2 rfl hdg kk
theorem k_lrem (C : CallFix p m c cc nL s args GW own) {a b : Nat} (hdg : decode cc pc = .ok (.lrem, 1)) (ha : a < 2 ^ 63) (h0 : 0 < b) (hb : b < 2 ^ 63) (kk : W p l e Rm s m args below meth c H locs cells slots Q (F0 m (pc + 1) ls (.long (lN (a % b)) :: rest))) : W p l e Rm s m args below meth c H locs cells slots Q (F0 m pc ls (.long (lN b) :: .long (lN a) :: rest)) :=
  lv_lrem C.1 C.2.1 hdg (fun h => by have := (pk_lEQ (b := 0) hb (by decide)).mp h; omega) (k_tl (pk_lRem ha h0 hb) kk)
end Layer3
/-! ===== longs (rows of laws/BITS.to-paste) and the mix ===== -/
theorem wb_tb (n : Nat) : (lN n).toBitVec = BitVec.ofNat 64 n := rfl
theorem wb_inj {a b : Int64} (h : a.toBitVec = b.toBitVec) : a = b := Int64.toBitVec_inj.mp h
theorem wb_tn {n : Nat} (h : n < 2 ^ 64) : (lN n).toBitVec.toNat = n := by rw [wb_tb, BitVec.toNat_ofNat, Nat.mod_eq_of_lt h]
theorem wb_of32 (x : Int32) : ∃ n, n < 2 ^ 32 ∧ x = nI n := ⟨x.toBitVec.toNat, x.toBitVec.isLt, Int32.toBitVec_inj.mp (by show _ = BitVec.ofNat 32 _; simp)⟩
theorem wb_cu : ∀ k, k < 64 → ((nI k).toInt64.toUInt64 &&& Int64.toUInt64 63) = UInt64.ofNat k := by decide +kernel
theorem wb_mod (n : Nat) : lN n = lN (n % 2 ^ 64) := wb_inj (by rw [wb_tb, wb_tb]; apply BitVec.eq_of_toNat_eq; rw [BitVec.toNat_ofNat, BitVec.toNat_ofNat, Nat.mod_mod])
theorem wb_shr {n k : Nat} (hn : n < 2 ^ 64) (hk : k < 64) : ((lN n).toUInt64 >>> ((nI k).toInt64.toUInt64 &&& Int64.toUInt64 63)).toInt64 = lN (n / 2 ^ k) := by
  rw [wb_cu k hk]
  apply wb_inj
  apply BitVec.eq_of_toNat_eq
  show ((lN n).toUInt64 >>> UInt64.ofNat k).toNat = (BitVec.ofNat 64 _).toNat
  have h1 : (UInt64.ofNat k).toNat = k := by
    show (BitVec.ofNat 64 k).toNat = k
    rw [BitVec.toNat_ofNat, Nat.mod_eq_of_lt (by omega)]
  have h2 : (lN n).toUInt64.toNat = n := wb_tn hn
  rw [UInt64.toNat_shiftRight, h1, h2, Nat.mod_eq_of_lt hk, Nat.shiftRight_eq_div_pow, BitVec.toNat_ofNat, Nat.mod_eq_of_lt (Nat.lt_of_le_of_lt (Nat.div_le_self _ _) hn)]
theorem lN_xor (a b : Nat) : lN a ^^^ lN b = lN (a ^^^ b) := wb_inj (by simp [lN])
def mz1 (y s : Nat) : Nat := (y + (s + 1) * 0x9E3779B97F4A7C15) % 2 ^ 64
def mz2 (z : Nat) : Nat := (z ^^^ (z / 2 ^ 30)) * 0xBF58476D1CE4E5B9 % 2 ^ 64
def mz3 (z : Nat) : Nat := (z ^^^ (z / 2 ^ 27)) * 0x94D049BB133111EB % 2 ^ 64
def mz4 (z : Nat) : Nat := z ^^^ (z / 2 ^ 31)
def mixN (y s : Nat) : Nat := mz4 (mz3 (mz2 (mz1 y s)))
/-- by choice, so that nothing unfolds it unasked -/
theorem chN_ex : ∃ f : Nat → Nat → Nat → Nat, ∀ y s m, f y s m = mixN y s / 2 ^ 32 % m := ⟨fun y s m => mixN y s / 2 ^ 32 % m, fun _ _ _ => rfl⟩
noncomputable def chN : Nat → Nat → Nat → Nat := Classical.choose chN_ex
theorem chN_eq (y s m : Nat) : chN y s m = mixN y s / 2 ^ 32 % m := Classical.choose_spec chN_ex y s m
theorem mz1_lt (y s : Nat) : mz1 y s < 2 ^ 64 := Nat.mod_lt _ (by decide)
theorem mz2_lt (z : Nat) : mz2 z < 2 ^ 64 := Nat.mod_lt _ (by decide)
theorem mz3_lt (z : Nat) : mz3 z < 2 ^ 64 := Nat.mod_lt _ (by decide)
theorem mz4_lt {z : Nat} (h : z < 2 ^ 64) : mz4 z < 2 ^ 64 := Nat.xor_lt_two_pow h (Nat.lt_of_le_of_lt (Nat.div_le_self _ _) h)
theorem mixN_lt (y s : Nat) : mixN y s < 2 ^ 64 := mz4_lt (mz3_lt _)
theorem mzr1 (y s : Nat) (hs : s < 100) : lN y + (nI (s + 1)).toInt64 * (-7046029254386353131 : Int64) = lN (mz1 y s) := by
  rw [nI_l (by omega), show (-7046029254386353131 : Int64) = lN 0x9E3779B97F4A7C15 from by decide, lN_mul, lN_add, wb_mod]
  rfl
theorem mzr2 {z : Nat} (h : z < 2 ^ 64) : (lN z ^^^ ((lN z).toUInt64 >>> ((nI 30).toInt64.toUInt64 &&& Int64.toUInt64 63)).toInt64) * (-4658895280553007687 : Int64) = lN (mz2 z) := by
  rw [wb_shr h (by decide), lN_xor, show (-4658895280553007687 : Int64) = lN 0xBF58476D1CE4E5B9 from by decide, lN_mul, wb_mod]
  rfl
theorem mzr3 {z : Nat} (h : z < 2 ^ 64) : (lN z ^^^ ((lN z).toUInt64 >>> ((nI 27).toInt64.toUInt64 &&& Int64.toUInt64 63)).toInt64) * (-7723592293110705685 : Int64) = lN (mz3 z) := by
  rw [wb_shr h (by decide), lN_xor, show (-7723592293110705685 : Int64) = lN 0x94D049BB133111EB from by decide, lN_mul, wb_mod]
  rfl
theorem mzr4 {z : Nat} (h : z < 2 ^ 64) : lN z ^^^ ((lN z).toUInt64 >>> ((nI 31).toInt64.toUInt64 &&& Int64.toUInt64 63)).toInt64 = lN (mz4 z) := by
  rw [wb_shr h (by decide), lN_xor]
  rfl
theorem mzr5 {z : Nat} (h : z < 2 ^ 64) : ((lN z).toUInt64 >>> ((nI 32).toInt64.toUInt64 &&& Int64.toUInt64 63)).toInt64 = lN (z / 2 ^ 32) := wb_shr h (by decide)
theorem hi32 {z : Nat} (h : z < 2 ^ 64) : z / 2 ^ 32 < 2 ^ 32 := by omega
/-! ===== small numbers ===== -/
def prN (p : Nat) : Bool := decide (∀ d, d < p → 2 ≤ d → p % d ≠ 0)
def lpF : Nat → Nat → Nat
  | 0, p => p
  | n + 1, p => if prN p = true then p else lpF n (p + 1)
def lpN (l : Nat) : Nat := lpF 8 l
theorem lp_tab : ∀ l, l < 60 → 12 ≤ l → prN (lpN l) = true ∧ lpN l < 2 * l ∧ lpN l ≤ 61 ∧ l ≤ lpN l ∧ ∀ q, q < lpN l → l ≤ q → prN q = false := by decide +kernel
theorem prN_small {p d : Nat} (h : ∀ k, k < d → 2 ≤ k → p % k ≠ 0) (hd : p < d * d) (hp : 0 < p) : prN p = true := by
  unfold prN
  rw [decide_eq_true_iff]
  intro k hk h2 h0
  by_cases hkd : k < d
  · exact h k hkd h2 h0
  · have hq : k * (p / k) = p := by have := Nat.div_add_mod p k; omega
    generalize p / k = q at hq
    have h3 : q < d := by
      by_cases hx : q < d
      · exact hx
      · exfalso
        have : d * d ≤ k * q := Nat.mul_le_mul (by omega) (by omega)
        omega
    have h4 : 2 ≤ q := by
      by_cases h5 : q = 0
      · rw [h5, Nat.mul_zero] at hq; omega
      · by_cases h6 : q = 1
        · rw [h6, Nat.mul_one] at hq; omega
        · omega
    refine h q h3 h4 ?_
    rw [← hq]
    exact Nat.mul_mod_left _ _
def szN (v : Nat) : Nat := if v < 5 then 1 else if v < 505 then 2 else if v < 671 then 3 else if v < 754 then 4 else if v < 804 then 5 else if v < 837 then 6 else if v < 861 then 7 else if v < 879 then 8 else if v < 900 then 10 else if v < 960 then 20 else 40
theorem sz_tab {v i : Nat} (hi : i < 11) (h : ∀ j, j < i → fBelow.getD j 0 ≤ v) (hv : v < fBelow.getD i 0) : fSizes.getD i 0 = szN v := by
  match i, hi with
  | 0, _ =>
    have h2 : v < 5 := hv
    show 1 = szN v
    unfold szN
    (repeat' split) <;> omega
  | 1, _ =>
    have h1 : 5 ≤ v := h 0 (by omega)
    have h2 : v < 505 := hv
    show 2 = szN v
    unfold szN
    (repeat' split) <;> omega
  | 2, _ =>
    have h1 : 505 ≤ v := h 1 (by omega)
    have h2 : v < 671 := hv
    show 3 = szN v
    unfold szN
    (repeat' split) <;> omega
  | 3, _ =>
    have h1 : 671 ≤ v := h 2 (by omega)
    have h2 : v < 754 := hv
    show 4 = szN v
    unfold szN
    (repeat' split) <;> omega
  | 4, _ =>
    have h1 : 754 ≤ v := h 3 (by omega)
    have h2 : v < 804 := hv
    show 5 = szN v
    unfold szN
    (repeat' split) <;> omega
  | 5, _ =>
    have h1 : 804 ≤ v := h 4 (by omega)
    have h2 : v < 837 := hv
    show 6 = szN v
    unfold szN
    (repeat' split) <;> omega
  | 6, _ =>
    have h1 : 837 ≤ v := h 5 (by omega)
    have h2 : v < 861 := hv
    show 7 = szN v
    unfold szN
    (repeat' split) <;> omega
  | 7, _ =>
    have h1 : 861 ≤ v := h 6 (by omega)
    have h2 : v < 879 := hv
    show 8 = szN v
    unfold szN
    (repeat' split) <;> omega
  | 8, _ =>
    have h1 : 879 ≤ v := h 7 (by omega)
    have h2 : v < 900 := hv
    show 10 = szN v
    unfold szN
    (repeat' split) <;> omega
  | 9, _ =>
    have h1 : 900 ≤ v := h 8 (by omega)
    have h2 : v < 960 := hv
    show 20 = szN v
    unfold szN
    (repeat' split) <;> omega
  | 10, _ =>
    have h1 : 960 ≤ v := h 9 (by omega)
    have h2 : v < 1000 := hv
    show 40 = szN v
    unfold szN
    (repeat' split) <;> omega
section Layer3b
variable {p : Program} {l : Launch} {e : Env} {Rm : Room} {s : State} {m : MethodId} {args : Array Value} {below : List Frame} {meth : Method} {c : Code} {H : Heap} {locs : List Loc} {cells slots : Nat} {Q : State → Prop}
variable {cc : ByteArray} {nL pc : Nat} {own : String} {ls : Array Slot} {rest : List Value} {D : va_G} {ca : Nat → ClassId} {tB tS : Nat} {A : Nat → Prop} {R : Nat} {ad : Nat → Nat} {g : Nat → va_E}
theorem k_alenR (C : CallFix p m c cc nL s args GW own) (F : Fx D ca tB tS A s) (hw : Wd D A s R ad g H locs) (i : Nat) {n : Nat} {f : Nat → Int32} (hi : i < R) (he : g i = ia ca n f) (hdg : decode cc pc = .ok (.arraylength, 1))
    (kk : W p l e Rm s m args below meth c H locs cells slots Q (F0 m (pc + 1) ls (.int (nI n) :: rest))) : W p l e Rm s m args below meth c H locs cells slots Q (F0 m pc ls (.ref (ad i) :: rest)) :=
  va_alen C.1 C.2.1 F.1 hw.1 i 0 (ww_at i hi he) (ty := .int) rfl rfl hdg kk
end Layer3b
end
section
/-! ===== methods that may throw ===== -/
def xNs : List String := ["java/lang/RuntimeException", "java/lang/Exception"]
def XX (D : va_G) (R : Nat) (ad : Nat → Nat) (A : Nat → Prop) (px : String → (Nat → va_E) → Prop) : String → State → State → Prop := vx_X (fun u : String × (Nat → va_E) => px u.1 u.2) (fun E u t => E = u.1 ∧ WE D R ad A u.2 t) A
abbrev XMI (l : Launch) (y : MethodName) (cc : ByteArray) (n : Nat) (ret : FieldType) (rm : Room) (D : va_G) (ca : Nat → ClassId) (tB tS R : Nat) (ad : Nat → Nat) (g : Nat → va_E) (sz : Nat) (av : List Value) (post : Int32 → (Nat → va_E) → Prop) (px : String → (Nat → va_E) → Prop) : Prop :=
  vx_Met l y (gws y cc n (some ret)) rm (va_Pc av (WB D ca tB tS R ad g sz)) (va_Qi post (WE D R ad (AA R ad sz)) (AA R ad sz)) (XX D R ad (AA R ad sz) px) 1 6 (AA R ad sz)
abbrev XMV (l : Launch) (y : MethodName) (cc : ByteArray) (n : Nat) (rm : Room) (D : va_G) (ca : Nat → ClassId) (tB tS R : Nat) (ad : Nat → Nat) (g : Nat → va_E) (sz : Nat) (av : List Value) (post : (Nat → va_E) → Prop) (px : String → (Nat → va_E) → Prop) : Prop :=
  vx_Met l y (gws y cc n none) rm (va_Pc av (WB D ca tB tS R ad g sz)) (va_Qv post (WE D R ad (AA R ad sz)) (AA R ad sz)) (XX D R ad (AA R ad sz) px) 1 6 (AA R ad sz)
def TW (own cls : String) (ik ic : Nat) : Prop := Bundle.fit cls = true ∧ Cond.classLink own ik cls ∈ GW ∧ Cond.initialized cls ∈ GW ∧ (∀ w ∈ vx_at0 own ic cls xNs, w ∈ GW ∨ w ∈ NW) ∧ ∀ w ∈ Cond.classLink own ik cls :: Cond.initialized cls :: vx_at0 own ic cls xNs, vx_ot w = true
theorem nw_tab {w : Cond} (h : w ∈ NW) : w.onTables = true := by
  have hn := (List.mem_filter.mp h).2
  cases w <;> first | rfl | cases hn
theorem xNs_fit : ∀ n ∈ xNs, Bundle.fit n = true := by decide +kernel
theorem tw_U : TW RX7 xU 66 68 := ⟨by decide +kernel, by decide +kernel, by decide +kernel, by decide +kernel, by decide +kernel⟩
theorem tw_A : TW RX7 xA 77 79 := ⟨by decide +kernel, by decide +kernel, by decide +kernel, by decide +kernel, by decide +kernel⟩
theorem tw_I : TW RX7 xI 101 103 := ⟨by decide +kernel, by decide +kernel, by decide +kernel, by decide +kernel, by decide +kernel⟩
theorem tw_O : TW RX7 xO 110 112 := ⟨by decide +kernel, by decide +kernel, by decide +kernel, by decide +kernel, by decide +kernel⟩
section Throws
variable {p : Program} {l : Launch} {e : Env} {Rm : Room} {s : State} {m : MethodId} {args : Array Value} {below : List Frame} {meth : Method} {c : Code} {H : Heap} {locs : List Loc} {cells slots : Nat} {Q : State → Prop}
variable {cc : ByteArray} {nL pc : Nat} {own : String} {ls : Array Slot} {rest : List Value} {D : va_G} {ca : Nat → ClassId} {tB tS : Nat} {A : Nat → Prop} {R : Nat} {ad : Nat → Nat} {g : Nat → va_E}
theorem k_throw {Qc : Array Value → State → Outcome → State → Prop} {px : String → (Nat → va_E) → Prop} {cls : String} {ik ic mc ms : Nat} (C : CallFix p m c cc nL s args GW own) (F : Fx D ca tB tS A s) (hw : Wd D A s R ad g H locs) (hlt : l.stackTraces = false) (hlocks : meth.locks = false) (hno : ∀ x ∈ c.exceptionTable.toList, False) (T : TW own cls ik ic) (hls : ls.size = nL)
    (d0 : decode cc pc = .ok (.new ik, 3)) (d3 : decode cc (pc + 3) = .ok (.dup, 1)) (d4 : decode cc (pc + 4) = .ok (.invokespecial ic, 3)) (d7 : decode cc (pc + 7) = .ok (.athrow, 1)) (hfr : 5 < Rm.frames) (hlo : (rest.map fun v => v.category).sum + 81 ≤ Rm.locals) (hce : cells + 1 ≤ Rm.cells) (hsl : slots + 6 ≤ Rm.slots) (hc : cells + 1 ≤ mc) (hs : slots + 6 ≤ ms) (hp : px cls g) :
    W p l e Rm s m args below meth c H locs cells slots (vx_MQ below Qc (XX D R ad A px) args s mc ms A) (F0 m pc ls rest) := by
  refine vx_throw0 (names := xNs) (A := A) C.1 C.2.1 hlt C.2.2.2.1 T.1 xNs_fit (C.2.2.2.2 _ T.2.1) (C.2.2.2.2 _ T.2.2.1) (fun w hw' => ?_) T.2.2.2.2 F.2.1.2.2.2.1 F.2.1.2.2.2.2.1 hw.2.2 (hls.trans C.2.2.1.symm) d0 d3 d4 d7 (fun x hx => absurd trivial (fun _ => hno x hx)) hfr hlo hce hsl hlocks (fun t ha hz hk => ?_) hw.2.2.2.2 hc hs
  · rcases T.2.2.2.1 w hw' with h | h
    · exact C.2.2.2.2 _ h
    · exact va_Nw.use (nw_tab h) (F.2.1.1 _ h)
  · refine ⟨(cls, g), hp, ⟨rfl, hw.1.kept (fun k q hq => hk _ (hw.1 k q hq).lt), hw.2.1⟩, Nat.le_trans hw.2.2.1 hz, fun q h1 h2 => ?_⟩
    rw [hk q (Nat.lt_of_lt_of_le h1 hw.2.2.1)]
    exact hw.2.2.2.1 q h1 h2
theorem x_start {y : MethodName} {ret : Option FieldType} {rm : Room} {av : List Value} {sz : Nat} {Qc : Array Value → State → Outcome → State → Prop} {XC : String → State → State → Prop} {mc ms : Nat} {free : Addr → Prop} {n : Nat}
    (hy : plainName y.cls = true) (hlen : (lg_sl av).length ≤ n)
    (body : ∀ (p : Program) (e : Env) (s : State) (m : MethodId) (below : List Frame) (meth : Method) (c : Code) (ls : Array Slot), s.heap.size = sz → CallFix p m c cc n s av.toArray GW y.cls → meth.sig.returnType = ret → meth.locks = false → (∀ x ∈ c.exceptionTable.toList, False) → lv_has ls n (lv_args 0 av) → Fx D ca tB tS (AA R ad sz) s → Wd D (AA R ad sz) s R ad g s.heap [] →
      W p l e rm s m av.toArray below meth c s.heap [] 0 0 (vx_MQ below Qc XC av.toArray s mc ms free) (F0 m 0 ls [])) :
    vx_Met l y (gws y cc n ret) rm (va_Pc av (WB D ca tB tS R ad g sz)) Qc XC mc ms free := by
  refine vx_ofW (cc := cc) (maxL := n) (ret := ret) hy rfl ?_
  intro p e s m args below meth c s₁ B hml hno hv
  obtain ⟨rfl, hsz, hP, hK, hD, hE⟩ := hv
  have hts := atoms_spec (ws := gws y cc n ret) B.pre
  have hown : s.vm.findClass y.cls = some m.cls := findClass_of_methodNamed B.named
  rw [lg_entry_eq]
  exact body p e s m below meth c _ hsz ⟨B.exec, B.bytes, hml, hown, fun w hw => hts w (List.mem_cons_of_mem _ hw)⟩ B.returns B.notSynchronized hno (lv_entry av hlen) ⟨hK, hE, fun q h => Or.inr (by rw [← hsz]; exact h)⟩ ⟨hP, hD, va_S.rf⟩
/-- a throw, as the walk of a method sees it -/
def Thr (p : Program) (l : Launch) (e : Env) (rm : Room) (s : State) (m : MethodId) (args : Array Value) (below : List Frame) (meth : Method) (c : Code) (cc : ByteArray) (n : Nat) (own : String) (D : va_G) (A : Nat → Prop) (R : Nat) (ad : Nat → Nat) (px : String → (Nat → va_E) → Prop) (Q : State → Prop) : Prop :=
  ∀ (H : Heap) (locs : List Loc) (ls : Array Slot) (pc : Nat) (rest : List Value) (g1 : Nat → va_E) (cls : String) (ik ic : Nat), TW own cls ik ic → Wd D A s R ad g1 H locs → ls.size = n → decode cc pc = .ok (.new ik, 3) → decode cc (pc + 3) = .ok (.dup, 1) → decode cc (pc + 4) = .ok (.invokespecial ic, 3) → decode cc (pc + 7) = .ok (.athrow, 1) → 5 < rm.frames → (rest.map fun v => v.category).sum + 81 ≤ rm.locals → 1 ≤ rm.cells → 6 ≤ rm.slots → px cls g1 → W p l e rm s m args below meth c H locs 0 0 Q (F0 m pc ls rest)
theorem x_startI {y : MethodName} {rm : Room} {av : List Value} {sz : Nat} {n : Nat} {post : Int32 → (Nat → va_E) → Prop} {px : String → (Nat → va_E) → Prop} (hlt : l.stackTraces = false) (hy : plainName y.cls = true) (hlen : (lg_sl av).length ≤ n)
    (body : ∀ (p : Program) (e : Env) (s : State) (m : MethodId) (args : Array Value) (below : List Frame) (meth : Method) (c : Code) (ls : Array Slot) (Q : State → Prop), s.heap.size = sz → CallFix p m c cc n s args GW y.cls → lv_has ls n (lv_args 0 av) → Fx D ca tB tS (AA R ad sz) s → Wd D (AA R ad sz) s R ad g s.heap [] →
      (∀ (H : Heap) (locs : List Loc) (ls : Array Slot) (pc : Nat) (v : Int32) (g1 : Nat → va_E), decode cc pc = .ok (.ireturn, 1) → Wd D (AA R ad sz) s R ad g1 H locs → post v g1 → W p l e rm s m args below meth c H locs 0 0 Q (F0 m pc ls [.int v])) →
      Thr p l e rm s m args below meth c cc n y.cls D (AA R ad sz) R ad px Q →
      W p l e rm s m args below meth c s.heap [] 0 0 Q (F0 m 0 ls [])) : XMI l y cc n .int rm D ca tB tS R ad g sz av post px :=
  x_start hy hlen (fun p e s m below meth c ls hsz C hr hlocks hno hl F hw => body p e s m _ below meth c ls _ hsz C hl F hw (fun H locs ls pc v g1 hd h1 hp => vx_ret (W.widen (k := 1) (n := 6) (by decide) (by decide) (m_iret C hr hlocks h1 hd hp))) (fun H locs ls pc rest g1 cls ik ic T h1 hls d0 d3 d4 d7 hfr hlo hce hsl hp => k_throw C F h1 hlt hlocks hno T hls d0 d3 d4 d7 hfr hlo (by omega) (by omega) (by decide) (by decide) hp))
theorem x_startZ {y : MethodName} {rm : Room} {av : List Value} {sz : Nat} {n : Nat} {post : Int32 → (Nat → va_E) → Prop} {px : String → (Nat → va_E) → Prop} (hlt : l.stackTraces = false) (hy : plainName y.cls = true) (hlen : (lg_sl av).length ≤ n)
    (body : ∀ (p : Program) (e : Env) (s : State) (m : MethodId) (args : Array Value) (below : List Frame) (meth : Method) (c : Code) (ls : Array Slot) (Q : State → Prop), s.heap.size = sz → CallFix p m c cc n s args GW y.cls → lv_has ls n (lv_args 0 av) → Fx D ca tB tS (AA R ad sz) s → Wd D (AA R ad sz) s R ad g s.heap [] →
      (∀ (H : Heap) (locs : List Loc) (ls : Array Slot) (pc : Nat) (b : Bool) (v : Int32) (g1 : Nat → va_E), decode cc pc = .ok (.ireturn, 1) → Wd D (AA R ad sz) s R ad g1 H locs → v = bI b → post (bI b) g1 → W p l e rm s m args below meth c H locs 0 0 Q (F0 m pc ls [.int v])) →
      Thr p l e rm s m args below meth c cc n y.cls D (AA R ad sz) R ad px Q →
      W p l e rm s m args below meth c s.heap [] 0 0 Q (F0 m 0 ls [])) : XMI l y cc n .boolean rm D ca tB tS R ad g sz av post px :=
  x_start hy hlen (fun p e s m below meth c ls hsz C hr hlocks hno hl F hw => body p e s m _ below meth c ls _ hsz C hl F hw (fun H locs ls pc b v g1 hd h1 hv hp => vx_ret (W.widen (k := 1) (n := 6) (by decide) (by decide) (m_zret C hr hlocks h1 hd hv (by rw [hv]; exact hp)))) (fun H locs ls pc rest g1 cls ik ic T h1 hls d0 d3 d4 d7 hfr hlo hce hsl hp => k_throw C F h1 hlt hlocks hno T hls d0 d3 d4 d7 hfr hlo (by omega) (by omega) (by decide) (by decide) hp))
theorem x_startV {y : MethodName} {rm : Room} {av : List Value} {sz : Nat} {n : Nat} {post : (Nat → va_E) → Prop} {px : String → (Nat → va_E) → Prop} (hlt : l.stackTraces = false) (hy : plainName y.cls = true) (hlen : (lg_sl av).length ≤ n)
    (body : ∀ (p : Program) (e : Env) (s : State) (m : MethodId) (args : Array Value) (below : List Frame) (meth : Method) (c : Code) (ls : Array Slot) (Q : State → Prop), s.heap.size = sz → CallFix p m c cc n s args GW y.cls → lv_has ls n (lv_args 0 av) → Fx D ca tB tS (AA R ad sz) s → Wd D (AA R ad sz) s R ad g s.heap [] →
      (∀ (H : Heap) (locs : List Loc) (ls : Array Slot) (pc : Nat) (g1 : Nat → va_E), decode cc pc = .ok (.return_, 1) → Wd D (AA R ad sz) s R ad g1 H locs → post g1 → W p l e rm s m args below meth c H locs 0 0 Q (F0 m pc ls [])) →
      Thr p l e rm s m args below meth c cc n y.cls D (AA R ad sz) R ad px Q →
      W p l e rm s m args below meth c s.heap [] 0 0 Q (F0 m 0 ls [])) : XMV l y cc n rm D ca tB tS R ad g sz av post px :=
  x_start hy hlen (fun p e s m below meth c ls hsz C hr hlocks hno hl F hw => body p e s m _ below meth c ls _ hsz C hl F hw (fun H locs ls pc g1 hd h1 hp => vx_ret (W.widen (k := 1) (n := 6) (by decide) (by decide) (m_vret C hr hlocks h1 hd hp))) (fun H locs ls pc rest g1 cls ik ic T h1 hls d0 d3 d4 d7 hfr hlo hce hsl hp => k_throw C F h1 hlt hlocks hno T hls d0 d3 d4 d7 hfr hlo (by omega) (by omega) (by decide) (by decide) hp))
end Throws
end
