/-! ===== the law from its entry to its end ===== -/
theorem DInv.ext {ca : Nat → ClassId} {ad ad1 : Nat → Nat} {g g1 : Nat → va_E} {pw ex : Nat → Nat} {fb : Nat → Nat → Bool} {len : Nat} {h : Nat → Nat} {bk bt : Nat} {BM : Nat → Nat → Nat} {ck ct cn rk : Nat} {M : Nat → Nat → Nat} {ld : Nat → Bool} (hI : DInv ca ad g pw ex fb len h bk bt BM ck ct cn rk M ld) (hk : ∀ i, i < 198 → ad1 i = ad i) (hg : ∀ i, i < 198 → g1 i = g i) : DInv ca ad1 g1 pw ex fb len h bk bt BM ck ct cn rk M ld := by
  obtain ⟨eO, hF, hT4, ⟨v0, pl0, hK⟩, ⟨Lw, Tw, sw, hEw, hBw⟩, eT, ⟨fd, eD, hfd⟩, hB, hC, ⟨ln0, hln0, hEc⟩, hrest⟩ := hI
  have hg' : ∀ {lo : Nat} i, lo ≤ i → i < 198 → g1 i = g i := fun i _ hi => hg i hi
  refine ⟨?_, FieldAt.ext hk hg' (by decide) hF, TpAt.ext hk hg' (by decide) hT4, ⟨v0, pl0, PkAt.ext hk hg' (by decide) hK⟩, ⟨Lw, Tw, sw, EqAt.ext hk hg' (by decide) hEw, hBw⟩, ?_, ⟨fd, (hg _ (by decide)).trans eD, hfd⟩, BlkAt.ext hk hg' (by decide) hB, ?_, ⟨ln0, hln0, EqAt.ext hk hg' (by decide) hEc⟩, hrest⟩
  · show g1 0 = _
    rw [hg 0 (by decide), hk 1 (by decide), hk 4 (by decide), hk 6 (by decide), hk 8 (by decide), hk 71 (by decide), hk 73 (by decide), hk 134 (by decide)]
    exact eO
  · rw [hg 71 (by decide), hk 8 (by decide), hk 6 (by decide), hk 72 (by decide)]
    exact eT
  · show g1 134 = _
    rw [hg 134 (by decide), hk 135 (by decide)]
    exact hC
theorem MInv.ext {ca : Nat → ClassId} {ad ad1 : Nat → Nat} {g g1 : Nat → va_E} {pm : Nat → Nat} {cd : Int32} {ln : Nat} {th : Nat → Nat} {bk bt : Nat} {IN : Nat → Nat → Nat} {ck ct : Nat} {CG : Nat → Nat → Nat} {cn pk : Nat} (hI : MInv ca ad g pm cd ln th bk bt IN ck ct CG cn pk) (hk : ∀ i, i < 208 → ad1 i = ad i) (hg : ∀ i, i < 208 → g1 i = g i) : MInv ca ad1 g1 pm cd ln th bk bt IN ck ct CG cn pk := by
  obtain ⟨tp, rw, gt, M, pv, ro, tn, bb, ⟨q198, q199, q200, q201, q202, q203, q204, q205, q206, q207⟩, hr⟩ := hI
  refine ⟨tp, rw, gt, M, pv, ro, tn, bb, ⟨?_, (hg _ (by decide)).trans q199, (hg _ (by decide)).trans q200, (hg _ (by decide)).trans q201, (hg _ (by decide)).trans q202, (hg _ (by decide)).trans q203, (hg _ (by decide)).trans q204, (hg _ (by decide)).trans q205, (hg _ (by decide)).trans q206, (hg _ (by decide)).trans q207⟩, hr⟩
  rw [hg 198 (by decide), hk 199 (by decide), hk 200 (by decide), hk 201 (by decide), hk 202 (by decide), hk 203 (by decide), hk 204 (by decide), hk 205 (by decide), hk 206 (by decide), hk 207 (by decide)]
  exact q198
theorem j_start {ca : Nat → ClassId} {ad : Nat → Nat} {g : Nat → va_E} {ex : Nat → Nat} {M : Nat → Nat → Nat} {ld : Nat → Bool} (hD : DInv ca ad g pwG ex (fbG pwG) 0 (fun _ => 0) 0 0 (fun _ _ => 0) 0 0 0 0 M ld) (hM : MInv ca ad g pwG (nI 0) 0 (fun _ => 0) 0 0 (fun _ _ => 0) 0 0 (fun _ _ => 0) 0 0) : JS ca ad g ex (nI 0) :=
  ⟨_, _, _, _, _, _, _, _, _, _, _, _, _, _, _, hD, hM, fun j hj => absurd hj (Nat.not_lt_zero _), fun h => absurd rfl h, fun h => absurd rfl h⟩
set_option maxHeartbeats 1600000 in
set_option maxRecDepth 100000 in
theorem law_begin {p : Program} {l : Launch} {e : Env} {s : State} {m : MethodId} {args : Array Value} {below : List Frame} {meth : Method} {c : Code} {Q : State → Prop} {D : va_G} {ca : Nat → ClassId} {tB tS : Nat} {A : Nat → Prop} {b L : Nat} {xs : Nat → Int32} {ls : Array Slot} (hlt : l.stackTraces = false) (C : CallFix p m c cL_law 7 s args GW RL) (F : Fx D ca tB tS A s) (hAO : AO ca s) (hX : va_X b L xs s s.heap) (hbl : b < s.heap.size) (hbA : ¬ A b) (hL : L ≤ 3072) (hl : lv_has ls 7 [(0, .ref b)])
    (kend : ∀ (H : Heap) (locs : List Loc) (ls : Array Slot) (cells slots : Nat), va_S A s.heap H locs → cells ≤ room_1.cells → slots ≤ room_1.slots → W p l e room_1 s m args below meth c H locs cells slots Q (F0 m 1052 ls [])) : W p l e room_1 s m args below meth c s.heap [] 0 0 Q (F0 m 0 ls []) := by
  have hw : Wd D A s 0 (fun _ => 0) (fun _ => .inr (0, [])) s.heap [] := ⟨fun k q hq => absurd (ww_of hq).1 (Nat.not_lt_zero _), ⟨fun i j x y hx => absurd (ww_of hx).1 (Nat.not_lt_zero _), fun k q hq => absurd (ww_of hq).1 (Nat.not_lt_zero _)⟩, va_S.rf⟩
  generalize s.heap = H at hw ⊢
  refine k_new (ci := 7) C F hw in_X7 tyX7_ok kl_L_8 ki_X7 wi_X7 rfl [.null, .null, .null, .null, .null, .null, .null] (fun j hj => df_X7 j hj) (Nat.le_of_ble_eq_true rfl) (Nat.le_of_ble_eq_true rfl) dL_law_0 (fun ad1 g1 H _ _ eN hw => ?_)
  refine lv_dup C.1 C.2.1 dL_law_3 rfl ?_
  refine k_I C F hAO hw (i := 0) (As := []) (rest := [.ref (ad1 0)]) (c_X7_init (fbG pwG) eN) (cwI 0 C.2.2.2.2 (good_g cw_X7_init) rfl rfl rfl (C.2.2.2.2 _ wi_X7) (C.2.2.2.2 _ gl_L_68) (C.2.2.2.2 _ gi_L_68) rfl cd_X7_init.2 ⟨Nat.le_of_ble_eq_true rfl, Nat.le_of_ble_eq_true rfl⟩) hl.1 rfl (Nat.le_of_ble_eq_true rfl) dL_law_4 ⟨Nat.le_of_ble_eq_true rfl, Nat.le_of_ble_eq_true rfl⟩ (fun ad2 g2 H locs hp hw => ?_)
  obtain ⟨hk2, -, ex, M, ld, ht, hD⟩ := hp
  rw [← hk2 0 (by decide)]
  refine lv_astore_n (lv' := [(1, .ref (ad2 0)), (0, .ref b)]) C.1 C.2.1 dL_law_7 rfl hl (by decide) rfl (fun ls hl => ?_)
  refine k_new (ci := 8) C F hw in_X8 tyX8_ok kl_L_69 ki_X8 wi_X8 rfl [.int (nI 0), .null, .int (nI 0), .null, .int (nI 0), .int (nI 0), .null, .int (nI 0), .int (nI 0), .null, .int (nI 0), .int (nI 0), .null, .null, .int (nI 0), .null, .null, .int (bI (false)), .null] (fun j hj => df_X8 j hj) (Nat.le_of_ble_eq_true rfl) (Nat.le_of_ble_eq_true rfl) dL_law_8 (fun ad3 g3 H hk3 hg3 eN3 hw => ?_)
  rw [← hk3 0 (by decide)] at hl
  replace hD := hD.ext hk3 hg3
  refine lv_dup C.1 C.2.1 dL_law_11 rfl ?_
  refine k_I C F hAO hw (i := 198) (As := []) (rest := [.ref (ad3 198)]) (c_X8_init eN3) (cwI 0 C.2.2.2.2 (good_g cw_X8_init) rfl rfl rfl (C.2.2.2.2 _ wi_X8) (C.2.2.2.2 _ gl_L_71) (C.2.2.2.2 _ gi_L_71) rfl cd_X8_init.2 ⟨Nat.le_of_ble_eq_true rfl, Nat.le_of_ble_eq_true rfl⟩) hl.1 rfl (Nat.le_of_ble_eq_true rfl) dL_law_12 ⟨Nat.le_of_ble_eq_true rfl, Nat.le_of_ble_eq_true rfl⟩ (fun ad4 g4 H locs hp hw => ?_)
  obtain ⟨hk4, hg4, hM⟩ := hp
  rw [← hk4 0 (by decide)] at hl
  rw [← hk4 198 (by decide)]
  replace hD := hD.ext (fun i hi => hk4 i (by omega)) (fun i hi => hg4 i ⟨by omega, by omega⟩)
  refine lv_astore_n (lv' := [(2, .ref (ad4 198)), (1, .ref (ad4 0)), (0, .ref b)]) C.1 C.2.1 dL_law_15 rfl hl (by decide) rfl (fun ls hl => ?_)
  refine k_icn C 1 dL_law_16 (by decide) ?_
  refine k_newL C F hw 1 (by decide) (Nat.le_of_ble_eq_true rfl) (Nat.le_of_ble_eq_true rfl) dL_law_17 (fun ad5 g5 H hk5 hg5 eN5 hw => ?_)
  rw [← hk5 0 (by decide), ← hk5 198 (by decide)] at hl
  replace hD := hD.ext (fun i hi => hk5 i (by omega)) (fun i hi => hg5 i (by omega))
  replace hM := hM.ext hk5 hg5
  refine lv_astore_n (lv' := [(3, .ref (ad5 208)), (2, .ref (ad5 198)), (1, .ref (ad5 0)), (0, .ref b)]) C.1 C.2.1 dL_law_19 rfl hl (by decide) rfl (fun ls hl => ?_)
  refine k_icn C 0 dL_law_20 (by decide) ?_
  refine lv_istore (lv' := [(4, .int (nI 0)), (3, .ref (ad5 208)), (2, .ref (ad5 198)), (1, .ref (ad5 0)), (0, .ref b)]) C.1 C.2.1 dL_law_21 hl (by decide) rfl (fun ls hl => ?_)
  exact law_loop hlt ht C F hX hbl hbA hL (fun g H locs ls cells slots hw h1 h2 => kend H locs ls cells slots hw.2.2 h1 h2) 512 0 g5 H locs ls (nI 0) _ _ _ (by omega) (by decide) (Nat.le_of_ble_eq_true rfl) (Nat.le_of_ble_eq_true rfl) (lv_sub hl [4, 3, 2, 1, 0] rfl) hw (j_start hD hM) eN5

/-! THE CLAIM OUT OF ONE WALK OF THE LAW'S BODY. Your part is whole_start (and what it stands on); all else here is the same for every law, but numbers. -/
def R_law : String := "FountainDeskLaw"
def lw_P (b : Addr) (xs : List Int32) (args : Array Value) (s : State) : Prop := args = #[.ref b] ∧ s.IntsAt b xs ∧ xs.length ≤ 3072 ∧ (Jvm.Cond.and given_1 narrow_1).before args s = true
def lw_Q (_ : Array Value) (s : State) (o : Outcome) (t : State) : Prop := o = .returned (some (.int 1)) ∧ Framed s o t [] 601024 7293034
def lw_Z (below : List Frame) (a : Array Value) (s : State) : State → Prop := fun t => ∃ o, t.status = .running ∧ Ended t below o ∧ lw_Q a s o t
/-- the law's own end, with 1 on the stack, nothing written that was there before, its room as the claim has it -/
theorem lw_ret {p : Program} {l : Launch} {e : Env} {s : State} {m : MethodId} {below : List Frame} {meth : Method} {c : Code} {b : Nat} (hx : p.tables.exec = Jvm.exec) (hb : c.code = code) (hr : meth.sig.returnType = ret) (hlocks : meth.locks = false) {pc : Nat} {H : Heap} {ls : Array Slot} (hdg : decode code pc = .ok (.ireturn, 1)) : W p l e room_1 s m #[Value.ref b] below meth c H [] 601024 7293034 (lw_Z below #[Value.ref b] s) (F0 m pc ls [.int 1]) := by
  intro T hT X
  obtain ⟨fs, hret, hrun, hended, hW, hframe⟩ := X.leave (v := some (.int 1)) (hlocks := hlocks) (fun h => by rw [hr] at h; cases h)
  have hmeth' : T.vm.method? m = some meth := X.method'
  refine ⟨T.setFrames fs, ?_, .returned (some (.int 1)), hrun, hended, rfl, ⟨_, rfl⟩, hW, hframe⟩
  jvm_step X.here [X.here.top, hx, hb, hdg, hmeth', hr, ret, narrow_b1]
  (try refine ⟨rfl, ?_⟩); (try refine ⟨rfl, ?_⟩)
  first | (intro acts; rw [hret _ acts rfl rfl rfl]) | rw [hret _ _ rfl rfl rfl]
  exact Steps.refl _
/-- what holds at the law's entry: the machine, the code, the tables' words (any of lw_tbl by 'hts w (by decide +kernel)'), the script of L ints xs at the cell b, what the Statement gives of the start (any of its parts by flat_of_before) -/
def lw_At (p : Program) (s : State) (m : MethodId) (meth : Method) (c : Code) (b L : Nat) (xs : Nat → Int32) : Prop :=
  p.tables.exec = Jvm.exec ∧ c.code = code ∧ meth.sig.returnType = ret ∧ c.maxLocals = 7 ∧ s.vm.findClass R_law = some m.cls ∧ (∀ w ∈ lw_tbl, w.before #[Value.ref b] s = true) ∧ va_X b L xs s s.heap ∧ b < s.heap.size ∧ meth.locks = false ∧ (Jvm.Cond.and given_1 narrow_1).before #[Value.ref b] s = true
/-- from the entry, for every script of at most 3072 ints, the law comes to its end with true -/
theorem whole_start {p : Program} {e : Env} {s : State} {m : MethodId} {below : List Frame} {meth : Method} {c : Code} (l : Launch) (hlt : l.stackTraces = false) {b L : Nat} {xs : Nat → Int32} (hL : L ≤ 3072) (C0 : lw_At p s m meth c b L xs) : W p l e room_1 s m #[Value.ref b] below meth c s.heap [] 0 0 (lw_Z below #[Value.ref b] s) (entryFrame m ([Value.ref b] : List Value).toArray 7) := by
  obtain ⟨h1, h2, h3, h4, h5, h6, h7, h8, h9, h10⟩ := C0
  have hA : ∀ a : Nat, a < s.heap.size → ¬ (fun q : Nat => s.heap.size ≤ q) a := fun a h q => absurd q (by show ¬ s.heap.size ≤ a; omega)
  obtain ⟨D, ca, tB, tS, F, hAO⟩ := law_fx (A := fun q : Nat => s.heap.size ≤ q) h6 h10 hA (fun q h => h)
  have C : CallFix p m c cL_law 7 s #[Value.ref b] GW RL := ⟨h1, h2, h4, h5, fun w hw => h6 w (List.mem_filter.mp hw).1⟩
  rw [lg_entry_eq]
  refine law_begin hlt C F hAO h7 h8 (hA b h8) hL (lv_entry ([Value.ref b] : List Value) (n := 7) (Nat.le_of_ble_eq_true rfl)) (fun H locs ls cells slots hS hc hs => ?_)
  refine va_forget (fun q hq => hS.2.2 q hq) ?_
  refine W.widen (k := 601024) (n := 7293034) hc hs ?_
  refine k_icn C 1 dL_law_1052 (by decide) ?_
  exact lw_ret h1 h2 h3 h9 dL_law_1053
set_option maxHeartbeats 4000000 in
theorem lw_walk (l : Launch) (hlt : l.stackTraces = false) (b : Addr) (xs : List Int32) : MetFree l x (headSpec (Jvm.Cond.code x code maxLocals ret :: tables_1) room_1) (lw_P b xs) (fun _ _ _ _ _ => True) lw_Q := by
  refine MetFree.of_bodyS (code := code) (maxLocals := maxLocals) (ret := ret) (by decide) ?_ ?_
  · intro args s m h hn
    obtain ⟨meth, c, h1, h2, h3, h4, h5, h6, -, -⟩ := Cond.code_spec hn (atoms_spec (ws := Jvm.Cond.code x code maxLocals ret :: tables_1) h _ List.mem_cons_self)
    exact ⟨meth, c, h1, h2, h3, h4, h5, h6⟩
  · intro p e s m args below meth c s₁ B hml0 hP _
    obtain ⟨rfl, hx, hbd, hgv⟩ := hP
    obtain ⟨scr, harrAt, hlist, hof, hsmall⟩ := hx
    obtain ⟨hcb, hkn, -, -⟩ := State.arrayAt?_spec harrAt
    have hown : s.vm.findClass R_law = some m.cls := findClass_of_methodNamed B.named
    have hts0 : ∀ c ∈ (Jvm.Cond.code x code maxLocals ret :: tables_1), c.before #[Value.ref b] s = true := atoms_spec (ws := Jvm.Cond.code x code maxLocals ret :: tables_1) B.pre
    have hts : ∀ w ∈ lw_tbl, w.before #[Value.ref b] s = true := k2_hts_sels lw_privs (fun w hw => hts0 w (List.mem_cons_of_mem _ hw)) lw_privs_ok
    have hml : c.maxLocals = 7 := B.maxLocals_eq (hts0 _ List.mem_cons_self)
    have X₀ : Stand p l e room_1 s m #[Value.ref b] below meth c s₁ [] 0 0 := Stand.of_body B
    have hh0 : s₁.heap = s.heap := by rw [B.state]; rfl
    have hsz : scr.slots.size = xs.length := by rw [← Array.length_toList, hlist, List.length_map]
    have hval : ∀ j : Nat, j < xs.length → scr.slots[j]? = some (.int (xs.getD j 0)) := fun j hj => by
      rw [← Array.getElem?_toList, hlist]
      simp [hj]
    have hbl : b < s.heap.size := (Array.getElem?_eq_some_iff.mp hcb).1
    have hX : va_X b xs.length (fun j => xs.getD j 0) s s.heap := ⟨scr, hcb, hof, hkn, hsz, hval⟩
    have K : W p l e room_1 s m #[Value.ref b] below meth c s₁.heap [] 0 0 (lw_Z below #[Value.ref b] s) (entryFrame m ([Value.ref b] : List Value).toArray 7) := by
      rw [hh0]
      exact whole_start l hlt hbd ⟨B.exec, B.bytes, B.returns, hml, hown, hts, hX, hbl, B.notSynchronized, hgv⟩
    obtain ⟨t, a1, o, b1, b2, b3⟩ := K s₁ rfl X₀
    exact ⟨t, o, a1, b1, b2, b3⟩
theorem lw_pre_spec {args : Array Value} {s : State} (h : (Jvm.Cond.and given_1 narrow_1).before args s = true) (hr : rest_1_c.before args s = true) : ∃ (b : Addr) (xs : List Int32), lw_P b xs args s := by
  have hs := flat_of_before _ h
  have hq := flat_of_before _ hr
  have hc : (Cond.count 1).before args s = true := hs _ (by decide +kernel)
  have harr : (Cond.arrayOf (.arg 0) .int).before args s = true := hs _ (by decide +kernel)
  have hle : (Cond.le (.length (.arg 0)) (.int 3072)).before args s = true := hs _ (by decide +kernel)
  have hlen : (Cond.isInt (.length (.arg 0))).before args s = true := hq _ (by decide +kernel)
  have hall : (Cond.all (.arg 0) (.isInt (.elem (.arg 0) (.index 0)))).before args s = true := hq _ (by decide +kernel)
  obtain ⟨b, xs, hb, hx⟩ := State.ints_of_pre rfl harr hlen hall
  have hsm : xs.length < 2 ^ 31 := hx.choose_spec.2.2.2
  have hev : (Term.length (.arg 0)).eval args s none [] s = some (.int xs.length.toInt32) := hx.length_eval hb
  have hv := Cond.le_ints hev (show (Term.int 3072).eval args s none [] s = some (.int 3072) from rfl)
  have hd : xs.length.toInt32 ≤ 3072 := by
    simpa [Cond.before, Cond.holds, hv] using hle
  have hN : xs.length ≤ 3072 := (Int32.ofNat_le_ofNat hsm (by decide)).mp (show Int32.ofNat xs.length ≤ Int32.ofNat 3072 from hd)
  exact ⟨b, xs, Cond.one_arg hc (show args[0]? = some (.ref b) from hb), hx, hN, h⟩
theorem lw_comes (l : Launch) (hlt : l.stackTraces = false) : Comes l x (Jvm.Cond.code x code maxLocals ret :: tables_1) room_1 (fun tb e args s => Calls_1 tb e args s ∧ rest_1 tb e args s ∧ Pre_1 tb e args s)
    (fun _ _ args s o t => lw_Q args s o t) := by
  intro p e ha hc hk s m args below hf hfit hheap happ hpre
  obtain ⟨b, xs, hP⟩ := lw_pre_spec hpre.2.2 hpre.2.1
  obtain ⟨k, o, h1, h2, h3, hQ⟩ := lw_walk l hlt b xs p e ha hc hk s m args below hf ((Spec.applies_iff_loose hf).mp happ).1 hP trivial
  exact ⟨k, o, h1, h2, h3, hQ⟩
theorem lw_frame {s t : State} {o : Outcome} {args : Array Value} (h : Framed s o t [] 601024 7293034) :
    Framed s o t (fieldLocs frame_1_writes args s ++ arrayLocs frame_1_arrays args s ++ staticLocs frame_1_statics s) 601024 7293034 := h
theorem lw_limb (L : Cond) (hL : ∀ (args : Array Value) (s t : State), L.after args s (.returned (some (.int 1))) t = true) :
    ArmFor flags0 classFile x code maxLocals ret World_1 tables_1 room_1 Calls_1 rest_1 Pre_1
      (fun tb e a s o t => postC L tb e a s o t ∧ Framed s o t (fieldLocs frame_1_writes a s ++ arrayLocs frame_1_arrays a s ++ staticLocs frame_1_statics s) 601024 7293034) := by
  intro l hfl _ _ p e ha hc hk s m args below hf hfit hheap happ hpre
  obtain ⟨k, o, h1, h2, h3, rfl, hF⟩ := lw_comes l (by unfold Launch.stackTraces; rw [hfl]; decide +kernel) p e ha hc hk s m args below hf hfit hheap happ hpre
  exact ⟨k, _, h1, h2, h3, hL args s _, lw_frame hF⟩
theorem i_vc : Claimed_1_1 ∧ Claimed_1_2 := ⟨lw_limb limb_1_1 (fun args s t => by simp [limb_1_1, Cond.after, Cond.holds, Cond.value]), lw_limb limb_1_2 (fun args s t => Cond.after_iff.mpr (by
  first | (rw [show limb_1_2 = Cond.eq .result (.int 1) from rfl, Cond.eq_ints (x := 1) (y := 1) rfl rfl]; simp; done) | (simp [limb_1_2, Cond.value, Term.eval]; done)))⟩
