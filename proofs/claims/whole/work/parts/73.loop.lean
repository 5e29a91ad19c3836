/-! ===== law's loop ===== -/

theorem lp_out {L i : Nat} (hL : L ≤ 3072) (hi : i ≤ 4000) (h : L < i + 6) : nI L - nI 6 < nI i := by
  by_cases h6 : 6 ≤ L
  · rw [pk_sub h6]; exact nI_lt (by omega) (by omega)
  · refine Int32.lt_of_lt_of_le ?_ (nI_pos' (n := i) (by omega))
    match L, h6 with
    | 0, _ => decide
    | 1, _ => decide
    | 2, _ => decide
    | 3, _ => decide
    | 4, _ => decide
    | 5, _ => decide
    | L + 6, h6 => exact absurd (by omega) h6
theorem lp_in {L i : Nat} (hL : L ≤ 3072) (hi : i ≤ 4000) (h : ¬ nI L - nI 6 < nI i) : i + 6 ≤ L := Nat.not_lt.mp (fun h9 => h (lp_out hL hi h9))

set_option maxHeartbeats 1600000 in
set_option maxRecDepth 100000 in
theorem law_loop {p : Program} {l : Launch} {e : Env} {s : State} {m : MethodId} {args : Array Value} {below : List Frame} {meth : Method} {c : Code} {Q : State → Prop} {D : va_G} {ca : Nat → ClassId} {tB tS : Nat} {A : Nat → Prop} {ad : Nat → Nat} {ex : Nat → Nat} {b L : Nat} {xs : Nat → Int32} (hlt : l.stackTraces = false) (ht : TabOk pwG ex) (C : CallFix p m c cL_law 7 s args GW RL) (F : Fx D ca tB tS A s) (hX : va_X b L xs s s.heap) (hbl : b < s.heap.size) (hbA : ¬ A b) (hL : L ≤ 3072) (kend : ∀ (g : Nat → va_E) (H : Heap) (locs : List Loc) (ls : Array Slot) (cells slots : Nat), Wd D A s 209 ad g H locs → cells ≤ room_1.cells → slots ≤ room_1.slots → W p l e room_1 s m args below meth c H locs cells slots Q (F0 m 1052 ls [])) : ∀ (f i : Nat) (g : Nat → va_E) (H : Heap) (locs : List Loc) (ls : Array Slot) (cd : Int32) (ob : Nat → Int64) (cells slots : Nat), L < i + 6 * f + 6 → i ≤ 4000 → cells + f ≤ room_1.cells → slots + 6 * f ≤ room_1.slots → lv_has ls 7 [(0, .ref (b)), (1, .ref (ad 0)), (2, .ref (ad 198)), (3, .ref (ad 208)), (4, .int (nI i))] → Wd D A s 209 ad g H locs → JS ca ad g ex cd → g 208 = la ca 1 ob → W p l e room_1 s m args below meth c H locs cells slots Q (F0 m 23 ls []) := by
  intro f
  induction f with
  | zero =>
    intro i g H locs ls cd ob cells slots hf hi hce hsl hl hw hJS hO
    refine lv_iload C.1 C.2.1 dL_law_23 (lv_at hl 4 rfl) ?_
    refine lv_aload_n C.1 C.2.1 dL_law_25 rfl (lv_at hl 0 rfl) ?_
    refine k_slen C hw hX hbl hbA dL_law_26 ?_
    refine k_bip C 6 dL_law_27 (by decide) ?_
    refine lv_isub C.1 C.2.1 dL_law_29 ?_
    refine lv_icmp_gt (tgt := 1052) C.1 C.2.1 dL_law_30 (by decide) (fun hc => kend g H locs ls cells slots hw (by omega) (by omega)) (fun hc => absurd (lp_in hL hi hc) (by omega))
  | succ f ih =>
    intro i g H locs ls cd ob cells slots hf hi hce hsl hl hw hJS hO
    refine lv_iload C.1 C.2.1 dL_law_23 (lv_at hl 4 rfl) ?_
    refine lv_aload_n C.1 C.2.1 dL_law_25 rfl (lv_at hl 0 rfl) ?_
    refine k_slen C hw hX hbl hbA dL_law_26 ?_
    refine k_bip C 6 dL_law_27 (by decide) ?_
    refine lv_isub C.1 C.2.1 dL_law_29 ?_
    refine lv_icmp_gt (tgt := 1052) C.1 C.2.1 dL_law_30 (by decide) (fun hc => kend g H locs ls cells slots hw (by omega) (by omega)) (fun hc => ?_)
    have hi6 := lp_in hL hi hc
    have kk : ∀ (g1 : Nat → va_E) (H1 : Heap) (locs1 : List Loc) (ls1 : Array Slot) (cd1 : Int32), lv_has ls1 7 [(0, .ref (b)), (1, .ref (ad 0)), (2, .ref (ad 198)), (3, .ref (ad 208)), (4, .int (nI i))] → Wd D A s 209 ad g1 H1 locs1 → JS ca ad g1 ex cd1 → (∃ ob, g1 208 = la ca 1 ob) → W p l e room_1 s m args below meth c H1 locs1 (cells + 1) (slots + 6) Q (F0 m 1046 ls1 []) := fun g1 H1 locs1 ls1 cd1 hl1 hw1 hJ1 hO1 => by
      obtain ⟨ob1, hO1⟩ := hO1
      refine k_inc C (i + 6) (lv' := [(4, .int (nI (i + 6))), (0, .ref (b)), (1, .ref (ad 0)), (2, .ref (ad 198)), (3, .ref (ad 208))]) dL_law_1046 hl1 (k := 4) rfl (inc6 _) (by decide) rfl (fun ls hl => ?_)
      refine lv_goto (tgt := 23) C.1 C.2.1 dL_law_1049 (by decide) ?_
      exact ih (i + 6) g1 H1 locs1 ls cd1 ob1 (cells + 1) (slots + 6) (by omega) (by omega) (by omega) (by omega) (lv_sub hl [1, 2, 3, 4, 0] rfl) hw1 hJ1 hO1
    obtain ⟨x, hx, hxe⟩ := wb_of32 (xs i)
    refine lv_aload_n C.1 C.2.1 dL_law_33 rfl (lv_at hl 0 rfl) ?_
    refine lv_iload C.1 C.2.1 dL_law_34 (lv_at hl 4 rfl) ?_
    refine k_sld C hw hX hbl hbA i (by omega) hL dL_law_36 ?_
    refine k_ti (x' := nI x) hxe ?_
    refine k_bip C 15 dL_law_37 (by decide) ?_
    refine k_and C 4 dL_law_39 (by omega) (by decide) ?_
    have h16 : x % 2 ^ 4 < 16 := Nat.mod_lt _ (by decide)
    generalize x % 2 ^ 4 = t at h16
    have hcl : cells + 1 ≤ room_1.cells := by omega
    have hsl2 : slots + 6 ≤ room_1.slots := by omega
    match t, h16 with
    | 0, _ =>
      refine lv_tableIn (tgt := 116) C.1 C.2.1 dL_law_40 (by decide) (by decide) (by rfl) (by decide) ?_
      exact l_feed hlt ht C F hX hbl hbA hw hl hi6 hL hJS hO hcl hsl2 kk
    | 1, _ =>
      refine lv_tableIn (tgt := 220) C.1 C.2.1 dL_law_40 (by decide) (by decide) (by rfl) (by decide) ?_
      exact l_end hlt ht C F hX hbl hbA hw hl hi6 hL hJS hO hcl hsl2 kk
    | 2, _ =>
      refine lv_tableIn (tgt := 256) C.1 C.2.1 dL_law_40 (by decide) (by decide) (by rfl) (by decide) ?_
      exact l_turn hlt ht C F hX hbl hbA hw hl hi6 hL hJS hO hcl hsl2 kk
    | 3, _ =>
      refine lv_tableIn (tgt := 312) C.1 C.2.1 dL_law_40 (by decide) (by decide) (by rfl) (by decide) ?_
      exact l_block hlt ht C F hX hbl hbA hw hl hi6 hL hJS hO hcl hsl2 kk
    | 4, _ =>
      refine lv_tableIn (tgt := 360) C.1 C.2.1 dL_law_40 (by decide) (by decide) (by rfl) (by decide) ?_
      exact l_byteAt hlt ht C F hX hbl hbA hw hl hi6 hL hJS hO hcl hsl2 kk
    | 5, _ =>
      refine lv_tableIn (tgt := 428) C.1 C.2.1 dL_law_40 (by decide) (by decide) (by rfl) (by decide) ?_
      exact l_row hlt ht C F hX hbl hbA hw hl hi6 hL hJS hO hcl hsl2 kk
    | 6, _ =>
      refine lv_tableIn (tgt := 524) C.1 C.2.1 dL_law_40 (by decide) (by decide) (by rfl) (by decide) ?_
      exact l_open hlt ht C F hX hbl hbA hw hl hi6 hL hJS hO hcl hsl2 kk
    | 7, _ =>
      refine lv_tableIn (tgt := 572) C.1 C.2.1 dL_law_40 (by decide) (by decide) (by rfl) (by decide) ?_
      exact l_take hlt ht C F hX hbl hbA hw hl hi6 hL hJS hO hcl hsl2 kk
    | 8, _ =>
      refine lv_tableIn (tgt := 635) C.1 C.2.1 dL_law_40 (by decide) (by decide) (by rfl) (by decide) ?_
      exact l_takeAll hlt ht C F hX hbl hbA hw hl hi6 hL hJS hO hcl hsl2 kk
    | 9, _ =>
      refine lv_tableIn (tgt := 715) C.1 C.2.1 dL_law_40 (by decide) (by decide) (by rfl) (by decide) ?_
      exact l_give hlt ht C F hX hbl hbA hw hl hi6 hL hJS hO hcl hsl2 kk
    | 10, _ =>
      refine lv_tableIn (tgt := 778) C.1 C.2.1 dL_law_40 (by decide) (by decide) (by rfl) (by decide) ?_
      exact l_rank hlt ht C F hX hbl hbA hw hl hi6 hL hJS hO hcl hsl2 kk
    | 11, _ =>
      refine lv_tableIn (tgt := 822) C.1 C.2.1 dL_law_40 (by decide) (by decide) (by rfl) (by decide) ?_
      exact l_follows hlt ht C F hX hbl hbA hw hl hi6 hL hJS hO hcl hsl2 kk
    | 12, _ =>
      refine lv_tableIn (tgt := 885) C.1 C.2.1 dL_law_40 (by decide) (by decide) (by rfl) (by decide) ?_
      exact l_known hlt ht C F hX hbl hbA hw hl hi6 hL hJS hO hcl hsl2 kk
    | 13, _ =>
      refine lv_tableIn (tgt := 953) C.1 C.2.1 dL_law_40 (by decide) (by decide) (by rfl) (by decide) ?_
      exact l_product hlt ht C F hX hbl hbA hw hl hi6 hL hJS hO hcl hsl2 kk
    | 14, _ =>
      refine lv_tableIn (tgt := 990) C.1 C.2.1 dL_law_40 (by decide) (by decide) (by rfl) (by decide) ?_
      exact l_count hlt ht C F hX hbl hbA hw hl hi6 hL hJS hO hcl hsl2 kk
    | 15, _ =>
      refine lv_tableOut (tgt := 1046) C.1 C.2.1 dL_law_40 (by decide) (by decide) ?_
      refine W.widen (k := cells + 1) (n := slots + 6) (by omega) (by omega) ?_
      exact kk g H locs ls cd hl hw hJS ⟨ob, hO⟩
    | t + 16, h => exact absurd h (by omega)
