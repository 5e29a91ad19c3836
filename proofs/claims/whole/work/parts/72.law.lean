/-! ===== law's cases ===== -/
section LawRows
variable {p : Program} {l : Launch} {e : Env} {Rm : Room} {s : State} {m : MethodId} {args : Array Value} {below : List Frame} {meth : Method} {c : Code} {H : Heap} {locs : List Loc} {cells slots : Nat} {Q : State → Prop}
variable {cc : ByteArray} {nL pc : Nat} {own : String} {ls : Array Slot} {rest : List Value} {D : va_G} {ca : Nat → ClassId} {tB tS : Nat} {A : Nat → Prop} {R : Nat} {ad : Nat → Nat} {g : Nat → va_E} {b L : Nat} {xs : Nat → Int32}
theorem k_sld (C : CallFix p m c cc nL s args GW own) (hw : Wd D A s R ad g H locs) (hX : va_X b L xs s s.heap) (hbl : b < s.heap.size) (hbA : ¬ A b) (j : Nat) (hj : j < L) (hL : L ≤ 3072) (hdg : decode cc pc = .ok (.iaload, 1))
    (kk : W p l e Rm s m args below meth c H locs cells slots Q (F0 m (pc + 1) ls (.int (xs j) :: rest))) : W p l e Rm s m args below meth c H locs cells slots Q (F0 m pc ls (.int (nI j) :: .ref b :: rest)) := by
  refine va_sld C.1 C.2.1 hX hbl hbA hw.2.2 (vp_in_nI hj (by omega)) hdg ?_
  rw [nI_clamp (by omega)]
  exact kk
theorem k_slen (C : CallFix p m c cc nL s args GW own) (hw : Wd D A s R ad g H locs) (hX : va_X b L xs s s.heap) (hbl : b < s.heap.size) (hbA : ¬ A b) (hdg : decode cc pc = .ok (.arraylength, 1))
    (kk : W p l e Rm s m args below meth c H locs cells slots Q (F0 m (pc + 1) ls (.int (nI L) :: rest))) : W p l e Rm s m args below meth c H locs cells slots Q (F0 m pc ls (.ref b :: rest)) :=
  va_slen C.1 C.2.1 hX hbl hbA hw.2.2 hdg kk
end LawRows
theorem MInv.ob {ca : Nat → ClassId} {ad : Nat → Nat} {g : Nat → va_E} {pm : Nat → Nat} {cd : Int32} {ln : Nat} {th : Nat → Nat} {bk bt : Nat} {IN : Nat → Nat → Nat} {ck ct : Nat} {CG : Nat → Nat → Nat} {cn pk : Nat} (hI : MInv ca ad g pm cd ln th bk bt IN ck ct CG cn pk) : ∃ fs, g 198 = .inr (8, fs) := by
  obtain ⟨tp, rw, gt, M, pv, ro, tn, bb, hS⟩ := hI
  exact ⟨_, hS.1.1⟩
theorem JS.ob {ca : Nat → ClassId} {ad : Nat → Nat} {g : Nat → va_E} {ex : Nat → Nat} {cd : Int32} (h : JS ca ad g ex cd) : ∃ fs, g 198 = .inr (8, fs) := by
  obtain ⟨len, h0, bk, bt, BM, ck, ct, cn, rk, M, ld, th, IN, CG, cm, hD, hM, hJ⟩ := h
  exact hM.ob
theorem c_thrown {l : Launch} {D : va_G} {ca : Nat → ClassId} {tB tS : Nat} {ad : Nat → Nat} {g : Nat → va_E} {sz : Nat} {ex : Nat → Nat} {cd : Int32} (h : JS ca ad g ex cd) : MI l yX8_thrown cX8_thrown 1 .int rm_X8_thrown D ca tB tS 209 ad g sz [.ref (ad 198)] (fun r g1 => r = cd ∧ g1 = g) := by
  obtain ⟨len, h0, bk, bt, BM, ck, ct, cn, rk, M, ld, th, IN, CG, cm, hD, hM, hJ⟩ := h
  obtain ⟨tp, rw, gt, M, pv, ro, tn, bb, hS⟩ := hM
  exact c_X8_thrown (by decide) _ _ _ _ _ _ _ _ _ _ hS.1.1
theorem hfb9 {ex : Nat → Nat} (ht : TabOk pwG ex) : ∀ k t s pl, 1 ≤ k → k ≤ 48 → EqBy s → t < 1000 → fillB pwG ex k t s pl = fbG pwG k t := fun k t s pl h1 h2 hs _ => fb_class ht (fun _ => rfl) pl ⟨h1, h2⟩ hs
noncomputable def dvN (ck : Nat) (CG : Nat → Nat → Nat) (cm x : Nat) : Bool := by
  classical
  exact decide (KS (ck + 11) 0 (VV pwG ck CG) (11 + cm) (pkR ck x (tnN (fbG pwG ck))))
theorem dvN_iff {ck : Nat} {CG : Nat → Nat → Nat} {cm x : Nat} : dvN ck CG cm x = true ↔ KS (ck + 11) 0 (VV pwG ck CG) (11 + cm) (pkR ck x (tnN (fbG pwG ck))) := by
  classical
  unfold dvN
  exact ⟨fun h => @of_decide_eq_true _ _ h, fun h => @decide_eq_true _ _ h⟩
theorem b_iff {a b : Bool} (h : a = true ↔ b = true) : a = b := by
  cases a <;> cases b
  · rfl
  · exact h.mpr rfl
  · exact (h.mp rfl).symm
  · rfl

set_option maxHeartbeats 1600000 in
set_option maxRecDepth 100000 in
theorem l_feed {p : Program} {l : Launch} {e : Env} {s : State} {m : MethodId} {args : Array Value} {below : List Frame} {meth : Method} {c : Code} {H : Heap} {locs : List Loc} {cells slots : Nat} {Q : State → Prop} {ls : Array Slot} {D : va_G} {ca : Nat → ClassId} {tB tS : Nat} {A : Nat → Prop} {ad : Nat → Nat} {g : Nat → va_E} {ex : Nat → Nat} {cd : Int32} {b L i : Nat} {xs : Nat → Int32} {ob : Nat → Int64} (hlt : l.stackTraces = false) (ht : TabOk pwG ex) (C : CallFix p m c cL_law 7 s args GW RL) (F : Fx D ca tB tS A s) (hX : va_X b L xs s s.heap) (hbl : b < s.heap.size) (hbA : ¬ A b) (hw : Wd D A s 209 ad g H locs) (hl : lv_has ls 7 [(0, .ref (b)), (1, .ref (ad 0)), (2, .ref (ad 198)), (3, .ref (ad 208)), (4, .int (nI i))]) (hi : i + 6 ≤ L) (hL : L ≤ 3072) (hJS : JS ca ad g ex cd) (hO : g 208 = la ca 1 ob) (hcl : cells + 1 ≤ room_1.cells) (hsl : slots + 6 ≤ room_1.slots) (kk : ∀ (g1 : Nat → va_E) (H1 : Heap) (locs1 : List Loc) (ls1 : Array Slot) (cd1 : Int32), lv_has ls1 7 [(0, .ref (b)), (1, .ref (ad 0)), (2, .ref (ad 198)), (3, .ref (ad 208)), (4, .int (nI i))] → Wd D A s 209 ad g1 H1 locs1 → JS ca ad g1 ex cd1 → (∃ ob, g1 208 = la ca 1 ob) → W p l e room_1 s m args below meth c H1 locs1 (cells + 1) (slots + 6) Q (F0 m 1046 ls1 [])) : W p l e room_1 s m args below meth c H locs cells slots Q (F0 m 116 ls []) := by
  obtain ⟨len, h, bk, bt, BM, ck, ct, cn, rk, M, ld, th, IN, CG, cm, hD, hM, hJ⟩ := hJS
  have hbd := hD.bd
  obtain ⟨a1, ha1, hx1⟩ := wb_of32 (xs (i + 1))
  obtain ⟨a2, ha2, hx2⟩ := wb_of32 (xs (i + 2))
  obtain ⟨a3, ha3, hx3⟩ := wb_of32 (xs (i + 3))
  obtain ⟨a4, ha4, hx4⟩ := wb_of32 (xs (i + 4))
  obtain ⟨a5, ha5, hx5⟩ := wb_of32 (xs (i + 5))
  refine lv_aload_n C.1 C.2.1 dL_law_116 rfl (lv_at hl 1 rfl) ?_
  refine lv_aload_n C.1 C.2.1 dL_law_117 rfl (lv_at hl 0 rfl) ?_
  refine lv_iload C.1 C.2.1 dL_law_118 (lv_at hl 4 rfl) ?_
  refine k_icn C 1 dL_law_120 (by decide) ?_
  refine k_add C dL_law_121 ?_
  refine k_sld C hw hX hbl hbA (i + 1) (by omega) hL dL_law_122 ?_
  refine k_ti (x' := nI a1) hx1 ?_
  refine lv_aload_n C.1 C.2.1 dL_law_123 rfl (lv_at hl 0 rfl) ?_
  refine lv_iload C.1 C.2.1 dL_law_124 (lv_at hl 4 rfl) ?_
  refine k_icn C 2 dL_law_126 (by decide) ?_
  refine k_add C dL_law_127 ?_
  refine k_sld C hw hX hbl hbA (i + 2) (by omega) hL dL_law_128 ?_
  refine k_ti (x' := nI a2) hx2 ?_
  refine lv_aload_n C.1 C.2.1 dL_law_129 rfl (lv_at hl 0 rfl) ?_
  refine lv_iload C.1 C.2.1 dL_law_130 (lv_at hl 4 rfl) ?_
  refine k_icn C 3 dL_law_132 (by decide) ?_
  refine k_add C dL_law_133 ?_
  refine k_sld C hw hX hbl hbA (i + 3) (by omega) hL dL_law_134 ?_
  refine k_ti (x' := nI a3) hx3 ?_
  refine lv_aload_n C.1 C.2.1 dL_law_135 rfl (lv_at hl 0 rfl) ?_
  refine lv_iload C.1 C.2.1 dL_law_136 (lv_at hl 4 rfl) ?_
  refine k_icn C 4 dL_law_138 (by decide) ?_
  refine k_add C dL_law_139 ?_
  refine k_sld C hw hX hbl hbA (i + 4) (by omega) hL dL_law_140 ?_
  refine k_ti (x' := nI a4) hx4 ?_
  refine lv_aload_n C.1 C.2.1 dL_law_141 rfl (lv_at hl 0 rfl) ?_
  refine lv_iload C.1 C.2.1 dL_law_142 (lv_at hl 4 rfl) ?_
  refine k_icn C 5 dL_law_144 (by decide) ?_
  refine k_add C dL_law_145 ?_
  refine k_sld C hw hX hbl hbA (i + 5) (by omega) hL dL_law_146 ?_
  refine k_ti (x' := nI a5) hx5 ?_
  refine lv_aload_n C.1 C.2.1 dL_law_147 rfl (lv_at hl 3 rfl) ?_
  refine k_SW C F hw (As := [.ref (ad 0), .int (nI a1), .int (nI a2), .int (nI a3), .int (nI a4), .int (nI a5), .ref (ad 208)]) (rest := []) (c_L_feed (by decide) hO hD.1 (nI a1) (nI a2) (nI a3) (nI a4) (nI a5) (fun sz => c_X7_feed hlt pwG ex ht.2.2 ht.pw (by decide) (fbG pwG) (hfb9 ht) _ _ _ _ _ _ _ _ _ _ _ hD a1 a2 a3 a4 a5 ha1 ha2 ha3 ha4 ha5) (fun E g1 h => h.1) (fun r g1 h => h.1 208 (by decide))) (vx_cwSW _ C.2.2.2.2 (good_SW (gw_in 240 (by rfl) rfl) st_L_feed wi_L cw_L_feed) rfl rfl rfl cd_L_feed.2 ⟨Nat.le_of_ble_eq_true rfl, Nat.le_of_ble_eq_true rfl⟩) hl.1 rfl (Nat.le_of_ble_eq_true rfl) dL_law_148 ⟨hcl, hsl⟩ (fun k9 gw H locs hp1 hw => ?_)
  obtain ⟨hf1, ob1, hO1⟩ := wI_fr hp1 hO (fun v g2 h => h.1) (fun E g2 h => h.2.2.1)
  have hM1 := hM.keep (g1 := gw) (fun z h1 h2 => hf1 z (by omega) (by omega))
  obtain ⟨fs8, hq8⟩ := hM1.ob
  refine lv_istore (lv' := [(5, .int (k9)), (0, .ref (b)), (1, .ref (ad 0)), (2, .ref (ad 198)), (3, .ref (ad 208)), (4, .int (nI i))]) C.1 C.2.1 dL_law_151 hl (by decide) rfl (fun ls hl => ?_)
  refine lv_aload_n C.1 C.2.1 dL_law_153 rfl (lv_at hl 3 rfl) ?_
  refine lv_aload_n C.1 C.2.1 dL_law_154 rfl (lv_at hl 1 rfl) ?_
  refine lv_iload C.1 C.2.1 dL_law_155 (lv_at hl 5 rfl) ?_
  refine k_icn C 1 dL_law_157 (by decide) ?_
  refine k_add C dL_law_158 ?_
  refine k_sld C hw hX hbl hbA (i + 1) (by omega) hL dL_law_159 ?_
  refine k_ti (x' := nI a1) hx1 ?_
  refine lv_aload_n C.1 C.2.1 dL_law_160 rfl (lv_at hl 1 rfl) ?_
  refine lv_iload C.1 C.2.1 dL_law_161 (lv_at hl 5 rfl) ?_
  refine k_icn C 2 dL_law_163 (by decide) ?_
  refine k_add C dL_law_164 ?_
  refine k_sld C hw hX hbl hbA (i + 2) (by omega) hL dL_law_165 ?_
  refine k_ti (x' := nI a2) hx2 ?_
  refine lv_aload_n C.1 C.2.1 dL_law_166 rfl (lv_at hl 1 rfl) ?_
  refine lv_iload C.1 C.2.1 dL_law_167 (lv_at hl 5 rfl) ?_
  refine k_icn C 3 dL_law_169 (by decide) ?_
  refine k_add C dL_law_170 ?_
  refine k_sld C hw hX hbl hbA (i + 3) (by omega) hL dL_law_171 ?_
  refine k_ti (x' := nI a3) hx3 ?_
  refine lv_aload_n C.1 C.2.1 dL_law_172 rfl (lv_at hl 1 rfl) ?_
  refine lv_iload C.1 C.2.1 dL_law_173 (lv_at hl 5 rfl) ?_
  refine k_icn C 4 dL_law_175 (by decide) ?_
  refine k_add C dL_law_176 ?_
  refine k_sld C hw hX hbl hbA (i + 4) (by omega) hL dL_law_177 ?_
  refine k_ti (x' := nI a4) hx4 ?_
  refine lv_aload_n C.1 C.2.1 dL_law_178 rfl (lv_at hl 1 rfl) ?_
  refine lv_iload C.1 C.2.1 dL_law_179 (lv_at hl 5 rfl) ?_
  refine k_icn C 5 dL_law_181 (by decide) ?_
  refine k_add C dL_law_182 ?_
  refine k_sld C hw hX hbl hbA (i + 5) (by omega) hL dL_law_183 ?_
  refine k_ti (x' := nI a5) hx5 ?_
  refine k_Vi C F hw (i := 198) (As := [.int (nI a1), .int (nI a2), .int (nI a3), .int (nI a4), .int (nI a5)]) (rest := []) (c_X8_feed (by decide) pwG pwG_lt hT9 _ _ _ _ _ _ _ _ _ _ _ hM1 a1 a2 a3 a4 a5 ha1 ha2 ha3 ha4 ha5) (by omega) hq8 rfl (cwV _ C.2.2.2.2 gm_L_77 rfl rfl rfl cd_X8_feed ⟨by decide, by decide⟩) hl.1 rfl (Nat.le_of_ble_eq_true rfl) dL_law_184 ⟨by omega, by omega⟩ (fun r1 g2 H locs hp hw => ?_)
  have hj := j_feed ht hD hM hJ hO a1 a2 a3 a4 a5 hp1 hp
  obtain ⟨⟨ob2, hO2, hv2⟩, hJ2⟩ := hj
  obtain ⟨fs9, hq9⟩ := hJ2.ob
  refine lv_istore (lv' := [(6, .int (r1)), (5, .int (k9)), (0, .ref (b)), (1, .ref (ad 0)), (2, .ref (ad 198)), (3, .ref (ad 208)), (4, .int (nI i))]) C.1 C.2.1 dL_law_187 hl (by decide) rfl (fun ls hl => ?_)
  refine lv_aload_n C.1 C.2.1 dL_law_189 rfl (lv_at hl 4 rfl) ?_
  refine k_Vi C F hw (i := 198) (As := []) (rest := []) (c_thrown hJ2) (by omega) hq9 rfl (cwV _ C.2.2.2.2 gm_L_78 rfl rfl rfl cd_X8_thrown ⟨by decide, by decide⟩) hl.1 rfl (Nat.le_of_ble_eq_true rfl) dL_law_190 ⟨by omega, by omega⟩ (fun r3 g4 H locs hp hw => ?_)
  obtain ⟨hr9, hg9⟩ := hp
  rw [hg9] at hw
  subst hr9
  refine lv_iload C.1 C.2.1 dL_law_193 (lv_at hl 1 rfl) ?_
  refine lv_icmp_eq (tgt := 200) C.1 C.2.1 dL_law_195 (by decide) (fun hc195 => ?_) (fun hc195 => ?_)
  · refine lv_iload C.1 C.2.1 dL_law_200 (lv_at hl 1 rfl) ?_
    refine lv_if_ne (tgt := 217) C.1 C.2.1 dL_law_202 (by decide) (fun hc202 => ?_) (fun hc202 => ?_)
    · refine lv_goto (tgt := 1046) C.1 C.2.1 dL_law_217 (by decide) ?_
      exact kk _ H locs ls _ (lv_sub hl [2, 3, 4, 5, 6] rfl) hw hJ2 ⟨ob2, hO2⟩
    · refine lv_aload_n C.1 C.2.1 dL_law_205 rfl (lv_at hl 5 rfl) ?_
      refine k_icn C 0 dL_law_206 (by decide) ?_
      refine k_lald C F hw 208 (by decide) hO2 0 (by decide) (by decide) dL_law_207 ?_
      refine lv_iload C.1 C.2.1 dL_law_208 (lv_at hl 0 rfl) ?_
      refine lv_i2l C.1 C.2.1 dL_law_210 rfl ?_
      refine k_lcmpE C (hv2 hc202) dL_law_211 ?_
      refine k_zeq (tgt := 217) C dL_law_212 (by decide) (by omega) (fun _ => ?_) (fun h => absurd h (by decide))
      refine lv_goto (tgt := 1046) C.1 C.2.1 dL_law_217 (by decide) ?_
      exact kk _ H locs ls _ (lv_sub hl [2, 3, 4, 5, 6] rfl) hw hJ2 ⟨ob2, hO2⟩
  · exact absurd rfl hc195

set_option maxHeartbeats 1600000 in
set_option maxRecDepth 100000 in
theorem l_end {p : Program} {l : Launch} {e : Env} {s : State} {m : MethodId} {args : Array Value} {below : List Frame} {meth : Method} {c : Code} {H : Heap} {locs : List Loc} {cells slots : Nat} {Q : State → Prop} {ls : Array Slot} {D : va_G} {ca : Nat → ClassId} {tB tS : Nat} {A : Nat → Prop} {ad : Nat → Nat} {g : Nat → va_E} {ex : Nat → Nat} {cd : Int32} {b L i : Nat} {xs : Nat → Int32} {ob : Nat → Int64} (hlt : l.stackTraces = false) (ht : TabOk pwG ex) (C : CallFix p m c cL_law 7 s args GW RL) (F : Fx D ca tB tS A s) (hX : va_X b L xs s s.heap) (hbl : b < s.heap.size) (hbA : ¬ A b) (hw : Wd D A s 209 ad g H locs) (hl : lv_has ls 7 [(0, .ref (b)), (1, .ref (ad 0)), (2, .ref (ad 198)), (3, .ref (ad 208)), (4, .int (nI i))]) (hi : i + 6 ≤ L) (hL : L ≤ 3072) (hJS : JS ca ad g ex cd) (hO : g 208 = la ca 1 ob) (hcl : cells + 1 ≤ room_1.cells) (hsl : slots + 6 ≤ room_1.slots) (kk : ∀ (g1 : Nat → va_E) (H1 : Heap) (locs1 : List Loc) (ls1 : Array Slot) (cd1 : Int32), lv_has ls1 7 [(0, .ref (b)), (1, .ref (ad 0)), (2, .ref (ad 198)), (3, .ref (ad 208)), (4, .int (nI i))] → Wd D A s 209 ad g1 H1 locs1 → JS ca ad g1 ex cd1 → (∃ ob, g1 208 = la ca 1 ob) → W p l e room_1 s m args below meth c H1 locs1 (cells + 1) (slots + 6) Q (F0 m 1046 ls1 [])) : W p l e room_1 s m args below meth c H locs cells slots Q (F0 m 220 ls []) := by
  obtain ⟨len, h, bk, bt, BM, ck, ct, cn, rk, M, ld, th, IN, CG, cm, hD, hM, hJ⟩ := hJS
  have hbd := hD.bd
  refine lv_aload_n C.1 C.2.1 dL_law_220 rfl (lv_at hl 1 rfl) ?_
  refine lv_aload_n C.1 C.2.1 dL_law_221 rfl (lv_at hl 0 rfl) ?_
  refine lv_iload C.1 C.2.1 dL_law_222 (lv_at hl 4 rfl) ?_
  refine k_icn C 1 dL_law_224 (by decide) ?_
  refine k_add C dL_law_225 ?_
  refine k_sld C hw hX hbl hbA (i + 1) (by omega) hL dL_law_226 ?_
  refine k_SW C F hw (As := [.ref (ad 0), .int (xs (i + 1))]) (rest := []) (c_L_end (by decide) hO hD.1 (xs (i + 1)) (fun sz => c_X7_end hlt pwG ex ht.2.2 ht.pw (by decide) (fbG pwG) (hfb9 ht) _ _ _ _ _ _ _ _ _ _ _ hD (xs (i + 1))) (fun E g1 h => h.1)) (vx_cwSW _ C.2.2.2.2 (good_SW (gw_in 320 (by rfl) rfl) st_L_end wi_L cw_L_end) rfl rfl rfl cd_L_end.2 ⟨Nat.le_of_ble_eq_true rfl, Nat.le_of_ble_eq_true rfl⟩) hl.1 rfl (Nat.le_of_ble_eq_true rfl) dL_law_227 ⟨hcl, hsl⟩ (fun k9 gw H locs hp1 hw => ?_)
  obtain ⟨hf1, ob1, hO1⟩ := wV_fr hp1 hO (fun g2 h => h.1) (fun E g2 h => h.2.2.1)
  have hM1 := hM.keep (g1 := gw) (fun z h1 h2 => hf1 z (by omega) (by omega))
  obtain ⟨fs8, hq8⟩ := hM1.ob
  refine lv_istore (lv' := [(5, .int (k9)), (0, .ref (b)), (1, .ref (ad 0)), (2, .ref (ad 198)), (3, .ref (ad 208)), (4, .int (nI i))]) C.1 C.2.1 dL_law_230 hl (by decide) rfl (fun ls hl => ?_)
  refine lv_aload_n C.1 C.2.1 dL_law_232 rfl (lv_at hl 3 rfl) ?_
  refine lv_aload_n C.1 C.2.1 dL_law_233 rfl (lv_at hl 1 rfl) ?_
  refine lv_iload C.1 C.2.1 dL_law_234 (lv_at hl 5 rfl) ?_
  refine k_icn C 1 dL_law_236 (by decide) ?_
  refine k_add C dL_law_237 ?_
  refine k_sld C hw hX hbl hbA (i + 1) (by omega) hL dL_law_238 ?_
  refine k_Vv C F hw (i := 198) (As := [.int (xs (i + 1))]) (rest := []) (c_X8_end (by decide) pwG pwG_lt hT9 _ _ _ _ _ _ _ _ _ _ _ hM1 (xs (i + 1))) (by omega) hq8 rfl (cwV _ C.2.2.2.2 gm_L_84 rfl rfl rfl cd_X8_end ⟨by decide, by decide⟩) hl.1 rfl (Nat.le_of_ble_eq_true rfl) dL_law_239 ⟨by omega, by omega⟩ (fun g2 H locs hp hw => ?_)
  have hj := j_end (r := 0) ht hD hM hJ hO (xs (i + 1)) hp1 hp
  obtain ⟨⟨ob2, hO2⟩, hJ2⟩ := hj
  obtain ⟨fs9, hq9⟩ := hJ2.ob
  refine lv_aload_n C.1 C.2.1 dL_law_242 rfl (lv_at hl 3 rfl) ?_
  refine k_Vi C F hw (i := 198) (As := []) (rest := []) (c_thrown hJ2) (by omega) hq9 rfl (cwV _ C.2.2.2.2 gm_L_78 rfl rfl rfl cd_X8_thrown ⟨by decide, by decide⟩) hl.1 rfl (Nat.le_of_ble_eq_true rfl) dL_law_243 ⟨by omega, by omega⟩ (fun r3 g4 H locs hp hw => ?_)
  obtain ⟨hr9, hg9⟩ := hp
  rw [hg9] at hw
  subst hr9
  refine lv_iload C.1 C.2.1 dL_law_246 (lv_at hl 0 rfl) ?_
  refine lv_icmp_eq (tgt := 253) C.1 C.2.1 dL_law_248 (by decide) (fun hc248 => ?_) (fun hc248 => ?_)
  · refine lv_goto (tgt := 1046) C.1 C.2.1 dL_law_253 (by decide) ?_
    exact kk _ H locs ls _ (lv_sub hl [1, 2, 3, 4, 5] rfl) hw hJ2 ⟨ob2, hO2⟩
  · exact absurd rfl hc248

set_option maxHeartbeats 1600000 in
set_option maxRecDepth 100000 in
theorem l_turn {p : Program} {l : Launch} {e : Env} {s : State} {m : MethodId} {args : Array Value} {below : List Frame} {meth : Method} {c : Code} {H : Heap} {locs : List Loc} {cells slots : Nat} {Q : State → Prop} {ls : Array Slot} {D : va_G} {ca : Nat → ClassId} {tB tS : Nat} {A : Nat → Prop} {ad : Nat → Nat} {g : Nat → va_E} {ex : Nat → Nat} {cd : Int32} {b L i : Nat} {xs : Nat → Int32} {ob : Nat → Int64} (hlt : l.stackTraces = false) (ht : TabOk pwG ex) (C : CallFix p m c cL_law 7 s args GW RL) (F : Fx D ca tB tS A s) (hX : va_X b L xs s s.heap) (hbl : b < s.heap.size) (hbA : ¬ A b) (hw : Wd D A s 209 ad g H locs) (hl : lv_has ls 7 [(0, .ref (b)), (1, .ref (ad 0)), (2, .ref (ad 198)), (3, .ref (ad 208)), (4, .int (nI i))]) (hi : i + 6 ≤ L) (hL : L ≤ 3072) (hJS : JS ca ad g ex cd) (hO : g 208 = la ca 1 ob) (hcl : cells + 1 ≤ room_1.cells) (hsl : slots + 6 ≤ room_1.slots) (kk : ∀ (g1 : Nat → va_E) (H1 : Heap) (locs1 : List Loc) (ls1 : Array Slot) (cd1 : Int32), lv_has ls1 7 [(0, .ref (b)), (1, .ref (ad 0)), (2, .ref (ad 198)), (3, .ref (ad 208)), (4, .int (nI i))] → Wd D A s 209 ad g1 H1 locs1 → JS ca ad g1 ex cd1 → (∃ ob, g1 208 = la ca 1 ob) → W p l e room_1 s m args below meth c H1 locs1 (cells + 1) (slots + 6) Q (F0 m 1046 ls1 [])) : W p l e room_1 s m args below meth c H locs cells slots Q (F0 m 256 ls []) := by
  obtain ⟨len, h, bk, bt, BM, ck, ct, cn, rk, M, ld, th, IN, CG, cm, hD, hM, hJ⟩ := hJS
  have hbd := hD.bd
  refine lv_aload_n C.1 C.2.1 dL_law_256 rfl (lv_at hl 1 rfl) ?_
  refine lv_aload_n C.1 C.2.1 dL_law_257 rfl (lv_at hl 0 rfl) ?_
  refine lv_iload C.1 C.2.1 dL_law_258 (lv_at hl 4 rfl) ?_
  refine k_icn C 1 dL_law_260 (by decide) ?_
  refine k_add C dL_law_261 ?_
  refine k_sld C hw hX hbl hbA (i + 1) (by omega) hL dL_law_262 ?_
  refine lv_aload_n C.1 C.2.1 dL_law_263 rfl (lv_at hl 3 rfl) ?_
  refine k_SW C F hw (As := [.ref (ad 0), .int (xs (i + 1)), .ref (ad 208)]) (rest := []) (c_L_turn (by decide) hO hD.1 (xs (i + 1)) (fun sz => c_X7_turn hlt pwG ex ht.2.2 ht.pw (by decide) (fbG pwG) (hfb9 ht) _ _ _ _ _ _ _ _ _ _ _ hD (xs (i + 1))) (fun E g1 h => h.1) (fun r g1 h => h.1 208 (by decide))) (vx_cwSW _ C.2.2.2.2 (good_SW (gw_in 343 (by rfl) rfl) st_L_turn wi_L cw_L_turn) rfl rfl rfl cd_L_turn.2 ⟨Nat.le_of_ble_eq_true rfl, Nat.le_of_ble_eq_true rfl⟩) hl.1 rfl (Nat.le_of_ble_eq_true rfl) dL_law_264 ⟨hcl, hsl⟩ (fun k9 gw H locs hp1 hw => ?_)
  obtain ⟨hf1, ob1, hO1⟩ := wI_fr hp1 hO (fun v g2 h => h.1) (fun E g2 h => h.2.2.1)
  have hM1 := hM.keep (g1 := gw) (fun z h1 h2 => hf1 z (by omega) (by omega))
  obtain ⟨fs8, hq8⟩ := hM1.ob
  refine lv_istore (lv' := [(5, .int (k9)), (0, .ref (b)), (1, .ref (ad 0)), (2, .ref (ad 198)), (3, .ref (ad 208)), (4, .int (nI i))]) C.1 C.2.1 dL_law_267 hl (by decide) rfl (fun ls hl => ?_)
  refine lv_aload_n C.1 C.2.1 dL_law_269 rfl (lv_at hl 3 rfl) ?_
  refine lv_aload_n C.1 C.2.1 dL_law_270 rfl (lv_at hl 1 rfl) ?_
  refine lv_iload C.1 C.2.1 dL_law_271 (lv_at hl 5 rfl) ?_
  refine k_icn C 1 dL_law_273 (by decide) ?_
  refine k_add C dL_law_274 ?_
  refine k_sld C hw hX hbl hbA (i + 1) (by omega) hL dL_law_275 ?_
  refine k_Vi C F hw (i := 198) (As := [.int (xs (i + 1))]) (rest := []) (c_X8_turn (by decide) pwG pwG_lt hT9 _ _ _ _ _ _ _ _ _ _ _ hM1 (xs (i + 1))) (by omega) hq8 rfl (cwV _ C.2.2.2.2 gm_L_88 rfl rfl rfl cd_X8_turn ⟨by decide, by decide⟩) hl.1 rfl (Nat.le_of_ble_eq_true rfl) dL_law_276 ⟨by omega, by omega⟩ (fun r1 g2 H locs hp hw => ?_)
  have hj := j_turn ht hD hM hJ hO (xs (i + 1)) hp1 hp
  obtain ⟨⟨ob2, hO2, hv2⟩, hJ2⟩ := hj
  obtain ⟨fs9, hq9⟩ := hJ2.ob
  refine lv_istore (lv' := [(6, .int (r1)), (5, .int (k9)), (0, .ref (b)), (1, .ref (ad 0)), (2, .ref (ad 198)), (3, .ref (ad 208)), (4, .int (nI i))]) C.1 C.2.1 dL_law_279 hl (by decide) rfl (fun ls hl => ?_)
  refine lv_aload_n C.1 C.2.1 dL_law_281 rfl (lv_at hl 4 rfl) ?_
  refine k_Vi C F hw (i := 198) (As := []) (rest := []) (c_thrown hJ2) (by omega) hq9 rfl (cwV _ C.2.2.2.2 gm_L_78 rfl rfl rfl cd_X8_thrown ⟨by decide, by decide⟩) hl.1 rfl (Nat.le_of_ble_eq_true rfl) dL_law_282 ⟨by omega, by omega⟩ (fun r3 g4 H locs hp hw => ?_)
  obtain ⟨hr9, hg9⟩ := hp
  rw [hg9] at hw
  subst hr9
  refine lv_iload C.1 C.2.1 dL_law_285 (lv_at hl 1 rfl) ?_
  refine lv_icmp_eq (tgt := 292) C.1 C.2.1 dL_law_287 (by decide) (fun hc287 => ?_) (fun hc287 => ?_)
  · refine lv_iload C.1 C.2.1 dL_law_292 (lv_at hl 1 rfl) ?_
    refine lv_if_ne (tgt := 309) C.1 C.2.1 dL_law_294 (by decide) (fun hc294 => ?_) (fun hc294 => ?_)
    · refine lv_goto (tgt := 1046) C.1 C.2.1 dL_law_309 (by decide) ?_
      exact kk _ H locs ls _ (lv_sub hl [2, 3, 4, 5, 6] rfl) hw hJ2 ⟨ob2, hO2⟩
    · refine lv_aload_n C.1 C.2.1 dL_law_297 rfl (lv_at hl 5 rfl) ?_
      refine k_icn C 0 dL_law_298 (by decide) ?_
      refine k_lald C F hw 208 (by decide) hO2 0 (by decide) (by decide) dL_law_299 ?_
      refine lv_iload C.1 C.2.1 dL_law_300 (lv_at hl 0 rfl) ?_
      refine lv_i2l C.1 C.2.1 dL_law_302 rfl ?_
      refine k_lcmpE C (hv2 hc294) dL_law_303 ?_
      refine k_zeq (tgt := 309) C dL_law_304 (by decide) (by omega) (fun _ => ?_) (fun h => absurd h (by decide))
      refine lv_goto (tgt := 1046) C.1 C.2.1 dL_law_309 (by decide) ?_
      exact kk _ H locs ls _ (lv_sub hl [2, 3, 4, 5, 6] rfl) hw hJ2 ⟨ob2, hO2⟩
  · exact absurd rfl hc287

set_option maxHeartbeats 1600000 in
set_option maxRecDepth 100000 in
theorem l_block {p : Program} {l : Launch} {e : Env} {s : State} {m : MethodId} {args : Array Value} {below : List Frame} {meth : Method} {c : Code} {H : Heap} {locs : List Loc} {cells slots : Nat} {Q : State → Prop} {ls : Array Slot} {D : va_G} {ca : Nat → ClassId} {tB tS : Nat} {A : Nat → Prop} {ad : Nat → Nat} {g : Nat → va_E} {ex : Nat → Nat} {cd : Int32} {b L i : Nat} {xs : Nat → Int32} {ob : Nat → Int64} (hlt : l.stackTraces = false) (ht : TabOk pwG ex) (C : CallFix p m c cL_law 7 s args GW RL) (F : Fx D ca tB tS A s) (hX : va_X b L xs s s.heap) (hbl : b < s.heap.size) (hbA : ¬ A b) (hw : Wd D A s 209 ad g H locs) (hl : lv_has ls 7 [(0, .ref (b)), (1, .ref (ad 0)), (2, .ref (ad 198)), (3, .ref (ad 208)), (4, .int (nI i))]) (hi : i + 6 ≤ L) (hL : L ≤ 3072) (hJS : JS ca ad g ex cd) (hO : g 208 = la ca 1 ob) (hcl : cells + 1 ≤ room_1.cells) (hsl : slots + 6 ≤ room_1.slots) (kk : ∀ (g1 : Nat → va_E) (H1 : Heap) (locs1 : List Loc) (ls1 : Array Slot) (cd1 : Int32), lv_has ls1 7 [(0, .ref (b)), (1, .ref (ad 0)), (2, .ref (ad 198)), (3, .ref (ad 208)), (4, .int (nI i))] → Wd D A s 209 ad g1 H1 locs1 → JS ca ad g1 ex cd1 → (∃ ob, g1 208 = la ca 1 ob) → W p l e room_1 s m args below meth c H1 locs1 (cells + 1) (slots + 6) Q (F0 m 1046 ls1 [])) : W p l e room_1 s m args below meth c H locs cells slots Q (F0 m 312 ls []) := by
  obtain ⟨len, h, bk, bt, BM, ck, ct, cn, rk, M, ld, th, IN, CG, cm, hD, hM, hJ⟩ := hJS
  have hbd := hD.bd
  refine lv_aload_n C.1 C.2.1 dL_law_312 rfl (lv_at hl 1 rfl) ?_
  refine lv_aload_n C.1 C.2.1 dL_law_313 rfl (lv_at hl 0 rfl) ?_
  refine lv_iload C.1 C.2.1 dL_law_314 (lv_at hl 4 rfl) ?_
  refine k_icn C 1 dL_law_316 (by decide) ?_
  refine k_add C dL_law_317 ?_
  refine k_sld C hw hX hbl hbA (i + 1) (by omega) hL dL_law_318 ?_
  refine lv_aload_n C.1 C.2.1 dL_law_319 rfl (lv_at hl 0 rfl) ?_
  refine lv_iload C.1 C.2.1 dL_law_320 (lv_at hl 4 rfl) ?_
  refine k_icn C 2 dL_law_322 (by decide) ?_
  refine k_add C dL_law_323 ?_
  refine k_sld C hw hX hbl hbA (i + 2) (by omega) hL dL_law_324 ?_
  refine k_SW C F hw (As := [.ref (ad 0), .int (xs (i + 1)), .int (xs (i + 2))]) (rest := []) (c_L_block (by decide) hO hD.1 (xs (i + 1)) (xs (i + 2)) (fun sz => c_X7_block hlt pwG ex ht.2.2 ht.pw (by decide) (fbG pwG) (hfb9 ht) _ _ _ _ _ _ _ _ _ _ _ hD (xs (i + 1)) (xs (i + 2))) (fun E g1 h => h.1)) (vx_cwSW _ C.2.2.2.2 (good_SW (gw_in 442 (by rfl) rfl) st_L_block wi_L cw_L_block) rfl rfl rfl cd_L_block.2 ⟨Nat.le_of_ble_eq_true rfl, Nat.le_of_ble_eq_true rfl⟩) hl.1 rfl (Nat.le_of_ble_eq_true rfl) dL_law_325 ⟨hcl, hsl⟩ (fun k9 gw H locs hp1 hw => ?_)
  obtain ⟨hf1, ob1, hO1⟩ := wV_fr hp1 hO (fun g2 h => h.1) (fun E g2 h => h.2.2.1)
  have hM1 := hM.keep (g1 := gw) (fun z h1 h2 => hf1 z (by omega) (by omega))
  obtain ⟨fs8, hq8⟩ := hM1.ob
  refine lv_istore (lv' := [(5, .int (k9)), (0, .ref (b)), (1, .ref (ad 0)), (2, .ref (ad 198)), (3, .ref (ad 208)), (4, .int (nI i))]) C.1 C.2.1 dL_law_328 hl (by decide) rfl (fun ls hl => ?_)
  refine lv_aload_n C.1 C.2.1 dL_law_330 rfl (lv_at hl 3 rfl) ?_
  refine lv_aload_n C.1 C.2.1 dL_law_331 rfl (lv_at hl 1 rfl) ?_
  refine lv_iload C.1 C.2.1 dL_law_332 (lv_at hl 5 rfl) ?_
  refine k_icn C 1 dL_law_334 (by decide) ?_
  refine k_add C dL_law_335 ?_
  refine k_sld C hw hX hbl hbA (i + 1) (by omega) hL dL_law_336 ?_
  refine lv_aload_n C.1 C.2.1 dL_law_337 rfl (lv_at hl 1 rfl) ?_
  refine lv_iload C.1 C.2.1 dL_law_338 (lv_at hl 5 rfl) ?_
  refine k_icn C 2 dL_law_340 (by decide) ?_
  refine k_add C dL_law_341 ?_
  refine k_sld C hw hX hbl hbA (i + 2) (by omega) hL dL_law_342 ?_
  refine k_Vv C F hw (i := 198) (As := [.int (xs (i + 1)), .int (xs (i + 2))]) (rest := []) (c_X8_block (by decide) pwG pwG_lt hT9 _ _ _ _ _ _ _ _ _ _ _ hM1 (xs (i + 1)) (xs (i + 2))) (by omega) hq8 rfl (cwV _ C.2.2.2.2 gm_L_92 rfl rfl rfl cd_X8_block ⟨by decide, by decide⟩) hl.1 rfl (Nat.le_of_ble_eq_true rfl) dL_law_343 ⟨by omega, by omega⟩ (fun g2 H locs hp hw => ?_)
  have hj := j_block (r := 0) ht hD hM hJ hO (xs (i + 1)) (xs (i + 2)) hp1 hp
  obtain ⟨⟨ob2, hO2⟩, hJ2⟩ := hj
  obtain ⟨fs9, hq9⟩ := hJ2.ob
  refine lv_aload_n C.1 C.2.1 dL_law_346 rfl (lv_at hl 3 rfl) ?_
  refine k_Vi C F hw (i := 198) (As := []) (rest := []) (c_thrown hJ2) (by omega) hq9 rfl (cwV _ C.2.2.2.2 gm_L_78 rfl rfl rfl cd_X8_thrown ⟨by decide, by decide⟩) hl.1 rfl (Nat.le_of_ble_eq_true rfl) dL_law_347 ⟨by omega, by omega⟩ (fun r3 g4 H locs hp hw => ?_)
  obtain ⟨hr9, hg9⟩ := hp
  rw [hg9] at hw
  subst hr9
  refine lv_iload C.1 C.2.1 dL_law_350 (lv_at hl 0 rfl) ?_
  refine lv_icmp_eq (tgt := 357) C.1 C.2.1 dL_law_352 (by decide) (fun hc352 => ?_) (fun hc352 => ?_)
  · refine lv_goto (tgt := 1046) C.1 C.2.1 dL_law_357 (by decide) ?_
    exact kk _ H locs ls _ (lv_sub hl [1, 2, 3, 4, 5] rfl) hw hJ2 ⟨ob2, hO2⟩
  · exact absurd rfl hc352

set_option maxHeartbeats 1600000 in
set_option maxRecDepth 100000 in
theorem l_byteAt {p : Program} {l : Launch} {e : Env} {s : State} {m : MethodId} {args : Array Value} {below : List Frame} {meth : Method} {c : Code} {H : Heap} {locs : List Loc} {cells slots : Nat} {Q : State → Prop} {ls : Array Slot} {D : va_G} {ca : Nat → ClassId} {tB tS : Nat} {A : Nat → Prop} {ad : Nat → Nat} {g : Nat → va_E} {ex : Nat → Nat} {cd : Int32} {b L i : Nat} {xs : Nat → Int32} {ob : Nat → Int64} (hlt : l.stackTraces = false) (ht : TabOk pwG ex) (C : CallFix p m c cL_law 7 s args GW RL) (F : Fx D ca tB tS A s) (hX : va_X b L xs s s.heap) (hbl : b < s.heap.size) (hbA : ¬ A b) (hw : Wd D A s 209 ad g H locs) (hl : lv_has ls 7 [(0, .ref (b)), (1, .ref (ad 0)), (2, .ref (ad 198)), (3, .ref (ad 208)), (4, .int (nI i))]) (hi : i + 6 ≤ L) (hL : L ≤ 3072) (hJS : JS ca ad g ex cd) (hO : g 208 = la ca 1 ob) (hcl : cells + 1 ≤ room_1.cells) (hsl : slots + 6 ≤ room_1.slots) (kk : ∀ (g1 : Nat → va_E) (H1 : Heap) (locs1 : List Loc) (ls1 : Array Slot) (cd1 : Int32), lv_has ls1 7 [(0, .ref (b)), (1, .ref (ad 0)), (2, .ref (ad 198)), (3, .ref (ad 208)), (4, .int (nI i))] → Wd D A s 209 ad g1 H1 locs1 → JS ca ad g1 ex cd1 → (∃ ob, g1 208 = la ca 1 ob) → W p l e room_1 s m args below meth c H1 locs1 (cells + 1) (slots + 6) Q (F0 m 1046 ls1 [])) : W p l e room_1 s m args below meth c H locs cells slots Q (F0 m 360 ls []) := by
  obtain ⟨len, h, bk, bt, BM, ck, ct, cn, rk, M, ld, th, IN, CG, cm, hD, hM, hJ⟩ := hJS
  have hbd := hD.bd
  refine lv_aload_n C.1 C.2.1 dL_law_360 rfl (lv_at hl 1 rfl) ?_
  refine lv_aload_n C.1 C.2.1 dL_law_361 rfl (lv_at hl 0 rfl) ?_
  refine lv_iload C.1 C.2.1 dL_law_362 (lv_at hl 4 rfl) ?_
  refine k_icn C 1 dL_law_364 (by decide) ?_
  refine k_add C dL_law_365 ?_
  refine k_sld C hw hX hbl hbA (i + 1) (by omega) hL dL_law_366 ?_
  refine lv_aload_n C.1 C.2.1 dL_law_367 rfl (lv_at hl 0 rfl) ?_
  refine lv_iload C.1 C.2.1 dL_law_368 (lv_at hl 4 rfl) ?_
  refine k_icn C 2 dL_law_370 (by decide) ?_
  refine k_add C dL_law_371 ?_
  refine k_sld C hw hX hbl hbA (i + 2) (by omega) hL dL_law_372 ?_
  refine lv_aload_n C.1 C.2.1 dL_law_373 rfl (lv_at hl 3 rfl) ?_
  refine k_SW C F hw (As := [.ref (ad 0), .int (xs (i + 1)), .int (xs (i + 2)), .ref (ad 208)]) (rest := []) (c_L_byteAt (by decide) hO hD.1 (xs (i + 1)) (xs (i + 2)) (fun sz => c_X7_byteAt hlt pwG ex ht.2.2 ht.pw (by decide) (fbG pwG) (hfb9 ht) _ _ _ _ _ _ _ _ _ _ _ hD (xs (i + 1)) (xs (i + 2))) (fun E g1 h => (fun h => h.elim (fun h => Or.inl (h.1)) (fun h => Or.inr (h.1))) h.1) (fun r g1 h => h.1 208 (by decide))) (vx_cwSW _ C.2.2.2.2 (good_SW (gw_in 471 (by rfl) rfl) st_L_byteAt wi_L cw_L_byteAt) rfl rfl rfl cd_L_byteAt.2 ⟨Nat.le_of_ble_eq_true rfl, Nat.le_of_ble_eq_true rfl⟩) hl.1 rfl (Nat.le_of_ble_eq_true rfl) dL_law_374 ⟨hcl, hsl⟩ (fun k9 gw H locs hp1 hw => ?_)
  obtain ⟨hf1, ob1, hO1⟩ := wI_fr hp1 hO (fun v g2 h => h.1) (fun E g2 h => h.2.1)
  have hM1 := hM.keep (g1 := gw) (fun z h1 h2 => hf1 z (by omega) (by omega))
  obtain ⟨fs8, hq8⟩ := hM1.ob
  refine lv_istore (lv' := [(5, .int (k9)), (0, .ref (b)), (1, .ref (ad 0)), (2, .ref (ad 198)), (3, .ref (ad 208)), (4, .int (nI i))]) C.1 C.2.1 dL_law_377 hl (by decide) rfl (fun ls hl => ?_)
  refine lv_aload_n C.1 C.2.1 dL_law_379 rfl (lv_at hl 3 rfl) ?_
  refine lv_aload_n C.1 C.2.1 dL_law_380 rfl (lv_at hl 1 rfl) ?_
  refine lv_iload C.1 C.2.1 dL_law_381 (lv_at hl 5 rfl) ?_
  refine k_icn C 1 dL_law_383 (by decide) ?_
  refine k_add C dL_law_384 ?_
  refine k_sld C hw hX hbl hbA (i + 1) (by omega) hL dL_law_385 ?_
  refine lv_aload_n C.1 C.2.1 dL_law_386 rfl (lv_at hl 1 rfl) ?_
  refine lv_iload C.1 C.2.1 dL_law_387 (lv_at hl 5 rfl) ?_
  refine k_icn C 2 dL_law_389 (by decide) ?_
  refine k_add C dL_law_390 ?_
  refine k_sld C hw hX hbl hbA (i + 2) (by omega) hL dL_law_391 ?_
  refine k_Vi C F hw (i := 198) (As := [.int (xs (i + 1)), .int (xs (i + 2))]) (rest := []) (c_X8_byteAt (by decide) pwG pwG_lt hT9 _ _ _ _ _ _ _ _ _ _ _ hM1 (xs (i + 1)) (xs (i + 2))) (by omega) hq8 rfl (cwV _ C.2.2.2.2 gm_L_96 rfl rfl rfl cd_X8_byteAt ⟨by decide, by decide⟩) hl.1 rfl (Nat.le_of_ble_eq_true rfl) dL_law_392 ⟨by omega, by omega⟩ (fun r1 g2 H locs hp hw => ?_)
  have hj := j_byteAt ht hD hM hJ hO (xs (i + 1)) (xs (i + 2)) hp1 hp
  obtain ⟨⟨ob2, hO2, hv2⟩, hJ2⟩ := hj
  obtain ⟨fs9, hq9⟩ := hJ2.ob
  refine lv_istore (lv' := [(6, .int (r1)), (5, .int (k9)), (0, .ref (b)), (1, .ref (ad 0)), (2, .ref (ad 198)), (3, .ref (ad 208)), (4, .int (nI i))]) C.1 C.2.1 dL_law_395 hl (by decide) rfl (fun ls hl => ?_)
  refine lv_aload_n C.1 C.2.1 dL_law_397 rfl (lv_at hl 4 rfl) ?_
  refine k_Vi C F hw (i := 198) (As := []) (rest := []) (c_thrown hJ2) (by omega) hq9 rfl (cwV _ C.2.2.2.2 gm_L_78 rfl rfl rfl cd_X8_thrown ⟨by decide, by decide⟩) hl.1 rfl (Nat.le_of_ble_eq_true rfl) dL_law_398 ⟨by omega, by omega⟩ (fun r3 g4 H locs hp hw => ?_)
  obtain ⟨hr9, hg9⟩ := hp
  rw [hg9] at hw
  subst hr9
  refine lv_iload C.1 C.2.1 dL_law_401 (lv_at hl 1 rfl) ?_
  refine lv_icmp_eq (tgt := 408) C.1 C.2.1 dL_law_403 (by decide) (fun hc403 => ?_) (fun hc403 => ?_)
  · refine lv_iload C.1 C.2.1 dL_law_408 (lv_at hl 1 rfl) ?_
    refine lv_if_ne (tgt := 425) C.1 C.2.1 dL_law_410 (by decide) (fun hc410 => ?_) (fun hc410 => ?_)
    · refine lv_goto (tgt := 1046) C.1 C.2.1 dL_law_425 (by decide) ?_
      exact kk _ H locs ls _ (lv_sub hl [2, 3, 4, 5, 6] rfl) hw hJ2 ⟨ob2, hO2⟩
    · refine lv_aload_n C.1 C.2.1 dL_law_413 rfl (lv_at hl 5 rfl) ?_
      refine k_icn C 0 dL_law_414 (by decide) ?_
      refine k_lald C F hw 208 (by decide) hO2 0 (by decide) (by decide) dL_law_415 ?_
      refine lv_iload C.1 C.2.1 dL_law_416 (lv_at hl 0 rfl) ?_
      refine lv_i2l C.1 C.2.1 dL_law_418 rfl ?_
      refine k_lcmpE C (hv2 hc410) dL_law_419 ?_
      refine k_zeq (tgt := 425) C dL_law_420 (by decide) (by omega) (fun _ => ?_) (fun h => absurd h (by decide))
      refine lv_goto (tgt := 1046) C.1 C.2.1 dL_law_425 (by decide) ?_
      exact kk _ H locs ls _ (lv_sub hl [2, 3, 4, 5, 6] rfl) hw hJ2 ⟨ob2, hO2⟩
  · exact absurd rfl hc403

set_option maxHeartbeats 1600000 in
set_option maxRecDepth 100000 in
theorem l_row {p : Program} {l : Launch} {e : Env} {s : State} {m : MethodId} {args : Array Value} {below : List Frame} {meth : Method} {c : Code} {H : Heap} {locs : List Loc} {cells slots : Nat} {Q : State → Prop} {ls : Array Slot} {D : va_G} {ca : Nat → ClassId} {tB tS : Nat} {A : Nat → Prop} {ad : Nat → Nat} {g : Nat → va_E} {ex : Nat → Nat} {cd : Int32} {b L i : Nat} {xs : Nat → Int32} {ob : Nat → Int64} (hlt : l.stackTraces = false) (ht : TabOk pwG ex) (C : CallFix p m c cL_law 7 s args GW RL) (F : Fx D ca tB tS A s) (hX : va_X b L xs s s.heap) (hbl : b < s.heap.size) (hbA : ¬ A b) (hw : Wd D A s 209 ad g H locs) (hl : lv_has ls 7 [(0, .ref (b)), (1, .ref (ad 0)), (2, .ref (ad 198)), (3, .ref (ad 208)), (4, .int (nI i))]) (hi : i + 6 ≤ L) (hL : L ≤ 3072) (hJS : JS ca ad g ex cd) (hO : g 208 = la ca 1 ob) (hcl : cells + 1 ≤ room_1.cells) (hsl : slots + 6 ≤ room_1.slots) (kk : ∀ (g1 : Nat → va_E) (H1 : Heap) (locs1 : List Loc) (ls1 : Array Slot) (cd1 : Int32), lv_has ls1 7 [(0, .ref (b)), (1, .ref (ad 0)), (2, .ref (ad 198)), (3, .ref (ad 208)), (4, .int (nI i))] → Wd D A s 209 ad g1 H1 locs1 → JS ca ad g1 ex cd1 → (∃ ob, g1 208 = la ca 1 ob) → W p l e room_1 s m args below meth c H1 locs1 (cells + 1) (slots + 6) Q (F0 m 1046 ls1 [])) : W p l e room_1 s m args below meth c H locs cells slots Q (F0 m 428 ls []) := by
  obtain ⟨len, h, bk, bt, BM, ck, ct, cn, rk, M, ld, th, IN, CG, cm, hD, hM, hJ⟩ := hJS
  have hbd := hD.bd
  refine lv_aload_n C.1 C.2.1 dL_law_428 rfl (lv_at hl 1 rfl) ?_
  refine lv_aload_n C.1 C.2.1 dL_law_429 rfl (lv_at hl 0 rfl) ?_
  refine lv_iload C.1 C.2.1 dL_law_430 (lv_at hl 4 rfl) ?_
  refine k_icn C 1 dL_law_432 (by decide) ?_
  refine k_add C dL_law_433 ?_
  refine k_sld C hw hX hbl hbA (i + 1) (by omega) hL dL_law_434 ?_
  refine lv_aload_n C.1 C.2.1 dL_law_435 rfl (lv_at hl 0 rfl) ?_
  refine lv_iload C.1 C.2.1 dL_law_436 (lv_at hl 4 rfl) ?_
  refine k_icn C 2 dL_law_438 (by decide) ?_
  refine k_add C dL_law_439 ?_
  refine k_sld C hw hX hbl hbA (i + 2) (by omega) hL dL_law_440 ?_
  refine lv_aload_n C.1 C.2.1 dL_law_441 rfl (lv_at hl 0 rfl) ?_
  refine lv_iload C.1 C.2.1 dL_law_442 (lv_at hl 4 rfl) ?_
  refine k_icn C 3 dL_law_444 (by decide) ?_
  refine k_add C dL_law_445 ?_
  refine k_sld C hw hX hbl hbA (i + 3) (by omega) hL dL_law_446 ?_
  refine lv_if_eq (tgt := 454) C.1 C.2.1 dL_law_447 (by decide) (fun hc447 => ?_) (fun hc447 => ?_)
  · refine k_icn C 0 dL_law_454 (by decide) ?_
    refine k_ti (x' := bI false) rfl ?_
    refine lv_aload_n C.1 C.2.1 dL_law_455 rfl (lv_at hl 3 rfl) ?_
    refine k_SW C F hw (As := [.ref (ad 0), .int (xs (i + 1)), .int (xs (i + 2)), .int (bI (false)), .ref (ad 208)]) (rest := []) (c_L_row (by decide) hO hD.1 (xs (i + 1)) (xs (i + 2)) (bI false) (fun sz => c_X7_row hlt pwG ex ht.2.2 ht.pw (by decide) (fbG pwG) (hfb9 ht) _ _ _ _ _ _ _ _ _ _ _ hD (xs (i + 1)) (xs (i + 2)) false) (fun E g1 h => (fun h => h.elim (fun h => Or.inl (h.1)) (fun h => Or.inr (h.1))) h.1) (fun r g1 h => h.1 208 (by decide))) (vx_cwSW _ C.2.2.2.2 (good_SW (gw_in 518 (by rfl) rfl) st_L_row wi_L cw_L_row) rfl rfl rfl cd_L_row.2 ⟨Nat.le_of_ble_eq_true rfl, Nat.le_of_ble_eq_true rfl⟩) hl.1 rfl (Nat.le_of_ble_eq_true rfl) dL_law_456 ⟨hcl, hsl⟩ (fun k9 gw H locs hp1 hw => ?_)
    obtain ⟨hf1, ob1, hO1⟩ := wI_fr hp1 hO (fun v g2 h => h.1) (fun E g2 h => h.2.1)
    have hM1 := hM.keep (g1 := gw) (fun z h1 h2 => hf1 z (by omega) (by omega))
    obtain ⟨fs8, hq8⟩ := hM1.ob
    refine lv_istore (lv' := [(5, .int (k9)), (0, .ref (b)), (1, .ref (ad 0)), (2, .ref (ad 198)), (3, .ref (ad 208)), (4, .int (nI i))]) C.1 C.2.1 dL_law_459 hl (by decide) rfl (fun ls hl => ?_)
    refine lv_aload_n C.1 C.2.1 dL_law_461 rfl (lv_at hl 3 rfl) ?_
    refine lv_aload_n C.1 C.2.1 dL_law_462 rfl (lv_at hl 1 rfl) ?_
    refine lv_iload C.1 C.2.1 dL_law_463 (lv_at hl 5 rfl) ?_
    refine k_icn C 1 dL_law_465 (by decide) ?_
    refine k_add C dL_law_466 ?_
    refine k_sld C hw hX hbl hbA (i + 1) (by omega) hL dL_law_467 ?_
    refine lv_aload_n C.1 C.2.1 dL_law_468 rfl (lv_at hl 1 rfl) ?_
    refine lv_iload C.1 C.2.1 dL_law_469 (lv_at hl 5 rfl) ?_
    refine k_icn C 2 dL_law_471 (by decide) ?_
    refine k_add C dL_law_472 ?_
    refine k_sld C hw hX hbl hbA (i + 2) (by omega) hL dL_law_473 ?_
    refine lv_aload_n C.1 C.2.1 dL_law_474 rfl (lv_at hl 1 rfl) ?_
    refine lv_iload C.1 C.2.1 dL_law_475 (lv_at hl 5 rfl) ?_
    refine k_icn C 3 dL_law_477 (by decide) ?_
    refine k_add C dL_law_478 ?_
    refine k_sld C hw hX hbl hbA (i + 3) (by omega) hL dL_law_479 ?_
    refine lv_if_eq (tgt := 487) C.1 C.2.1 dL_law_480 (by decide) (fun hc480 => ?_) (fun hc480 => ?_)
    · refine k_icn C 0 dL_law_487 (by decide) ?_
      refine k_ti (x' := bI false) rfl ?_
      refine k_Vi C F hw (i := 198) (As := [.int (xs (i + 1)), .int (xs (i + 2)), .int (bI (false))]) (rest := []) (c_X8_row (by decide) pwG pwG_lt hT9 _ _ _ _ _ _ _ _ _ _ _ hM1 (xs (i + 1)) (xs (i + 2)) false) (by omega) hq8 rfl (cwV _ C.2.2.2.2 gm_L_100 rfl rfl rfl cd_X8_row ⟨by decide, by decide⟩) hl.1 rfl (Nat.le_of_ble_eq_true rfl) dL_law_488 ⟨by omega, by omega⟩ (fun r1 g2 H locs hp hw => ?_)
      have hj := j_row ht hD hM hJ hO (xs (i + 1)) (xs (i + 2)) false hp1 hp
      obtain ⟨⟨ob2, hO2, hv2⟩, hJ2⟩ := hj
      obtain ⟨fs9, hq9⟩ := hJ2.ob
      refine lv_istore (lv' := [(6, .int (r1)), (5, .int (k9)), (0, .ref (b)), (1, .ref (ad 0)), (2, .ref (ad 198)), (3, .ref (ad 208)), (4, .int (nI i))]) C.1 C.2.1 dL_law_491 hl (by decide) rfl (fun ls hl => ?_)
      refine lv_aload_n C.1 C.2.1 dL_law_493 rfl (lv_at hl 4 rfl) ?_
      refine k_Vi C F hw (i := 198) (As := []) (rest := []) (c_thrown hJ2) (by omega) hq9 rfl (cwV _ C.2.2.2.2 gm_L_78 rfl rfl rfl cd_X8_thrown ⟨by decide, by decide⟩) hl.1 rfl (Nat.le_of_ble_eq_true rfl) dL_law_494 ⟨by omega, by omega⟩ (fun r3 g4 H locs hp hw => ?_)
      obtain ⟨hr9, hg9⟩ := hp
      rw [hg9] at hw
      subst hr9
      refine lv_iload C.1 C.2.1 dL_law_497 (lv_at hl 1 rfl) ?_
      refine lv_icmp_eq (tgt := 504) C.1 C.2.1 dL_law_499 (by decide) (fun hc499 => ?_) (fun hc499 => ?_)
      · refine lv_iload C.1 C.2.1 dL_law_504 (lv_at hl 1 rfl) ?_
        refine lv_if_ne (tgt := 521) C.1 C.2.1 dL_law_506 (by decide) (fun hc506 => ?_) (fun hc506 => ?_)
        · refine lv_goto (tgt := 1046) C.1 C.2.1 dL_law_521 (by decide) ?_
          exact kk _ H locs ls _ (lv_sub hl [2, 3, 4, 5, 6] rfl) hw hJ2 ⟨ob2, hO2⟩
        · refine lv_aload_n C.1 C.2.1 dL_law_509 rfl (lv_at hl 5 rfl) ?_
          refine k_icn C 0 dL_law_510 (by decide) ?_
          refine k_lald C F hw 208 (by decide) hO2 0 (by decide) (by decide) dL_law_511 ?_
          refine lv_iload C.1 C.2.1 dL_law_512 (lv_at hl 0 rfl) ?_
          refine lv_i2l C.1 C.2.1 dL_law_514 rfl ?_
          refine k_lcmpE C (hv2 hc506) dL_law_515 ?_
          refine k_zeq (tgt := 521) C dL_law_516 (by decide) (by omega) (fun _ => ?_) (fun h => absurd h (by decide))
          refine lv_goto (tgt := 1046) C.1 C.2.1 dL_law_521 (by decide) ?_
          exact kk _ H locs ls _ (lv_sub hl [2, 3, 4, 5, 6] rfl) hw hJ2 ⟨ob2, hO2⟩
      · exact absurd rfl hc499
    · exact absurd hc447 hc480
  · refine k_icn C 1 dL_law_450 (by decide) ?_
    refine lv_goto (tgt := 455) C.1 C.2.1 dL_law_451 (by decide) ?_
    refine k_ti (x' := bI true) rfl ?_
    refine lv_aload_n C.1 C.2.1 dL_law_455 rfl (lv_at hl 3 rfl) ?_
    refine k_SW C F hw (As := [.ref (ad 0), .int (xs (i + 1)), .int (xs (i + 2)), .int (bI (true)), .ref (ad 208)]) (rest := []) (c_L_row (by decide) hO hD.1 (xs (i + 1)) (xs (i + 2)) (bI true) (fun sz => c_X7_row hlt pwG ex ht.2.2 ht.pw (by decide) (fbG pwG) (hfb9 ht) _ _ _ _ _ _ _ _ _ _ _ hD (xs (i + 1)) (xs (i + 2)) true) (fun E g1 h => (fun h => h.elim (fun h => Or.inl (h.1)) (fun h => Or.inr (h.1))) h.1) (fun r g1 h => h.1 208 (by decide))) (vx_cwSW _ C.2.2.2.2 (good_SW (gw_in 518 (by rfl) rfl) st_L_row wi_L cw_L_row) rfl rfl rfl cd_L_row.2 ⟨Nat.le_of_ble_eq_true rfl, Nat.le_of_ble_eq_true rfl⟩) hl.1 rfl (Nat.le_of_ble_eq_true rfl) dL_law_456 ⟨hcl, hsl⟩ (fun k9 gw H locs hp1 hw => ?_)
    obtain ⟨hf1, ob1, hO1⟩ := wI_fr hp1 hO (fun v g2 h => h.1) (fun E g2 h => h.2.1)
    have hM1 := hM.keep (g1 := gw) (fun z h1 h2 => hf1 z (by omega) (by omega))
    obtain ⟨fs8, hq8⟩ := hM1.ob
    refine lv_istore (lv' := [(5, .int (k9)), (0, .ref (b)), (1, .ref (ad 0)), (2, .ref (ad 198)), (3, .ref (ad 208)), (4, .int (nI i))]) C.1 C.2.1 dL_law_459 hl (by decide) rfl (fun ls hl => ?_)
    refine lv_aload_n C.1 C.2.1 dL_law_461 rfl (lv_at hl 3 rfl) ?_
    refine lv_aload_n C.1 C.2.1 dL_law_462 rfl (lv_at hl 1 rfl) ?_
    refine lv_iload C.1 C.2.1 dL_law_463 (lv_at hl 5 rfl) ?_
    refine k_icn C 1 dL_law_465 (by decide) ?_
    refine k_add C dL_law_466 ?_
    refine k_sld C hw hX hbl hbA (i + 1) (by omega) hL dL_law_467 ?_
    refine lv_aload_n C.1 C.2.1 dL_law_468 rfl (lv_at hl 1 rfl) ?_
    refine lv_iload C.1 C.2.1 dL_law_469 (lv_at hl 5 rfl) ?_
    refine k_icn C 2 dL_law_471 (by decide) ?_
    refine k_add C dL_law_472 ?_
    refine k_sld C hw hX hbl hbA (i + 2) (by omega) hL dL_law_473 ?_
    refine lv_aload_n C.1 C.2.1 dL_law_474 rfl (lv_at hl 1 rfl) ?_
    refine lv_iload C.1 C.2.1 dL_law_475 (lv_at hl 5 rfl) ?_
    refine k_icn C 3 dL_law_477 (by decide) ?_
    refine k_add C dL_law_478 ?_
    refine k_sld C hw hX hbl hbA (i + 3) (by omega) hL dL_law_479 ?_
    refine lv_if_eq (tgt := 487) C.1 C.2.1 dL_law_480 (by decide) (fun hc480 => ?_) (fun hc480 => ?_)
    · exact absurd hc480 hc447
    · refine k_icn C 1 dL_law_483 (by decide) ?_
      refine lv_goto (tgt := 488) C.1 C.2.1 dL_law_484 (by decide) ?_
      refine k_ti (x' := bI true) rfl ?_
      refine k_Vi C F hw (i := 198) (As := [.int (xs (i + 1)), .int (xs (i + 2)), .int (bI (true))]) (rest := []) (c_X8_row (by decide) pwG pwG_lt hT9 _ _ _ _ _ _ _ _ _ _ _ hM1 (xs (i + 1)) (xs (i + 2)) true) (by omega) hq8 rfl (cwV _ C.2.2.2.2 gm_L_100 rfl rfl rfl cd_X8_row ⟨by decide, by decide⟩) hl.1 rfl (Nat.le_of_ble_eq_true rfl) dL_law_488 ⟨by omega, by omega⟩ (fun r5 g6 H locs hp hw => ?_)
      have hj := j_row ht hD hM hJ hO (xs (i + 1)) (xs (i + 2)) true hp1 hp
      obtain ⟨⟨ob2, hO2, hv2⟩, hJ2⟩ := hj
      obtain ⟨fs9, hq9⟩ := hJ2.ob
      refine lv_istore (lv' := [(6, .int (r5)), (5, .int (k9)), (0, .ref (b)), (1, .ref (ad 0)), (2, .ref (ad 198)), (3, .ref (ad 208)), (4, .int (nI i))]) C.1 C.2.1 dL_law_491 hl (by decide) rfl (fun ls hl => ?_)
      refine lv_aload_n C.1 C.2.1 dL_law_493 rfl (lv_at hl 4 rfl) ?_
      refine k_Vi C F hw (i := 198) (As := []) (rest := []) (c_thrown hJ2) (by omega) hq9 rfl (cwV _ C.2.2.2.2 gm_L_78 rfl rfl rfl cd_X8_thrown ⟨by decide, by decide⟩) hl.1 rfl (Nat.le_of_ble_eq_true rfl) dL_law_494 ⟨by omega, by omega⟩ (fun r7 g8 H locs hp hw => ?_)
      obtain ⟨hr9, hg9⟩ := hp
      rw [hg9] at hw
      subst hr9
      refine lv_iload C.1 C.2.1 dL_law_497 (lv_at hl 1 rfl) ?_
      refine lv_icmp_eq (tgt := 504) C.1 C.2.1 dL_law_499 (by decide) (fun hc499 => ?_) (fun hc499 => ?_)
      · refine lv_iload C.1 C.2.1 dL_law_504 (lv_at hl 1 rfl) ?_
        refine lv_if_ne (tgt := 521) C.1 C.2.1 dL_law_506 (by decide) (fun hc506 => ?_) (fun hc506 => ?_)
        · refine lv_goto (tgt := 1046) C.1 C.2.1 dL_law_521 (by decide) ?_
          exact kk _ H locs ls _ (lv_sub hl [2, 3, 4, 5, 6] rfl) hw hJ2 ⟨ob2, hO2⟩
        · refine lv_aload_n C.1 C.2.1 dL_law_509 rfl (lv_at hl 5 rfl) ?_
          refine k_icn C 0 dL_law_510 (by decide) ?_
          refine k_lald C F hw 208 (by decide) hO2 0 (by decide) (by decide) dL_law_511 ?_
          refine lv_iload C.1 C.2.1 dL_law_512 (lv_at hl 0 rfl) ?_
          refine lv_i2l C.1 C.2.1 dL_law_514 rfl ?_
          refine k_lcmpE C (hv2 hc506) dL_law_515 ?_
          refine k_zeq (tgt := 521) C dL_law_516 (by decide) (by omega) (fun _ => ?_) (fun h => absurd h (by decide))
          refine lv_goto (tgt := 1046) C.1 C.2.1 dL_law_521 (by decide) ?_
          exact kk _ H locs ls _ (lv_sub hl [2, 3, 4, 5, 6] rfl) hw hJ2 ⟨ob2, hO2⟩
      · exact absurd rfl hc499

set_option maxHeartbeats 1600000 in
set_option maxRecDepth 100000 in
theorem l_open {p : Program} {l : Launch} {e : Env} {s : State} {m : MethodId} {args : Array Value} {below : List Frame} {meth : Method} {c : Code} {H : Heap} {locs : List Loc} {cells slots : Nat} {Q : State → Prop} {ls : Array Slot} {D : va_G} {ca : Nat → ClassId} {tB tS : Nat} {A : Nat → Prop} {ad : Nat → Nat} {g : Nat → va_E} {ex : Nat → Nat} {cd : Int32} {b L i : Nat} {xs : Nat → Int32} {ob : Nat → Int64} (hlt : l.stackTraces = false) (ht : TabOk pwG ex) (C : CallFix p m c cL_law 7 s args GW RL) (F : Fx D ca tB tS A s) (hX : va_X b L xs s s.heap) (hbl : b < s.heap.size) (hbA : ¬ A b) (hw : Wd D A s 209 ad g H locs) (hl : lv_has ls 7 [(0, .ref (b)), (1, .ref (ad 0)), (2, .ref (ad 198)), (3, .ref (ad 208)), (4, .int (nI i))]) (hi : i + 6 ≤ L) (hL : L ≤ 3072) (hJS : JS ca ad g ex cd) (hO : g 208 = la ca 1 ob) (hcl : cells + 1 ≤ room_1.cells) (hsl : slots + 6 ≤ room_1.slots) (kk : ∀ (g1 : Nat → va_E) (H1 : Heap) (locs1 : List Loc) (ls1 : Array Slot) (cd1 : Int32), lv_has ls1 7 [(0, .ref (b)), (1, .ref (ad 0)), (2, .ref (ad 198)), (3, .ref (ad 208)), (4, .int (nI i))] → Wd D A s 209 ad g1 H1 locs1 → JS ca ad g1 ex cd1 → (∃ ob, g1 208 = la ca 1 ob) → W p l e room_1 s m args below meth c H1 locs1 (cells + 1) (slots + 6) Q (F0 m 1046 ls1 [])) : W p l e room_1 s m args below meth c H locs cells slots Q (F0 m 524 ls []) := by
  obtain ⟨len, h, bk, bt, BM, ck, ct, cn, rk, M, ld, th, IN, CG, cm, hD, hM, hJ⟩ := hJS
  have hbd := hD.bd
  refine lv_aload_n C.1 C.2.1 dL_law_524 rfl (lv_at hl 1 rfl) ?_
  refine lv_aload_n C.1 C.2.1 dL_law_525 rfl (lv_at hl 0 rfl) ?_
  refine lv_iload C.1 C.2.1 dL_law_526 (lv_at hl 4 rfl) ?_
  refine k_icn C 1 dL_law_528 (by decide) ?_
  refine k_add C dL_law_529 ?_
  refine k_sld C hw hX hbl hbA (i + 1) (by omega) hL dL_law_530 ?_
  refine lv_aload_n C.1 C.2.1 dL_law_531 rfl (lv_at hl 0 rfl) ?_
  refine lv_iload C.1 C.2.1 dL_law_532 (lv_at hl 4 rfl) ?_
  refine k_icn C 2 dL_law_534 (by decide) ?_
  refine k_add C dL_law_535 ?_
  refine k_sld C hw hX hbl hbA (i + 2) (by omega) hL dL_law_536 ?_
  refine k_SW C F hw (As := [.ref (ad 0), .int (xs (i + 1)), .int (xs (i + 2))]) (rest := []) (c_L_open (by decide) hO hD.1 (xs (i + 1)) (xs (i + 2)) (fun sz => c_X7_open hlt pwG ex ht.2.2 ht.pw (by decide) (fbG pwG) (hfb9 ht) _ _ _ _ _ _ _ _ _ _ _ hD (xs (i + 1)) (xs (i + 2))) (fun E g1 h => h.1)) (vx_cwSW _ C.2.2.2.2 (good_SW (gw_in 532 (by rfl) rfl) st_L_open wi_L cw_L_open) rfl rfl rfl cd_L_open.2 ⟨Nat.le_of_ble_eq_true rfl, Nat.le_of_ble_eq_true rfl⟩) hl.1 rfl (Nat.le_of_ble_eq_true rfl) dL_law_537 ⟨hcl, hsl⟩ (fun k9 gw H locs hp1 hw => ?_)
  obtain ⟨hf1, ob1, hO1⟩ := wV_fr hp1 hO (fun g2 h => h.1) (fun E g2 h => h.2.2.1)
  have hM1 := hM.keep (g1 := gw) (fun z h1 h2 => hf1 z (by omega) (by omega))
  obtain ⟨fs8, hq8⟩ := hM1.ob
  refine lv_istore (lv' := [(5, .int (k9)), (0, .ref (b)), (1, .ref (ad 0)), (2, .ref (ad 198)), (3, .ref (ad 208)), (4, .int (nI i))]) C.1 C.2.1 dL_law_540 hl (by decide) rfl (fun ls hl => ?_)
  refine lv_aload_n C.1 C.2.1 dL_law_542 rfl (lv_at hl 3 rfl) ?_
  refine lv_aload_n C.1 C.2.1 dL_law_543 rfl (lv_at hl 1 rfl) ?_
  refine lv_iload C.1 C.2.1 dL_law_544 (lv_at hl 5 rfl) ?_
  refine k_icn C 1 dL_law_546 (by decide) ?_
  refine k_add C dL_law_547 ?_
  refine k_sld C hw hX hbl hbA (i + 1) (by omega) hL dL_law_548 ?_
  refine lv_aload_n C.1 C.2.1 dL_law_549 rfl (lv_at hl 1 rfl) ?_
  refine lv_iload C.1 C.2.1 dL_law_550 (lv_at hl 5 rfl) ?_
  refine k_icn C 2 dL_law_552 (by decide) ?_
  refine k_add C dL_law_553 ?_
  refine k_sld C hw hX hbl hbA (i + 2) (by omega) hL dL_law_554 ?_
  refine k_Vv C F hw (i := 198) (As := [.int (xs (i + 1)), .int (xs (i + 2))]) (rest := []) (c_X8_open (by decide) pwG pwG_lt hT9 _ _ _ _ _ _ _ _ _ _ _ hM1 (xs (i + 1)) (xs (i + 2))) (by omega) hq8 rfl (cwV _ C.2.2.2.2 gm_L_103 rfl rfl rfl cd_X8_open ⟨by decide, by decide⟩) hl.1 rfl (Nat.le_of_ble_eq_true rfl) dL_law_555 ⟨by omega, by omega⟩ (fun g2 H locs hp hw => ?_)
  have hj := j_open (r := 0) ht hD hM hJ hO (xs (i + 1)) (xs (i + 2)) hp1 hp
  obtain ⟨⟨ob2, hO2⟩, hJ2⟩ := hj
  obtain ⟨fs9, hq9⟩ := hJ2.ob
  refine lv_aload_n C.1 C.2.1 dL_law_558 rfl (lv_at hl 3 rfl) ?_
  refine k_Vi C F hw (i := 198) (As := []) (rest := []) (c_thrown hJ2) (by omega) hq9 rfl (cwV _ C.2.2.2.2 gm_L_78 rfl rfl rfl cd_X8_thrown ⟨by decide, by decide⟩) hl.1 rfl (Nat.le_of_ble_eq_true rfl) dL_law_559 ⟨by omega, by omega⟩ (fun r3 g4 H locs hp hw => ?_)
  obtain ⟨hr9, hg9⟩ := hp
  rw [hg9] at hw
  subst hr9
  refine lv_iload C.1 C.2.1 dL_law_562 (lv_at hl 0 rfl) ?_
  refine lv_icmp_eq (tgt := 569) C.1 C.2.1 dL_law_564 (by decide) (fun hc564 => ?_) (fun hc564 => ?_)
  · refine lv_goto (tgt := 1046) C.1 C.2.1 dL_law_569 (by decide) ?_
    exact kk _ H locs ls _ (lv_sub hl [1, 2, 3, 4, 5] rfl) hw hJ2 ⟨ob2, hO2⟩
  · exact absurd rfl hc564

set_option maxHeartbeats 1600000 in
set_option maxRecDepth 100000 in
theorem l_take {p : Program} {l : Launch} {e : Env} {s : State} {m : MethodId} {args : Array Value} {below : List Frame} {meth : Method} {c : Code} {H : Heap} {locs : List Loc} {cells slots : Nat} {Q : State → Prop} {ls : Array Slot} {D : va_G} {ca : Nat → ClassId} {tB tS : Nat} {A : Nat → Prop} {ad : Nat → Nat} {g : Nat → va_E} {ex : Nat → Nat} {cd : Int32} {b L i : Nat} {xs : Nat → Int32} {ob : Nat → Int64} (hlt : l.stackTraces = false) (ht : TabOk pwG ex) (C : CallFix p m c cL_law 7 s args GW RL) (F : Fx D ca tB tS A s) (hX : va_X b L xs s s.heap) (hbl : b < s.heap.size) (hbA : ¬ A b) (hw : Wd D A s 209 ad g H locs) (hl : lv_has ls 7 [(0, .ref (b)), (1, .ref (ad 0)), (2, .ref (ad 198)), (3, .ref (ad 208)), (4, .int (nI i))]) (hi : i + 6 ≤ L) (hL : L ≤ 3072) (hJS : JS ca ad g ex cd) (hO : g 208 = la ca 1 ob) (hcl : cells + 1 ≤ room_1.cells) (hsl : slots + 6 ≤ room_1.slots) (kk : ∀ (g1 : Nat → va_E) (H1 : Heap) (locs1 : List Loc) (ls1 : Array Slot) (cd1 : Int32), lv_has ls1 7 [(0, .ref (b)), (1, .ref (ad 0)), (2, .ref (ad 198)), (3, .ref (ad 208)), (4, .int (nI i))] → Wd D A s 209 ad g1 H1 locs1 → JS ca ad g1 ex cd1 → (∃ ob, g1 208 = la ca 1 ob) → W p l e room_1 s m args below meth c H1 locs1 (cells + 1) (slots + 6) Q (F0 m 1046 ls1 [])) : W p l e room_1 s m args below meth c H locs cells slots Q (F0 m 572 ls []) := by
  obtain ⟨len, h, bk, bt, BM, ck, ct, cn, rk, M, ld, th, IN, CG, cm, hD, hM, hJ⟩ := hJS
  have hbd := hD.bd
  refine lv_aload_n C.1 C.2.1 dL_law_572 rfl (lv_at hl 1 rfl) ?_
  refine lv_aload_n C.1 C.2.1 dL_law_573 rfl (lv_at hl 0 rfl) ?_
  refine lv_iload C.1 C.2.1 dL_law_574 (lv_at hl 4 rfl) ?_
  refine k_icn C 1 dL_law_576 (by decide) ?_
  refine k_add C dL_law_577 ?_
  refine k_sld C hw hX hbl hbA (i + 1) (by omega) hL dL_law_578 ?_
  refine lv_aload_n C.1 C.2.1 dL_law_579 rfl (lv_at hl 3 rfl) ?_
  refine k_SW C F hw (As := [.ref (ad 0), .int (xs (i + 1)), .ref (ad 208)]) (rest := []) (c_L_take (by decide) hO hD.1 (xs (i + 1)) (fun sz => c_X7_take hlt pwG ex ht.2.2 ht.pw (by decide) (fbG pwG) (hfb9 ht) _ _ _ _ _ _ _ _ _ _ _ hD (xs (i + 1))) (fun E g1 h => (fun h => h.elim (fun h => Or.inl (h.1)) (fun h => h.elim (fun h => Or.inr (Or.inl (h.1))) (fun h => Or.inr (Or.inr (h.1))))) h.1) (fun r g1 h => h.1 208 (by decide))) (vx_cwSW _ C.2.2.2.2 (good_SW (gw_in 544 (by rfl) rfl) st_L_take wi_L cw_L_take) rfl rfl rfl cd_L_take.2 ⟨Nat.le_of_ble_eq_true rfl, Nat.le_of_ble_eq_true rfl⟩) hl.1 rfl (Nat.le_of_ble_eq_true rfl) dL_law_580 ⟨hcl, hsl⟩ (fun k9 gw H locs hp1 hw => ?_)
  obtain ⟨hf1, ob1, hO1⟩ := wI_fr hp1 hO (fun v g2 h => h.1) (fun E g2 h => h.2.1)
  have hM1 := hM.keep (g1 := gw) (fun z h1 h2 => hf1 z (by omega) (by omega))
  obtain ⟨fs8, hq8⟩ := hM1.ob
  refine lv_istore (lv' := [(5, .int (k9)), (0, .ref (b)), (1, .ref (ad 0)), (2, .ref (ad 198)), (3, .ref (ad 208)), (4, .int (nI i))]) C.1 C.2.1 dL_law_583 hl (by decide) rfl (fun ls hl => ?_)
  refine lv_aload_n C.1 C.2.1 dL_law_585 rfl (lv_at hl 3 rfl) ?_
  refine lv_aload_n C.1 C.2.1 dL_law_586 rfl (lv_at hl 1 rfl) ?_
  refine lv_iload C.1 C.2.1 dL_law_587 (lv_at hl 5 rfl) ?_
  refine k_icn C 1 dL_law_589 (by decide) ?_
  refine k_add C dL_law_590 ?_
  refine k_sld C hw hX hbl hbA (i + 1) (by omega) hL dL_law_591 ?_
  refine k_Vi C F hw (i := 198) (As := [.int (xs (i + 1))]) (rest := []) (c_X8_take (by decide) pwG pwG_lt hT9 _ _ _ _ _ _ _ _ _ _ _ hM1 (xs (i + 1))) (by omega) hq8 rfl (cwV _ C.2.2.2.2 gm_L_106 rfl rfl rfl cd_X8_take ⟨by decide, by decide⟩) hl.1 rfl (Nat.le_of_ble_eq_true rfl) dL_law_592 ⟨by omega, by omega⟩ (fun r1 g2 H locs hp hw => ?_)
  have hj := j_take ht hD hM hJ hO (xs (i + 1)) hp1 hp
  obtain ⟨⟨ob2, hO2, hv2⟩, hJ2⟩ := hj
  obtain ⟨fs9, hq9⟩ := hJ2.ob
  refine lv_istore (lv' := [(6, .int (r1)), (5, .int (k9)), (0, .ref (b)), (1, .ref (ad 0)), (2, .ref (ad 198)), (3, .ref (ad 208)), (4, .int (nI i))]) C.1 C.2.1 dL_law_595 hl (by decide) rfl (fun ls hl => ?_)
  refine lv_aload_n C.1 C.2.1 dL_law_597 rfl (lv_at hl 4 rfl) ?_
  refine k_Vi C F hw (i := 198) (As := []) (rest := []) (c_thrown hJ2) (by omega) hq9 rfl (cwV _ C.2.2.2.2 gm_L_78 rfl rfl rfl cd_X8_thrown ⟨by decide, by decide⟩) hl.1 rfl (Nat.le_of_ble_eq_true rfl) dL_law_598 ⟨by omega, by omega⟩ (fun r3 g4 H locs hp hw => ?_)
  obtain ⟨hr9, hg9⟩ := hp
  rw [hg9] at hw
  subst hr9
  refine lv_iload C.1 C.2.1 dL_law_601 (lv_at hl 1 rfl) ?_
  refine lv_icmp_eq (tgt := 608) C.1 C.2.1 dL_law_603 (by decide) (fun hc603 => ?_) (fun hc603 => ?_)
  · refine lv_iload C.1 C.2.1 dL_law_608 (lv_at hl 1 rfl) ?_
    refine lv_if_ne (tgt := 632) C.1 C.2.1 dL_law_610 (by decide) (fun hc610 => ?_) (fun hc610 => ?_)
    · refine lv_goto (tgt := 1046) C.1 C.2.1 dL_law_632 (by decide) ?_
      exact kk _ H locs ls _ (lv_sub hl [2, 3, 4, 5, 6] rfl) hw hJ2 ⟨ob2, hO2⟩
    · refine lv_aload_n C.1 C.2.1 dL_law_613 rfl (lv_at hl 5 rfl) ?_
      refine k_icn C 0 dL_law_614 (by decide) ?_
      refine k_lald C F hw 208 (by decide) hO2 0 (by decide) (by decide) dL_law_615 ?_
      refine lv_iload C.1 C.2.1 dL_law_616 (lv_at hl 0 rfl) ?_
      refine lv_if_eq (tgt := 625) C.1 C.2.1 dL_law_618 (by decide) (fun hc618 => ?_) (fun hc618 => ?_)
      · refine lv_lconst (v := 0) C.1 C.2.1 dL_law_625 (by decide) ?_
        refine k_lcmpE C (by rw [hv2 hc610]; exact if_pos hc618) dL_law_626 ?_
        refine k_zeq (tgt := 632) C dL_law_627 (by decide) (by omega) (fun _ => ?_) (fun h => absurd h (by decide))
        refine lv_goto (tgt := 1046) C.1 C.2.1 dL_law_632 (by decide) ?_
        exact kk _ H locs ls _ (lv_sub hl [2, 3, 4, 5, 6] rfl) hw hJ2 ⟨ob2, hO2⟩
      · refine lv_lconst (v := 1) C.1 C.2.1 dL_law_621 (by decide) ?_
        refine lv_goto (tgt := 626) C.1 C.2.1 dL_law_622 (by decide) ?_
        refine k_lcmpE C (by rw [hv2 hc610]; exact if_neg hc618) dL_law_626 ?_
        refine k_zeq (tgt := 632) C dL_law_627 (by decide) (by omega) (fun _ => ?_) (fun h => absurd h (by decide))
        refine lv_goto (tgt := 1046) C.1 C.2.1 dL_law_632 (by decide) ?_
        exact kk _ H locs ls _ (lv_sub hl [2, 3, 4, 5, 6] rfl) hw hJ2 ⟨ob2, hO2⟩
  · exact absurd rfl hc603

set_option maxHeartbeats 1600000 in
set_option maxRecDepth 100000 in
theorem l_takeAll {p : Program} {l : Launch} {e : Env} {s : State} {m : MethodId} {args : Array Value} {below : List Frame} {meth : Method} {c : Code} {H : Heap} {locs : List Loc} {cells slots : Nat} {Q : State → Prop} {ls : Array Slot} {D : va_G} {ca : Nat → ClassId} {tB tS : Nat} {A : Nat → Prop} {ad : Nat → Nat} {g : Nat → va_E} {ex : Nat → Nat} {cd : Int32} {b L i : Nat} {xs : Nat → Int32} {ob : Nat → Int64} (hlt : l.stackTraces = false) (ht : TabOk pwG ex) (C : CallFix p m c cL_law 7 s args GW RL) (F : Fx D ca tB tS A s) (hX : va_X b L xs s s.heap) (hbl : b < s.heap.size) (hbA : ¬ A b) (hw : Wd D A s 209 ad g H locs) (hl : lv_has ls 7 [(0, .ref (b)), (1, .ref (ad 0)), (2, .ref (ad 198)), (3, .ref (ad 208)), (4, .int (nI i))]) (hi : i + 6 ≤ L) (hL : L ≤ 3072) (hJS : JS ca ad g ex cd) (hO : g 208 = la ca 1 ob) (hcl : cells + 1 ≤ room_1.cells) (hsl : slots + 6 ≤ room_1.slots) (kk : ∀ (g1 : Nat → va_E) (H1 : Heap) (locs1 : List Loc) (ls1 : Array Slot) (cd1 : Int32), lv_has ls1 7 [(0, .ref (b)), (1, .ref (ad 0)), (2, .ref (ad 198)), (3, .ref (ad 208)), (4, .int (nI i))] → Wd D A s 209 ad g1 H1 locs1 → JS ca ad g1 ex cd1 → (∃ ob, g1 208 = la ca 1 ob) → W p l e room_1 s m args below meth c H1 locs1 (cells + 1) (slots + 6) Q (F0 m 1046 ls1 [])) : W p l e room_1 s m args below meth c H locs cells slots Q (F0 m 635 ls []) := by
  obtain ⟨len, h, bk, bt, BM, ck, ct, cn, rk, M, ld, th, IN, CG, cm, hD, hM, hJ⟩ := hJS
  have hbd := hD.bd
  obtain ⟨a2, ha2, hx2⟩ := wb_of32 (xs (i + 2))
  refine lv_aload_n C.1 C.2.1 dL_law_635 rfl (lv_at hl 1 rfl) ?_
  refine lv_aload_n C.1 C.2.1 dL_law_636 rfl (lv_at hl 0 rfl) ?_
  refine lv_iload C.1 C.2.1 dL_law_637 (lv_at hl 4 rfl) ?_
  refine k_icn C 1 dL_law_639 (by decide) ?_
  refine k_add C dL_law_640 ?_
  refine k_sld C hw hX hbl hbA (i + 1) (by omega) hL dL_law_641 ?_
  refine lv_aload_n C.1 C.2.1 dL_law_642 rfl (lv_at hl 0 rfl) ?_
  refine lv_iload C.1 C.2.1 dL_law_643 (lv_at hl 4 rfl) ?_
  refine k_icn C 2 dL_law_645 (by decide) ?_
  refine k_add C dL_law_646 ?_
  refine k_sld C hw hX hbl hbA (i + 2) (by omega) hL dL_law_647 ?_
  refine k_ti (x' := nI a2) hx2 ?_
  refine lv_aload_n C.1 C.2.1 dL_law_648 rfl (lv_at hl 0 rfl) ?_
  refine lv_iload C.1 C.2.1 dL_law_649 (lv_at hl 4 rfl) ?_
  refine k_icn C 3 dL_law_651 (by decide) ?_
  refine k_add C dL_law_652 ?_
  refine k_sld C hw hX hbl hbA (i + 3) (by omega) hL dL_law_653 ?_
  refine lv_aload_n C.1 C.2.1 dL_law_654 rfl (lv_at hl 3 rfl) ?_
  refine k_SW C F hw (As := [.ref (ad 0), .int (xs (i + 1)), .int (nI a2), .int (xs (i + 3)), .ref (ad 208)]) (rest := []) (c_L_takeAll (by decide) hO hD.1 (xs (i + 1)) (nI a2) (xs (i + 3)) (fun sz => c_X7_takeAll hlt pwG ex ht.2.2 ht.pw (by decide) (fbG pwG) (hfb9 ht) _ _ _ _ _ _ _ _ _ _ _ hD (xs (i + 1)) (xs (i + 3)) a2 ha2) (fun E g1 h => (fun h => h.elim (fun h => Or.inl (h.1)) (fun h => h.elim (fun h => Or.inr (Or.inl (h.1))) (fun h => Or.inr (Or.inr (h.1))))) h.1) (fun r g1 h => h.1 208 (by decide))) (vx_cwSW _ C.2.2.2.2 (good_SW (gw_in 564 (by rfl) rfl) st_L_takeAll wi_L cw_L_takeAll) rfl rfl rfl cd_L_takeAll.2 ⟨Nat.le_of_ble_eq_true rfl, Nat.le_of_ble_eq_true rfl⟩) hl.1 rfl (Nat.le_of_ble_eq_true rfl) dL_law_655 ⟨hcl, hsl⟩ (fun k9 gw H locs hp1 hw => ?_)
  obtain ⟨hf1, ob1, hO1⟩ := wI_fr hp1 hO (fun v g2 h => h.1) (fun E g2 h => h.2.1)
  have hM1 := hM.keep (g1 := gw) (fun z h1 h2 => hf1 z (by omega) (by omega))
  obtain ⟨fs8, hq8⟩ := hM1.ob
  refine lv_istore (lv' := [(5, .int (k9)), (0, .ref (b)), (1, .ref (ad 0)), (2, .ref (ad 198)), (3, .ref (ad 208)), (4, .int (nI i))]) C.1 C.2.1 dL_law_658 hl (by decide) rfl (fun ls hl => ?_)
  refine lv_aload_n C.1 C.2.1 dL_law_660 rfl (lv_at hl 3 rfl) ?_
  refine lv_aload_n C.1 C.2.1 dL_law_661 rfl (lv_at hl 1 rfl) ?_
  refine lv_iload C.1 C.2.1 dL_law_662 (lv_at hl 5 rfl) ?_
  refine k_icn C 1 dL_law_664 (by decide) ?_
  refine k_add C dL_law_665 ?_
  refine k_sld C hw hX hbl hbA (i + 1) (by omega) hL dL_law_666 ?_
  refine lv_aload_n C.1 C.2.1 dL_law_667 rfl (lv_at hl 1 rfl) ?_
  refine lv_iload C.1 C.2.1 dL_law_668 (lv_at hl 5 rfl) ?_
  refine k_icn C 2 dL_law_670 (by decide) ?_
  refine k_add C dL_law_671 ?_
  refine k_sld C hw hX hbl hbA (i + 2) (by omega) hL dL_law_672 ?_
  refine k_ti (x' := nI a2) hx2 ?_
  refine lv_aload_n C.1 C.2.1 dL_law_673 rfl (lv_at hl 1 rfl) ?_
  refine lv_iload C.1 C.2.1 dL_law_674 (lv_at hl 5 rfl) ?_
  refine k_icn C 3 dL_law_676 (by decide) ?_
  refine k_add C dL_law_677 ?_
  refine k_sld C hw hX hbl hbA (i + 3) (by omega) hL dL_law_678 ?_
  refine k_Vi C F hw (i := 198) (As := [.int (xs (i + 1)), .int (nI a2), .int (xs (i + 3))]) (rest := []) (c_X8_takeAll (by decide) pwG pwG_lt hT9 _ _ _ _ _ _ _ _ _ _ _ hM1 (xs (i + 1)) (xs (i + 3)) a2 ha2) (by omega) hq8 rfl (cwV _ C.2.2.2.2 gm_L_110 rfl rfl rfl cd_X8_takeAll ⟨by decide, by decide⟩) hl.1 rfl (Nat.le_of_ble_eq_true rfl) dL_law_679 ⟨by omega, by omega⟩ (fun r1 g2 H locs hp hw => ?_)
  have hj := j_takeAll ht hD hM hJ hO (xs (i + 1)) (xs (i + 3)) a2 hp1 hp
  obtain ⟨⟨ob2, hO2, hv2⟩, hJ2⟩ := hj
  obtain ⟨fs9, hq9⟩ := hJ2.ob
  refine lv_istore (lv' := [(6, .int (r1)), (5, .int (k9)), (0, .ref (b)), (1, .ref (ad 0)), (2, .ref (ad 198)), (3, .ref (ad 208)), (4, .int (nI i))]) C.1 C.2.1 dL_law_682 hl (by decide) rfl (fun ls hl => ?_)
  refine lv_aload_n C.1 C.2.1 dL_law_684 rfl (lv_at hl 4 rfl) ?_
  refine k_Vi C F hw (i := 198) (As := []) (rest := []) (c_thrown hJ2) (by omega) hq9 rfl (cwV _ C.2.2.2.2 gm_L_78 rfl rfl rfl cd_X8_thrown ⟨by decide, by decide⟩) hl.1 rfl (Nat.le_of_ble_eq_true rfl) dL_law_685 ⟨by omega, by omega⟩ (fun r3 g4 H locs hp hw => ?_)
  obtain ⟨hr9, hg9⟩ := hp
  rw [hg9] at hw
  subst hr9
  refine lv_iload C.1 C.2.1 dL_law_688 (lv_at hl 1 rfl) ?_
  refine lv_icmp_eq (tgt := 695) C.1 C.2.1 dL_law_690 (by decide) (fun hc690 => ?_) (fun hc690 => ?_)
  · refine lv_iload C.1 C.2.1 dL_law_695 (lv_at hl 1 rfl) ?_
    refine lv_if_ne (tgt := 712) C.1 C.2.1 dL_law_697 (by decide) (fun hc697 => ?_) (fun hc697 => ?_)
    · refine lv_goto (tgt := 1046) C.1 C.2.1 dL_law_712 (by decide) ?_
      exact kk _ H locs ls _ (lv_sub hl [2, 3, 4, 5, 6] rfl) hw hJ2 ⟨ob2, hO2⟩
    · refine lv_aload_n C.1 C.2.1 dL_law_700 rfl (lv_at hl 5 rfl) ?_
      refine k_icn C 0 dL_law_701 (by decide) ?_
      refine k_lald C F hw 208 (by decide) hO2 0 (by decide) (by decide) dL_law_702 ?_
      refine lv_iload C.1 C.2.1 dL_law_703 (lv_at hl 0 rfl) ?_
      refine lv_i2l C.1 C.2.1 dL_law_705 rfl ?_
      refine k_lcmpE C (hv2 hc697) dL_law_706 ?_
      refine k_zeq (tgt := 712) C dL_law_707 (by decide) (by omega) (fun _ => ?_) (fun h => absurd h (by decide))
      refine lv_goto (tgt := 1046) C.1 C.2.1 dL_law_712 (by decide) ?_
      exact kk _ H locs ls _ (lv_sub hl [2, 3, 4, 5, 6] rfl) hw hJ2 ⟨ob2, hO2⟩
  · exact absurd rfl hc690

set_option maxHeartbeats 1600000 in
set_option maxRecDepth 100000 in
theorem l_give {p : Program} {l : Launch} {e : Env} {s : State} {m : MethodId} {args : Array Value} {below : List Frame} {meth : Method} {c : Code} {H : Heap} {locs : List Loc} {cells slots : Nat} {Q : State → Prop} {ls : Array Slot} {D : va_G} {ca : Nat → ClassId} {tB tS : Nat} {A : Nat → Prop} {ad : Nat → Nat} {g : Nat → va_E} {ex : Nat → Nat} {cd : Int32} {b L i : Nat} {xs : Nat → Int32} {ob : Nat → Int64} (hlt : l.stackTraces = false) (ht : TabOk pwG ex) (C : CallFix p m c cL_law 7 s args GW RL) (F : Fx D ca tB tS A s) (hX : va_X b L xs s s.heap) (hbl : b < s.heap.size) (hbA : ¬ A b) (hw : Wd D A s 209 ad g H locs) (hl : lv_has ls 7 [(0, .ref (b)), (1, .ref (ad 0)), (2, .ref (ad 198)), (3, .ref (ad 208)), (4, .int (nI i))]) (hi : i + 6 ≤ L) (hL : L ≤ 3072) (hJS : JS ca ad g ex cd) (hO : g 208 = la ca 1 ob) (hcl : cells + 1 ≤ room_1.cells) (hsl : slots + 6 ≤ room_1.slots) (kk : ∀ (g1 : Nat → va_E) (H1 : Heap) (locs1 : List Loc) (ls1 : Array Slot) (cd1 : Int32), lv_has ls1 7 [(0, .ref (b)), (1, .ref (ad 0)), (2, .ref (ad 198)), (3, .ref (ad 208)), (4, .int (nI i))] → Wd D A s 209 ad g1 H1 locs1 → JS ca ad g1 ex cd1 → (∃ ob, g1 208 = la ca 1 ob) → W p l e room_1 s m args below meth c H1 locs1 (cells + 1) (slots + 6) Q (F0 m 1046 ls1 [])) : W p l e room_1 s m args below meth c H locs cells slots Q (F0 m 715 ls []) := by
  obtain ⟨len, h, bk, bt, BM, ck, ct, cn, rk, M, ld, th, IN, CG, cm, hD, hM, hJ⟩ := hJS
  have hbd := hD.bd
  refine lv_aload_n C.1 C.2.1 dL_law_715 rfl (lv_at hl 1 rfl) ?_
  refine lv_aload_n C.1 C.2.1 dL_law_716 rfl (lv_at hl 0 rfl) ?_
  refine lv_iload C.1 C.2.1 dL_law_717 (lv_at hl 4 rfl) ?_
  refine k_icn C 1 dL_law_719 (by decide) ?_
  refine k_add C dL_law_720 ?_
  refine k_sld C hw hX hbl hbA (i + 1) (by omega) hL dL_law_721 ?_
  refine lv_aload_n C.1 C.2.1 dL_law_722 rfl (lv_at hl 3 rfl) ?_
  refine k_SW C F hw (As := [.ref (ad 0), .int (xs (i + 1)), .ref (ad 208)]) (rest := []) (c_L_give (by decide) hO hD.1 (xs (i + 1)) (fun sz => c_X7_give hlt pwG ex ht.2.2 ht.pw (by decide) (fbG pwG) (hfb9 ht) _ _ _ _ _ _ _ _ _ _ _ hD (xs (i + 1))) (fun E g1 h => (fun h => h.elim (fun h => Or.inl (h.1)) (fun h => h.elim (fun h => Or.inr (Or.inl (h.1))) (fun h => h.elim (fun h => Or.inr (Or.inr (Or.inl (h.1)))) (fun h => Or.inr (Or.inr (Or.inr (h.1))))))) h.1) (fun r g1 h => h.1 208 (by decide))) (vx_cwSW _ C.2.2.2.2 (good_SW (gw_in 574 (by rfl) rfl) st_L_give wi_L cw_L_give) rfl rfl rfl cd_L_give.2 ⟨Nat.le_of_ble_eq_true rfl, Nat.le_of_ble_eq_true rfl⟩) hl.1 rfl (Nat.le_of_ble_eq_true rfl) dL_law_723 ⟨hcl, hsl⟩ (fun k9 gw H locs hp1 hw => ?_)
  obtain ⟨hf1, ob1, hO1⟩ := wI_fr hp1 hO (fun v g2 h => h.1) (fun E g2 h => h.2.1)
  have hM1 := hM.keep (g1 := gw) (fun z h1 h2 => hf1 z (by omega) (by omega))
  obtain ⟨fs8, hq8⟩ := hM1.ob
  refine lv_istore (lv' := [(5, .int (k9)), (0, .ref (b)), (1, .ref (ad 0)), (2, .ref (ad 198)), (3, .ref (ad 208)), (4, .int (nI i))]) C.1 C.2.1 dL_law_726 hl (by decide) rfl (fun ls hl => ?_)
  refine lv_aload_n C.1 C.2.1 dL_law_728 rfl (lv_at hl 3 rfl) ?_
  refine lv_aload_n C.1 C.2.1 dL_law_729 rfl (lv_at hl 1 rfl) ?_
  refine lv_iload C.1 C.2.1 dL_law_730 (lv_at hl 5 rfl) ?_
  refine k_icn C 1 dL_law_732 (by decide) ?_
  refine k_add C dL_law_733 ?_
  refine k_sld C hw hX hbl hbA (i + 1) (by omega) hL dL_law_734 ?_
  refine k_Vi C F hw (i := 198) (As := [.int (xs (i + 1))]) (rest := []) (c_X8_give (by decide) pwG pwG_lt hT9 _ _ _ _ _ _ _ _ _ _ _ hM1 (xs (i + 1))) (by omega) hq8 rfl (cwV _ C.2.2.2.2 gm_L_113 rfl rfl rfl cd_X8_give ⟨by decide, by decide⟩) hl.1 rfl (Nat.le_of_ble_eq_true rfl) dL_law_735 ⟨by omega, by omega⟩ (fun r1 g2 H locs hp hw => ?_)
  have hj := j_give ht hD hM hJ hO (xs (i + 1)) hp1 hp
  obtain ⟨⟨ob2, hO2, hv2⟩, hJ2⟩ := hj
  obtain ⟨fs9, hq9⟩ := hJ2.ob
  refine lv_istore (lv' := [(6, .int (r1)), (5, .int (k9)), (0, .ref (b)), (1, .ref (ad 0)), (2, .ref (ad 198)), (3, .ref (ad 208)), (4, .int (nI i))]) C.1 C.2.1 dL_law_738 hl (by decide) rfl (fun ls hl => ?_)
  refine lv_aload_n C.1 C.2.1 dL_law_740 rfl (lv_at hl 4 rfl) ?_
  refine k_Vi C F hw (i := 198) (As := []) (rest := []) (c_thrown hJ2) (by omega) hq9 rfl (cwV _ C.2.2.2.2 gm_L_78 rfl rfl rfl cd_X8_thrown ⟨by decide, by decide⟩) hl.1 rfl (Nat.le_of_ble_eq_true rfl) dL_law_741 ⟨by omega, by omega⟩ (fun r3 g4 H locs hp hw => ?_)
  obtain ⟨hr9, hg9⟩ := hp
  rw [hg9] at hw
  subst hr9
  refine lv_iload C.1 C.2.1 dL_law_744 (lv_at hl 1 rfl) ?_
  refine lv_icmp_eq (tgt := 751) C.1 C.2.1 dL_law_746 (by decide) (fun hc746 => ?_) (fun hc746 => ?_)
  · refine lv_iload C.1 C.2.1 dL_law_751 (lv_at hl 1 rfl) ?_
    refine lv_if_ne (tgt := 775) C.1 C.2.1 dL_law_753 (by decide) (fun hc753 => ?_) (fun hc753 => ?_)
    · refine lv_goto (tgt := 1046) C.1 C.2.1 dL_law_775 (by decide) ?_
      exact kk _ H locs ls _ (lv_sub hl [2, 3, 4, 5, 6] rfl) hw hJ2 ⟨ob2, hO2⟩
    · refine lv_aload_n C.1 C.2.1 dL_law_756 rfl (lv_at hl 5 rfl) ?_
      refine k_icn C 0 dL_law_757 (by decide) ?_
      refine k_lald C F hw 208 (by decide) hO2 0 (by decide) (by decide) dL_law_758 ?_
      refine lv_iload C.1 C.2.1 dL_law_759 (lv_at hl 0 rfl) ?_
      refine lv_if_eq (tgt := 768) C.1 C.2.1 dL_law_761 (by decide) (fun hc761 => ?_) (fun hc761 => ?_)
      · refine lv_lconst (v := 0) C.1 C.2.1 dL_law_768 (by decide) ?_
        refine k_lcmpE C (by rw [hv2 hc753]; exact if_pos hc761) dL_law_769 ?_
        refine k_zeq (tgt := 775) C dL_law_770 (by decide) (by omega) (fun _ => ?_) (fun h => absurd h (by decide))
        refine lv_goto (tgt := 1046) C.1 C.2.1 dL_law_775 (by decide) ?_
        exact kk _ H locs ls _ (lv_sub hl [2, 3, 4, 5, 6] rfl) hw hJ2 ⟨ob2, hO2⟩
      · refine lv_lconst (v := 1) C.1 C.2.1 dL_law_764 (by decide) ?_
        refine lv_goto (tgt := 769) C.1 C.2.1 dL_law_765 (by decide) ?_
        refine k_lcmpE C (by rw [hv2 hc753]; exact if_neg hc761) dL_law_769 ?_
        refine k_zeq (tgt := 775) C dL_law_770 (by decide) (by omega) (fun _ => ?_) (fun h => absurd h (by decide))
        refine lv_goto (tgt := 1046) C.1 C.2.1 dL_law_775 (by decide) ?_
        exact kk _ H locs ls _ (lv_sub hl [2, 3, 4, 5, 6] rfl) hw hJ2 ⟨ob2, hO2⟩
  · exact absurd rfl hc746

set_option maxHeartbeats 1600000 in
set_option maxRecDepth 100000 in
theorem l_rank {p : Program} {l : Launch} {e : Env} {s : State} {m : MethodId} {args : Array Value} {below : List Frame} {meth : Method} {c : Code} {H : Heap} {locs : List Loc} {cells slots : Nat} {Q : State → Prop} {ls : Array Slot} {D : va_G} {ca : Nat → ClassId} {tB tS : Nat} {A : Nat → Prop} {ad : Nat → Nat} {g : Nat → va_E} {ex : Nat → Nat} {cd : Int32} {b L i : Nat} {xs : Nat → Int32} {ob : Nat → Int64} (hlt : l.stackTraces = false) (ht : TabOk pwG ex) (C : CallFix p m c cL_law 7 s args GW RL) (F : Fx D ca tB tS A s) (hX : va_X b L xs s s.heap) (hbl : b < s.heap.size) (hbA : ¬ A b) (hw : Wd D A s 209 ad g H locs) (hl : lv_has ls 7 [(0, .ref (b)), (1, .ref (ad 0)), (2, .ref (ad 198)), (3, .ref (ad 208)), (4, .int (nI i))]) (hi : i + 6 ≤ L) (hL : L ≤ 3072) (hJS : JS ca ad g ex cd) (hO : g 208 = la ca 1 ob) (hcl : cells + 1 ≤ room_1.cells) (hsl : slots + 6 ≤ room_1.slots) (kk : ∀ (g1 : Nat → va_E) (H1 : Heap) (locs1 : List Loc) (ls1 : Array Slot) (cd1 : Int32), lv_has ls1 7 [(0, .ref (b)), (1, .ref (ad 0)), (2, .ref (ad 198)), (3, .ref (ad 208)), (4, .int (nI i))] → Wd D A s 209 ad g1 H1 locs1 → JS ca ad g1 ex cd1 → (∃ ob, g1 208 = la ca 1 ob) → W p l e room_1 s m args below meth c H1 locs1 (cells + 1) (slots + 6) Q (F0 m 1046 ls1 [])) : W p l e room_1 s m args below meth c H locs cells slots Q (F0 m 778 ls []) := by
  obtain ⟨len, h, bk, bt, BM, ck, ct, cn, rk, M, ld, th, IN, CG, cm, hD, hM, hJ⟩ := hJS
  have hbd := hD.bd
  refine lv_aload_n C.1 C.2.1 dL_law_778 rfl (lv_at hl 1 rfl) ?_
  refine lv_aload_n C.1 C.2.1 dL_law_779 rfl (lv_at hl 3 rfl) ?_
  refine k_SW C F hw (As := [.ref (ad 0), .ref (ad 208)]) (rest := []) (c_L_rank (by decide) hO hD.1 (fun sz => c_X7_rank hlt pwG ex ht.2.2 ht.pw (by decide) (fbG pwG) (hfb9 ht) _ _ _ _ _ _ _ _ _ _ _ hD ) (fun E g1 h => h.1) (fun r g1 h => h.1 208 (by decide))) (vx_cwSW _ C.2.2.2.2 (good_SW (gw_in 585 (by rfl) rfl) st_L_rank wi_L cw_L_rank) rfl rfl rfl cd_L_rank.2 ⟨Nat.le_of_ble_eq_true rfl, Nat.le_of_ble_eq_true rfl⟩) hl.1 rfl (Nat.le_of_ble_eq_true rfl) dL_law_780 ⟨hcl, hsl⟩ (fun k9 gw H locs hp1 hw => ?_)
  obtain ⟨hf1, ob1, hO1⟩ := wI_fr hp1 hO (fun v g2 h => h.1) (fun E g2 h => h.2.2.1)
  have hM1 := hM.keep (g1 := gw) (fun z h1 h2 => hf1 z (by omega) (by omega))
  obtain ⟨fs8, hq8⟩ := hM1.ob
  refine lv_istore (lv' := [(5, .int (k9)), (0, .ref (b)), (1, .ref (ad 0)), (2, .ref (ad 198)), (3, .ref (ad 208)), (4, .int (nI i))]) C.1 C.2.1 dL_law_783 hl (by decide) rfl (fun ls hl => ?_)
  refine lv_aload_n C.1 C.2.1 dL_law_785 rfl (lv_at hl 3 rfl) ?_
  refine k_Vi C F hw (i := 198) (As := []) (rest := []) (c_X8_rank (by decide) pwG pwG_lt hT9 _ _ _ _ _ _ _ _ _ _ _ hM1 ) (by omega) hq8 rfl (cwV _ C.2.2.2.2 gm_L_117 rfl rfl rfl cd_X8_rank ⟨by decide, by decide⟩) hl.1 rfl (Nat.le_of_ble_eq_true rfl) dL_law_786 ⟨by omega, by omega⟩ (fun r1 g2 H locs hp hw => ?_)
  have hj := j_rank ht hD hM hJ hO hp1 hp
  obtain ⟨⟨ob2, hO2, hv2⟩, hJ2⟩ := hj
  obtain ⟨fs9, hq9⟩ := hJ2.ob
  refine lv_istore (lv' := [(6, .int (r1)), (5, .int (k9)), (0, .ref (b)), (1, .ref (ad 0)), (2, .ref (ad 198)), (3, .ref (ad 208)), (4, .int (nI i))]) C.1 C.2.1 dL_law_789 hl (by decide) rfl (fun ls hl => ?_)
  refine lv_aload_n C.1 C.2.1 dL_law_791 rfl (lv_at hl 4 rfl) ?_
  refine k_Vi C F hw (i := 198) (As := []) (rest := []) (c_thrown hJ2) (by omega) hq9 rfl (cwV _ C.2.2.2.2 gm_L_78 rfl rfl rfl cd_X8_thrown ⟨by decide, by decide⟩) hl.1 rfl (Nat.le_of_ble_eq_true rfl) dL_law_792 ⟨by omega, by omega⟩ (fun r3 g4 H locs hp hw => ?_)
  obtain ⟨hr9, hg9⟩ := hp
  rw [hg9] at hw
  subst hr9
  refine lv_iload C.1 C.2.1 dL_law_795 (lv_at hl 1 rfl) ?_
  refine lv_icmp_eq (tgt := 802) C.1 C.2.1 dL_law_797 (by decide) (fun hc797 => ?_) (fun hc797 => ?_)
  · refine lv_iload C.1 C.2.1 dL_law_802 (lv_at hl 1 rfl) ?_
    refine lv_if_ne (tgt := 819) C.1 C.2.1 dL_law_804 (by decide) (fun hc804 => ?_) (fun hc804 => ?_)
    · refine lv_goto (tgt := 1046) C.1 C.2.1 dL_law_819 (by decide) ?_
      exact kk _ H locs ls _ (lv_sub hl [2, 3, 4, 5, 6] rfl) hw hJ2 ⟨ob2, hO2⟩
    · refine lv_aload_n C.1 C.2.1 dL_law_807 rfl (lv_at hl 5 rfl) ?_
      refine k_icn C 0 dL_law_808 (by decide) ?_
      refine k_lald C F hw 208 (by decide) hO2 0 (by decide) (by decide) dL_law_809 ?_
      refine lv_iload C.1 C.2.1 dL_law_810 (lv_at hl 0 rfl) ?_
      refine lv_i2l C.1 C.2.1 dL_law_812 rfl ?_
      refine k_lcmpE C (hv2 hc804) dL_law_813 ?_
      refine k_zeq (tgt := 819) C dL_law_814 (by decide) (by omega) (fun _ => ?_) (fun h => absurd h (by decide))
      refine lv_goto (tgt := 1046) C.1 C.2.1 dL_law_819 (by decide) ?_
      exact kk _ H locs ls _ (lv_sub hl [2, 3, 4, 5, 6] rfl) hw hJ2 ⟨ob2, hO2⟩
  · exact absurd rfl hc797

set_option maxHeartbeats 1600000 in
set_option maxRecDepth 100000 in
theorem l_follows {p : Program} {l : Launch} {e : Env} {s : State} {m : MethodId} {args : Array Value} {below : List Frame} {meth : Method} {c : Code} {H : Heap} {locs : List Loc} {cells slots : Nat} {Q : State → Prop} {ls : Array Slot} {D : va_G} {ca : Nat → ClassId} {tB tS : Nat} {A : Nat → Prop} {ad : Nat → Nat} {g : Nat → va_E} {ex : Nat → Nat} {cd : Int32} {b L i : Nat} {xs : Nat → Int32} {ob : Nat → Int64} (hlt : l.stackTraces = false) (ht : TabOk pwG ex) (C : CallFix p m c cL_law 7 s args GW RL) (F : Fx D ca tB tS A s) (hX : va_X b L xs s s.heap) (hbl : b < s.heap.size) (hbA : ¬ A b) (hw : Wd D A s 209 ad g H locs) (hl : lv_has ls 7 [(0, .ref (b)), (1, .ref (ad 0)), (2, .ref (ad 198)), (3, .ref (ad 208)), (4, .int (nI i))]) (hi : i + 6 ≤ L) (hL : L ≤ 3072) (hJS : JS ca ad g ex cd) (hO : g 208 = la ca 1 ob) (hcl : cells + 1 ≤ room_1.cells) (hsl : slots + 6 ≤ room_1.slots) (kk : ∀ (g1 : Nat → va_E) (H1 : Heap) (locs1 : List Loc) (ls1 : Array Slot) (cd1 : Int32), lv_has ls1 7 [(0, .ref (b)), (1, .ref (ad 0)), (2, .ref (ad 198)), (3, .ref (ad 208)), (4, .int (nI i))] → Wd D A s 209 ad g1 H1 locs1 → JS ca ad g1 ex cd1 → (∃ ob, g1 208 = la ca 1 ob) → W p l e room_1 s m args below meth c H1 locs1 (cells + 1) (slots + 6) Q (F0 m 1046 ls1 [])) : W p l e room_1 s m args below meth c H locs cells slots Q (F0 m 822 ls []) := by
  obtain ⟨len, h, bk, bt, BM, ck, ct, cn, rk, M, ld, th, IN, CG, cm, hD, hM, hJ⟩ := hJS
  have hbd := hD.bd
  refine lv_aload_n C.1 C.2.1 dL_law_822 rfl (lv_at hl 1 rfl) ?_
  refine lv_aload_n C.1 C.2.1 dL_law_823 rfl (lv_at hl 0 rfl) ?_
  refine lv_iload C.1 C.2.1 dL_law_824 (lv_at hl 4 rfl) ?_
  refine k_icn C 1 dL_law_826 (by decide) ?_
  refine k_add C dL_law_827 ?_
  refine k_sld C hw hX hbl hbA (i + 1) (by omega) hL dL_law_828 ?_
  refine lv_aload_n C.1 C.2.1 dL_law_829 rfl (lv_at hl 3 rfl) ?_
  refine k_SW C F hw (As := [.ref (ad 0), .int (xs (i + 1)), .ref (ad 208)]) (rest := []) (c_L_follows (by decide) hO hD.1 (xs (i + 1)) (fun sz => c_X7_follows hlt pwG ex ht.2.2 ht.pw (by decide) (fbG pwG) (hfb9 ht) _ _ _ _ _ _ _ _ _ _ _ hD (xs (i + 1))) (fun E g1 h => (fun h => h.elim (fun h => Or.inl (h.1)) (fun h => Or.inr (h.1))) h.1) (fun r g1 h => h.1 208 (by decide))) (vx_cwSW _ C.2.2.2.2 (good_SW (gw_in 592 (by rfl) rfl) st_L_follows wi_L cw_L_follows) rfl rfl rfl cd_L_follows.2 ⟨Nat.le_of_ble_eq_true rfl, Nat.le_of_ble_eq_true rfl⟩) hl.1 rfl (Nat.le_of_ble_eq_true rfl) dL_law_830 ⟨hcl, hsl⟩ (fun k9 gw H locs hp1 hw => ?_)
  obtain ⟨hf1, ob1, hO1⟩ := wI_fr hp1 hO (fun v g2 h => h.1) (fun E g2 h => h.2.1)
  have hM1 := hM.keep (g1 := gw) (fun z h1 h2 => hf1 z (by omega) (by omega))
  obtain ⟨fs8, hq8⟩ := hM1.ob
  refine lv_istore (lv' := [(5, .int (k9)), (0, .ref (b)), (1, .ref (ad 0)), (2, .ref (ad 198)), (3, .ref (ad 208)), (4, .int (nI i))]) C.1 C.2.1 dL_law_833 hl (by decide) rfl (fun ls hl => ?_)
  refine lv_aload_n C.1 C.2.1 dL_law_835 rfl (lv_at hl 3 rfl) ?_
  refine lv_aload_n C.1 C.2.1 dL_law_836 rfl (lv_at hl 1 rfl) ?_
  refine lv_iload C.1 C.2.1 dL_law_837 (lv_at hl 5 rfl) ?_
  refine k_icn C 1 dL_law_839 (by decide) ?_
  refine k_add C dL_law_840 ?_
  refine k_sld C hw hX hbl hbA (i + 1) (by omega) hL dL_law_841 ?_
  refine k_Vi C F hw (i := 198) (As := [.int (xs (i + 1))]) (rest := []) (c_X8_follows (by decide) pwG pwG_lt hT9 _ _ _ _ _ _ _ _ _ _ _ hM1 (xs (i + 1))) (by omega) hq8 rfl (cwV _ C.2.2.2.2 gm_L_120 rfl rfl rfl cd_X8_follows ⟨by decide, by decide⟩) hl.1 rfl (Nat.le_of_ble_eq_true rfl) dL_law_842 ⟨by omega, by omega⟩ (fun r1 g2 H locs hp hw => ?_)
  have hj := j_follows ht hD hM hJ hO (xs (i + 1)) hp1 hp
  obtain ⟨⟨ob2, hO2, hv2⟩, hJ2⟩ := hj
  obtain ⟨fs9, hq9⟩ := hJ2.ob
  refine lv_istore (lv' := [(6, .int (r1)), (5, .int (k9)), (0, .ref (b)), (1, .ref (ad 0)), (2, .ref (ad 198)), (3, .ref (ad 208)), (4, .int (nI i))]) C.1 C.2.1 dL_law_845 hl (by decide) rfl (fun ls hl => ?_)
  refine lv_aload_n C.1 C.2.1 dL_law_847 rfl (lv_at hl 4 rfl) ?_
  refine k_Vi C F hw (i := 198) (As := []) (rest := []) (c_thrown hJ2) (by omega) hq9 rfl (cwV _ C.2.2.2.2 gm_L_78 rfl rfl rfl cd_X8_thrown ⟨by decide, by decide⟩) hl.1 rfl (Nat.le_of_ble_eq_true rfl) dL_law_848 ⟨by omega, by omega⟩ (fun r3 g4 H locs hp hw => ?_)
  obtain ⟨hr9, hg9⟩ := hp
  rw [hg9] at hw
  subst hr9
  refine lv_iload C.1 C.2.1 dL_law_851 (lv_at hl 1 rfl) ?_
  refine lv_icmp_eq (tgt := 858) C.1 C.2.1 dL_law_853 (by decide) (fun hc853 => ?_) (fun hc853 => ?_)
  · refine lv_iload C.1 C.2.1 dL_law_858 (lv_at hl 1 rfl) ?_
    refine lv_if_ne (tgt := 882) C.1 C.2.1 dL_law_860 (by decide) (fun hc860 => ?_) (fun hc860 => ?_)
    · refine lv_goto (tgt := 1046) C.1 C.2.1 dL_law_882 (by decide) ?_
      exact kk _ H locs ls _ (lv_sub hl [2, 3, 4, 5, 6] rfl) hw hJ2 ⟨ob2, hO2⟩
    · refine lv_aload_n C.1 C.2.1 dL_law_863 rfl (lv_at hl 5 rfl) ?_
      refine k_icn C 0 dL_law_864 (by decide) ?_
      refine k_lald C F hw 208 (by decide) hO2 0 (by decide) (by decide) dL_law_865 ?_
      refine lv_iload C.1 C.2.1 dL_law_866 (lv_at hl 0 rfl) ?_
      refine lv_if_eq (tgt := 875) C.1 C.2.1 dL_law_868 (by decide) (fun hc868 => ?_) (fun hc868 => ?_)
      · refine lv_lconst (v := 0) C.1 C.2.1 dL_law_875 (by decide) ?_
        refine k_lcmpE C (by rw [hv2 hc860]; exact if_pos hc868) dL_law_876 ?_
        refine k_zeq (tgt := 882) C dL_law_877 (by decide) (by omega) (fun _ => ?_) (fun h => absurd h (by decide))
        refine lv_goto (tgt := 1046) C.1 C.2.1 dL_law_882 (by decide) ?_
        exact kk _ H locs ls _ (lv_sub hl [2, 3, 4, 5, 6] rfl) hw hJ2 ⟨ob2, hO2⟩
      · refine lv_lconst (v := 1) C.1 C.2.1 dL_law_871 (by decide) ?_
        refine lv_goto (tgt := 876) C.1 C.2.1 dL_law_872 (by decide) ?_
        refine k_lcmpE C (by rw [hv2 hc860]; exact if_neg hc868) dL_law_876 ?_
        refine k_zeq (tgt := 882) C dL_law_877 (by decide) (by omega) (fun _ => ?_) (fun h => absurd h (by decide))
        refine lv_goto (tgt := 1046) C.1 C.2.1 dL_law_882 (by decide) ?_
        exact kk _ H locs ls _ (lv_sub hl [2, 3, 4, 5, 6] rfl) hw hJ2 ⟨ob2, hO2⟩
  · exact absurd rfl hc853

set_option maxHeartbeats 1600000 in
set_option maxRecDepth 100000 in
theorem l_known {p : Program} {l : Launch} {e : Env} {s : State} {m : MethodId} {args : Array Value} {below : List Frame} {meth : Method} {c : Code} {H : Heap} {locs : List Loc} {cells slots : Nat} {Q : State → Prop} {ls : Array Slot} {D : va_G} {ca : Nat → ClassId} {tB tS : Nat} {A : Nat → Prop} {ad : Nat → Nat} {g : Nat → va_E} {ex : Nat → Nat} {cd : Int32} {b L i : Nat} {xs : Nat → Int32} {ob : Nat → Int64} (hlt : l.stackTraces = false) (ht : TabOk pwG ex) (C : CallFix p m c cL_law 7 s args GW RL) (F : Fx D ca tB tS A s) (hX : va_X b L xs s s.heap) (hbl : b < s.heap.size) (hbA : ¬ A b) (hw : Wd D A s 209 ad g H locs) (hl : lv_has ls 7 [(0, .ref (b)), (1, .ref (ad 0)), (2, .ref (ad 198)), (3, .ref (ad 208)), (4, .int (nI i))]) (hi : i + 6 ≤ L) (hL : L ≤ 3072) (hJS : JS ca ad g ex cd) (hO : g 208 = la ca 1 ob) (hcl : cells + 1 ≤ room_1.cells) (hsl : slots + 6 ≤ room_1.slots) (kk : ∀ (g1 : Nat → va_E) (H1 : Heap) (locs1 : List Loc) (ls1 : Array Slot) (cd1 : Int32), lv_has ls1 7 [(0, .ref (b)), (1, .ref (ad 0)), (2, .ref (ad 198)), (3, .ref (ad 208)), (4, .int (nI i))] → Wd D A s 209 ad g1 H1 locs1 → JS ca ad g1 ex cd1 → (∃ ob, g1 208 = la ca 1 ob) → W p l e room_1 s m args below meth c H1 locs1 (cells + 1) (slots + 6) Q (F0 m 1046 ls1 [])) : W p l e room_1 s m args below meth c H locs cells slots Q (F0 m 885 ls []) := by
  obtain ⟨len, h, bk, bt, BM, ck, ct, cn, rk, M, ld, th, IN, CG, cm, hD, hM, hJ⟩ := hJS
  have hbd := hD.bd
  refine lv_aload_n C.1 C.2.1 dL_law_885 rfl (lv_at hl 1 rfl) ?_
  refine lv_aload_n C.1 C.2.1 dL_law_886 rfl (lv_at hl 0 rfl) ?_
  refine lv_iload C.1 C.2.1 dL_law_887 (lv_at hl 4 rfl) ?_
  refine k_icn C 1 dL_law_889 (by decide) ?_
  refine k_add C dL_law_890 ?_
  refine k_sld C hw hX hbl hbA (i + 1) (by omega) hL dL_law_891 ?_
  refine lv_aload_n C.1 C.2.1 dL_law_892 rfl (lv_at hl 0 rfl) ?_
  refine lv_iload C.1 C.2.1 dL_law_893 (lv_at hl 4 rfl) ?_
  refine k_icn C 2 dL_law_895 (by decide) ?_
  refine k_add C dL_law_896 ?_
  refine k_sld C hw hX hbl hbA (i + 2) (by omega) hL dL_law_897 ?_
  refine lv_aload_n C.1 C.2.1 dL_law_898 rfl (lv_at hl 3 rfl) ?_
  refine k_SW C F hw (As := [.ref (ad 0), .int (xs (i + 1)), .int (xs (i + 2)), .ref (ad 208)]) (rest := []) (c_L_known (by decide) hO hD.1 (xs (i + 1)) (xs (i + 2)) (fun sz => c_X7_known hlt pwG ex ht.2.2 ht.pw (by decide) (fbG pwG) (hfb9 ht) _ _ _ _ _ _ _ _ _ _ _ hD (xs (i + 1)) (xs (i + 2))) (fun E g1 h => (fun h => h.elim (fun h => Or.inl (h.1)) (fun h => h.elim (fun h => Or.inr (h.1)) (fun h => h.elim (fun h => Or.inl (h.1)) (fun h => Or.inr (h.1))))) h.1) (fun r g1 h => h.1 208 (by decide))) (vx_cwSW _ C.2.2.2.2 (good_SW (gw_in 608 (by rfl) rfl) st_L_known wi_L cw_L_known) rfl rfl rfl cd_L_known.2 ⟨Nat.le_of_ble_eq_true rfl, Nat.le_of_ble_eq_true rfl⟩) hl.1 rfl (Nat.le_of_ble_eq_true rfl) dL_law_899 ⟨hcl, hsl⟩ (fun k9 gw H locs hp1 hw => ?_)
  obtain ⟨hf1, ob1, hO1⟩ := wI_fr hp1 hO (fun v g2 h => h.1) (fun E g2 h => h.2.1)
  have hM1 := hM.keep (g1 := gw) (fun z h1 h2 => hf1 z (by omega) (by omega))
  obtain ⟨fs8, hq8⟩ := hM1.ob
  refine lv_istore (lv' := [(5, .int (k9)), (0, .ref (b)), (1, .ref (ad 0)), (2, .ref (ad 198)), (3, .ref (ad 208)), (4, .int (nI i))]) C.1 C.2.1 dL_law_902 hl (by decide) rfl (fun ls hl => ?_)
  refine lv_aload_n C.1 C.2.1 dL_law_904 rfl (lv_at hl 3 rfl) ?_
  refine lv_aload_n C.1 C.2.1 dL_law_905 rfl (lv_at hl 1 rfl) ?_
  refine lv_iload C.1 C.2.1 dL_law_906 (lv_at hl 5 rfl) ?_
  refine k_icn C 1 dL_law_908 (by decide) ?_
  refine k_add C dL_law_909 ?_
  refine k_sld C hw hX hbl hbA (i + 1) (by omega) hL dL_law_910 ?_
  refine lv_aload_n C.1 C.2.1 dL_law_911 rfl (lv_at hl 1 rfl) ?_
  refine lv_iload C.1 C.2.1 dL_law_912 (lv_at hl 5 rfl) ?_
  refine k_icn C 2 dL_law_914 (by decide) ?_
  refine k_add C dL_law_915 ?_
  refine k_sld C hw hX hbl hbA (i + 2) (by omega) hL dL_law_916 ?_
  refine k_Vi C F hw (i := 198) (As := [.int (xs (i + 1)), .int (xs (i + 2))]) (rest := []) (c_X8_known (by decide) pwG pwG_lt hT9 _ _ _ _ _ _ _ _ _ _ _ hM1 (xs (i + 1)) (xs (i + 2))) (by omega) hq8 rfl (cwV _ C.2.2.2.2 gm_L_123 rfl rfl rfl cd_X8_known ⟨by decide, by decide⟩) hl.1 rfl (Nat.le_of_ble_eq_true rfl) dL_law_917 ⟨by omega, by omega⟩ (fun r1 g2 H locs hp hw => ?_)
  have hj := j_known ht hD hM hJ hO (xs (i + 1)) (xs (i + 2)) hp1 hp
  obtain ⟨⟨ob2, hO2, hv2⟩, hJ2⟩ := hj
  obtain ⟨fs9, hq9⟩ := hJ2.ob
  refine lv_istore (lv' := [(6, .int (r1)), (5, .int (k9)), (0, .ref (b)), (1, .ref (ad 0)), (2, .ref (ad 198)), (3, .ref (ad 208)), (4, .int (nI i))]) C.1 C.2.1 dL_law_920 hl (by decide) rfl (fun ls hl => ?_)
  refine lv_aload_n C.1 C.2.1 dL_law_922 rfl (lv_at hl 4 rfl) ?_
  refine k_Vi C F hw (i := 198) (As := []) (rest := []) (c_thrown hJ2) (by omega) hq9 rfl (cwV _ C.2.2.2.2 gm_L_78 rfl rfl rfl cd_X8_thrown ⟨by decide, by decide⟩) hl.1 rfl (Nat.le_of_ble_eq_true rfl) dL_law_923 ⟨by omega, by omega⟩ (fun r3 g4 H locs hp hw => ?_)
  obtain ⟨hr9, hg9⟩ := hp
  rw [hg9] at hw
  subst hr9
  refine lv_iload C.1 C.2.1 dL_law_926 (lv_at hl 1 rfl) ?_
  refine lv_icmp_eq (tgt := 933) C.1 C.2.1 dL_law_928 (by decide) (fun hc928 => ?_) (fun hc928 => ?_)
  · refine lv_iload C.1 C.2.1 dL_law_933 (lv_at hl 1 rfl) ?_
    refine lv_if_ne (tgt := 950) C.1 C.2.1 dL_law_935 (by decide) (fun hc935 => ?_) (fun hc935 => ?_)
    · refine lv_goto (tgt := 1046) C.1 C.2.1 dL_law_950 (by decide) ?_
      exact kk _ H locs ls _ (lv_sub hl [2, 3, 4, 5, 6] rfl) hw hJ2 ⟨ob2, hO2⟩
    · refine lv_aload_n C.1 C.2.1 dL_law_938 rfl (lv_at hl 5 rfl) ?_
      refine k_icn C 0 dL_law_939 (by decide) ?_
      refine k_lald C F hw 208 (by decide) hO2 0 (by decide) (by decide) dL_law_940 ?_
      refine lv_iload C.1 C.2.1 dL_law_941 (lv_at hl 0 rfl) ?_
      refine lv_i2l C.1 C.2.1 dL_law_943 rfl ?_
      refine k_lcmpE C (hv2 hc935) dL_law_944 ?_
      refine k_zeq (tgt := 950) C dL_law_945 (by decide) (by omega) (fun _ => ?_) (fun h => absurd h (by decide))
      refine lv_goto (tgt := 1046) C.1 C.2.1 dL_law_950 (by decide) ?_
      exact kk _ H locs ls _ (lv_sub hl [2, 3, 4, 5, 6] rfl) hw hJ2 ⟨ob2, hO2⟩
  · exact absurd rfl hc928

set_option maxHeartbeats 1600000 in
set_option maxRecDepth 100000 in
theorem l_product {p : Program} {l : Launch} {e : Env} {s : State} {m : MethodId} {args : Array Value} {below : List Frame} {meth : Method} {c : Code} {H : Heap} {locs : List Loc} {cells slots : Nat} {Q : State → Prop} {ls : Array Slot} {D : va_G} {ca : Nat → ClassId} {tB tS : Nat} {A : Nat → Prop} {ad : Nat → Nat} {g : Nat → va_E} {ex : Nat → Nat} {cd : Int32} {b L i : Nat} {xs : Nat → Int32} {ob : Nat → Int64} (hlt : l.stackTraces = false) (ht : TabOk pwG ex) (C : CallFix p m c cL_law 7 s args GW RL) (F : Fx D ca tB tS A s) (hX : va_X b L xs s s.heap) (hbl : b < s.heap.size) (hbA : ¬ A b) (hw : Wd D A s 209 ad g H locs) (hl : lv_has ls 7 [(0, .ref (b)), (1, .ref (ad 0)), (2, .ref (ad 198)), (3, .ref (ad 208)), (4, .int (nI i))]) (hi : i + 6 ≤ L) (hL : L ≤ 3072) (hJS : JS ca ad g ex cd) (hO : g 208 = la ca 1 ob) (hcl : cells + 1 ≤ room_1.cells) (hsl : slots + 6 ≤ room_1.slots) (kk : ∀ (g1 : Nat → va_E) (H1 : Heap) (locs1 : List Loc) (ls1 : Array Slot) (cd1 : Int32), lv_has ls1 7 [(0, .ref (b)), (1, .ref (ad 0)), (2, .ref (ad 198)), (3, .ref (ad 208)), (4, .int (nI i))] → Wd D A s 209 ad g1 H1 locs1 → JS ca ad g1 ex cd1 → (∃ ob, g1 208 = la ca 1 ob) → W p l e room_1 s m args below meth c H1 locs1 (cells + 1) (slots + 6) Q (F0 m 1046 ls1 [])) : W p l e room_1 s m args below meth c H locs cells slots Q (F0 m 953 ls []) := by
  obtain ⟨len, h, bk, bt, BM, ck, ct, cn, rk, M, ld, th, IN, CG, cm, hD, hM, hJ⟩ := hJS
  have hbd := hD.bd
  obtain ⟨a1, ha1, hx1⟩ := wb_of32 (xs (i + 1))
  obtain ⟨a2, ha2, hx2⟩ := wb_of32 (xs (i + 2))
  refine lv_aload_n C.1 C.2.1 dL_law_953 rfl (lv_at hl 1 rfl) ?_
  refine lv_aload_n C.1 C.2.1 dL_law_954 rfl (lv_at hl 0 rfl) ?_
  refine lv_iload C.1 C.2.1 dL_law_955 (lv_at hl 4 rfl) ?_
  refine k_icn C 1 dL_law_957 (by decide) ?_
  refine k_add C dL_law_958 ?_
  refine k_sld C hw hX hbl hbA (i + 1) (by omega) hL dL_law_959 ?_
  refine k_ti (x' := nI a1) hx1 ?_
  refine lv_aload_n C.1 C.2.1 dL_law_960 rfl (lv_at hl 0 rfl) ?_
  refine lv_iload C.1 C.2.1 dL_law_961 (lv_at hl 4 rfl) ?_
  refine k_icn C 2 dL_law_963 (by decide) ?_
  refine k_add C dL_law_964 ?_
  refine k_sld C hw hX hbl hbA (i + 2) (by omega) hL dL_law_965 ?_
  refine k_ti (x' := nI a2) hx2 ?_
  refine k_Vi C F hw (i := 0) (As := [.int (nI a1), .int (nI a2)]) (rest := []) (c_X7_product pwG ex hD.2.1 ht.2.2 (by decide) hD.1 a1 a2 ha1 ha2) (by omega) hD.1 rfl (cwV _ C.2.2.2.2 gm_L_124 rfl rfl rfl cd_X7_product ⟨by decide, by decide⟩) hl.1 rfl (Nat.le_of_ble_eq_true rfl) dL_law_966 ⟨by omega, by omega⟩ (fun r1 g2 H locs hp hw => ?_)
  obtain ⟨hr9, hg9⟩ := hp
  rw [hg9] at hw
  subst hr9
  refine k_ti (x' := nI (mt (a1 % 2 ^ 8) (a2 % 2 ^ 8))) (congrArg nI (fTimes_mt ht (Nat.mod_lt _ (by decide)) (Nat.mod_lt _ (by decide)))) ?_
  obtain ⟨fs8, hq8⟩ := hM.ob
  refine lv_aload_n C.1 C.2.1 dL_law_969 rfl (lv_at hl 2 rfl) ?_
  refine lv_aload_n C.1 C.2.1 dL_law_970 rfl (lv_at hl 0 rfl) ?_
  refine lv_iload C.1 C.2.1 dL_law_971 (lv_at hl 4 rfl) ?_
  refine k_icn C 1 dL_law_973 (by decide) ?_
  refine k_add C dL_law_974 ?_
  refine k_sld C hw hX hbl hbA (i + 1) (by omega) hL dL_law_975 ?_
  refine k_ti (x' := nI a1) hx1 ?_
  refine lv_aload_n C.1 C.2.1 dL_law_976 rfl (lv_at hl 0 rfl) ?_
  refine lv_iload C.1 C.2.1 dL_law_977 (lv_at hl 4 rfl) ?_
  refine k_icn C 2 dL_law_979 (by decide) ?_
  refine k_add C dL_law_980 ?_
  refine k_sld C hw hX hbl hbA (i + 2) (by omega) hL dL_law_981 ?_
  refine k_ti (x' := nI a2) hx2 ?_
  refine k_Vi C F hw (i := 198) (As := [.int (nI a1), .int (nI a2)]) (rest := [.int (nI (mt (a1 % 2 ^ 8) (a2 % 2 ^ 8)))]) (c_X8_product (by decide) pwG pwG_lt hT9 _ _ _ _ _ _ _ _ _ _ _ hM a1 a2 ha1 ha2) (by omega) hq8 rfl (cwV _ C.2.2.2.2 gm_L_127 rfl rfl rfl cd_X8_product ⟨by decide, by decide⟩) hl.1 rfl (Nat.le_of_ble_eq_true rfl) dL_law_982 ⟨by omega, by omega⟩ (fun r3 g4 H locs hp hw => ?_)
  obtain ⟨hfr, hr9, hM2⟩ := hp
  subst hr9
  have hJ2 : JS ca ad g4 ex (nI 0) := ⟨_, _, _, _, _, _, _, _, _, _, _, _, _, _, _, hD.keep (fun z hz => hfr z (Or.inl hz)), hM2, hJ⟩
  have hO2 : g4 208 = la ca 1 ob := (hfr 208 (by decide)).trans hO
  obtain ⟨ob2, hob⟩ : ∃ z, z = ob := ⟨_, rfl⟩
  rw [← hob] at hO2
  have hmt := mt_lt (b := a2 % 2 ^ 8) (show a1 % 2 ^ 8 < 256 from Nat.mod_lt _ (by decide))
  refine k_ieq (tgt := 1046) C dL_law_985 (by decide) (by omega) (by omega) (fun hc985 => ?_) (fun hc985 => ?_)
  · refine W.widen (k := cells + 1) (n := slots + 6) (by omega) (by omega) ?_
    exact kk _ H locs ls _ (lv_sub hl [0, 1, 2, 3, 4] rfl) hw hJ2 ⟨ob2, hO2⟩
  · exact absurd rfl hc985

set_option maxHeartbeats 1600000 in
set_option maxRecDepth 100000 in
theorem l_count {p : Program} {l : Launch} {e : Env} {s : State} {m : MethodId} {args : Array Value} {below : List Frame} {meth : Method} {c : Code} {H : Heap} {locs : List Loc} {cells slots : Nat} {Q : State → Prop} {ls : Array Slot} {D : va_G} {ca : Nat → ClassId} {tB tS : Nat} {A : Nat → Prop} {ad : Nat → Nat} {g : Nat → va_E} {ex : Nat → Nat} {cd : Int32} {b L i : Nat} {xs : Nat → Int32} {ob : Nat → Int64} (hlt : l.stackTraces = false) (ht : TabOk pwG ex) (C : CallFix p m c cL_law 7 s args GW RL) (F : Fx D ca tB tS A s) (hX : va_X b L xs s s.heap) (hbl : b < s.heap.size) (hbA : ¬ A b) (hw : Wd D A s 209 ad g H locs) (hl : lv_has ls 7 [(0, .ref (b)), (1, .ref (ad 0)), (2, .ref (ad 198)), (3, .ref (ad 208)), (4, .int (nI i))]) (hi : i + 6 ≤ L) (hL : L ≤ 3072) (hJS : JS ca ad g ex cd) (hO : g 208 = la ca 1 ob) (hcl : cells + 1 ≤ room_1.cells) (hsl : slots + 6 ≤ room_1.slots) (kk : ∀ (g1 : Nat → va_E) (H1 : Heap) (locs1 : List Loc) (ls1 : Array Slot) (cd1 : Int32), lv_has ls1 7 [(0, .ref (b)), (1, .ref (ad 0)), (2, .ref (ad 198)), (3, .ref (ad 208)), (4, .int (nI i))] → Wd D A s 209 ad g1 H1 locs1 → JS ca ad g1 ex cd1 → (∃ ob, g1 208 = la ca 1 ob) → W p l e room_1 s m args below meth c H1 locs1 (cells + 1) (slots + 6) Q (F0 m 1046 ls1 [])) : W p l e room_1 s m args below meth c H locs cells slots Q (F0 m 990 ls []) := by
  obtain ⟨len, h, bk, bt, BM, ck, ct, cn, rk, M, ld, th, IN, CG, cm, hD, hM, hJ⟩ := hJS
  have hbd := hD.bd
  obtain ⟨dv, hdv⟩ : ∃ dv, dv = dvN ck CG cm := ⟨_, rfl⟩
  refine lv_aload_n C.1 C.2.1 dL_law_990 rfl (lv_at hl 1 rfl) ?_
  refine lv_aload_n C.1 C.2.1 dL_law_991 rfl (lv_at hl 0 rfl) ?_
  refine lv_iload C.1 C.2.1 dL_law_992 (lv_at hl 4 rfl) ?_
  refine k_icn C 1 dL_law_994 (by decide) ?_
  refine k_add C dL_law_995 ?_
  refine k_sld C hw hX hbl hbA (i + 1) (by omega) hL dL_law_996 ?_
  refine lv_aload_n C.1 C.2.1 dL_law_997 rfl (lv_at hl 3 rfl) ?_
  refine k_SW C F hw (As := [.ref (ad 0), .int (xs (i + 1)), .ref (ad 208)]) (rest := []) (c_L_count (by decide) hO hD.1 (xs (i + 1)) (fun sz => c_X7_count hlt pwG ex ht.2.2 ht.pw (by decide) (fbG pwG) (hfb9 ht) _ _ _ _ _ _ _ _ _ _ _ hD dv (fun x ln pl hx hln => b_iff ((drv_ok ht pl (show 1 ≤ ck ∧ ck ≤ 48 by omega) (show ct ≤ 16 by omega) hbd.2.2.2 hln (hJ.2.2 (by omega))).1.trans (by rw [hdv]; exact dvN_iff.symm))) (xs (i + 1))) (fun E g1 h => h.1) (fun r g1 h => h.1 208 (by decide))) (vx_cwSW _ C.2.2.2.2 (good_SW (gw_in 619 (by rfl) rfl) st_L_count wi_L cw_L_count) rfl rfl rfl cd_L_count.2 ⟨Nat.le_of_ble_eq_true rfl, Nat.le_of_ble_eq_true rfl⟩) hl.1 rfl (Nat.le_of_ble_eq_true rfl) dL_law_998 ⟨hcl, hsl⟩ (fun k9 gw H locs hp1 hw => ?_)
  obtain ⟨hf1, ob1, hO1⟩ := wI_fr hp1 hO (fun v g2 h => h.1) (fun E g2 h => h.2.2.1)
  have hM1 := hM.keep (g1 := gw) (fun z h1 h2 => hf1 z (by omega) (by omega))
  obtain ⟨fs8, hq8⟩ := hM1.ob
  refine lv_istore (lv' := [(5, .int (k9)), (0, .ref (b)), (1, .ref (ad 0)), (2, .ref (ad 198)), (3, .ref (ad 208)), (4, .int (nI i))]) C.1 C.2.1 dL_law_1001 hl (by decide) rfl (fun ls hl => ?_)
  refine lv_aload_n C.1 C.2.1 dL_law_1003 rfl (lv_at hl 3 rfl) ?_
  refine lv_aload_n C.1 C.2.1 dL_law_1004 rfl (lv_at hl 1 rfl) ?_
  refine lv_iload C.1 C.2.1 dL_law_1005 (lv_at hl 5 rfl) ?_
  refine k_icn C 1 dL_law_1007 (by decide) ?_
  refine k_add C dL_law_1008 ?_
  refine k_sld C hw hX hbl hbA (i + 1) (by omega) hL dL_law_1009 ?_
  refine k_Vi C F hw (i := 198) (As := [.int (xs (i + 1))]) (rest := []) (c_X8_count (by decide) pwG pwG_lt hT9 _ _ _ _ _ _ _ _ _ _ _ hM1 dv (fun h0 x hx => by rw [hdv]; exact dvN_iff) (xs (i + 1))) (by omega) hq8 rfl (cwV _ C.2.2.2.2 gm_L_130 rfl rfl rfl cd_X8_count ⟨by decide, by decide⟩) hl.1 rfl (Nat.le_of_ble_eq_true rfl) dL_law_1010 ⟨by omega, by omega⟩ (fun r1 g2 H locs hp hw => ?_)
  have hj := j_count ht hD hM hJ hO dv (xs (i + 1)) hp1 hp
  obtain ⟨⟨ob2, hO2, hv2⟩, hJ2⟩ := hj
  obtain ⟨fs9, hq9⟩ := hJ2.ob
  refine lv_istore (lv' := [(6, .int (r1)), (5, .int (k9)), (0, .ref (b)), (1, .ref (ad 0)), (2, .ref (ad 198)), (3, .ref (ad 208)), (4, .int (nI i))]) C.1 C.2.1 dL_law_1013 hl (by decide) rfl (fun ls hl => ?_)
  refine lv_aload_n C.1 C.2.1 dL_law_1015 rfl (lv_at hl 4 rfl) ?_
  refine k_Vi C F hw (i := 198) (As := []) (rest := []) (c_thrown hJ2) (by omega) hq9 rfl (cwV _ C.2.2.2.2 gm_L_78 rfl rfl rfl cd_X8_thrown ⟨by decide, by decide⟩) hl.1 rfl (Nat.le_of_ble_eq_true rfl) dL_law_1016 ⟨by omega, by omega⟩ (fun r3 g4 H locs hp hw => ?_)
  obtain ⟨hr9, hg9⟩ := hp
  rw [hg9] at hw
  subst hr9
  refine lv_iload C.1 C.2.1 dL_law_1019 (lv_at hl 1 rfl) ?_
  refine lv_icmp_eq (tgt := 1026) C.1 C.2.1 dL_law_1021 (by decide) (fun hc1021 => ?_) (fun hc1021 => ?_)
  · refine lv_iload C.1 C.2.1 dL_law_1026 (lv_at hl 1 rfl) ?_
    refine lv_if_ne (tgt := 1043) C.1 C.2.1 dL_law_1028 (by decide) (fun hc1028 => ?_) (fun hc1028 => ?_)
    · refine lv_goto (tgt := 1046) C.1 C.2.1 dL_law_1043 (by decide) ?_
      exact kk _ H locs ls _ (lv_sub hl [2, 3, 4, 5, 6] rfl) hw hJ2 ⟨ob2, hO2⟩
    · refine lv_aload_n C.1 C.2.1 dL_law_1031 rfl (lv_at hl 5 rfl) ?_
      refine k_icn C 0 dL_law_1032 (by decide) ?_
      refine k_lald C F hw 208 (by decide) hO2 0 (by decide) (by decide) dL_law_1033 ?_
      refine lv_iload C.1 C.2.1 dL_law_1034 (lv_at hl 0 rfl) ?_
      refine lv_i2l C.1 C.2.1 dL_law_1036 rfl ?_
      refine k_lcmpE C (hv2 hc1028) dL_law_1037 ?_
      refine k_zeq (tgt := 1043) C dL_law_1038 (by decide) (by omega) (fun _ => ?_) (fun h => absurd h (by decide))
      refine lv_goto (tgt := 1046) C.1 C.2.1 dL_law_1043 (by decide) ?_
      exact kk _ H locs ls _ (lv_sub hl [2, 3, 4, 5, 6] rfl) hw hJ2 ⟨ob2, hO2⟩
  · exact absurd rfl hc1021
