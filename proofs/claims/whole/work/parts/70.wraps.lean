/-! ===== law's little methods ===== -/
/-- what a little method answers: 0 and the value laid down, or the exception's number -/
def wI (ca : Nat → ClassId) (ob : Nat → Int64) (lay : Int32 → Int64) (code : List (String × Nat)) (post : Int32 → (Nat → va_E) → Prop) (px : String → (Nat → va_E) → Prop) (r : Int32) (g1 : Nat → va_E) : Prop :=
  (r = nI 0 ∧ ∃ v g2, post v g2 ∧ g1 = va_up g2 208 (la ca 1 (vp_updL ob 0 (lay v)))) ∨ (∃ q ∈ code, px q.1 g1 ∧ r = nI q.2)
def wV (code : List (String × Nat)) (post : (Nat → va_E) → Prop) (px : String → (Nat → va_E) → Prop) (r : Int32) (g1 : Nat → va_E) : Prop :=
  (r = nI 0 ∧ post g1) ∨ (∃ q ∈ code, px q.1 g1 ∧ r = nI q.2)

set_option maxRecDepth 20000 in
theorem cw_L_feed : Cond.codeWith yL_feed cL_feed 8 (some .int) [(0, 16, 19, 13)] ∈ GW := gw_in 242 (by rfl) rfl
set_option maxRecDepth 20000 in
theorem st_L_feed : Cond.static yL_feed ∈ GW := gw_in 241 (by rfl) rfl
abbrev rm_L_feed : Room := { frames := 7, cells := 1, slots := 6, locals := 115 }

set_option maxHeartbeats 800000 in
set_option maxRecDepth 100000 in
/-- law's feed -/
theorem c_L_feed {l : Launch} {D : va_G} {ca : Nat → ClassId} {tB tS R : Nat} {ad : Nat → Nat} {g : Nat → va_E} {sz : Nat} (hR : 208 < R) {ob : Nat → Int64} (eO : g 208 = la ca 1 ob) {fs : List Value} (eX : g 0 = .inr (7, fs)) {post : Int32 → (Nat → va_E) → Prop} {px : String → (Nat → va_E) → Prop} (a1 a2 a3 a4 a5 : Int32) (hM : ∀ sz, XMI l yX7_feed cX7_feed 6 .int rm_X7_feed D ca tB tS R ad g sz [.ref (ad 0), .int (a1), .int (a2), .int (a3), .int (a4), .int (a5)] post px) (hE : ∀ E g1, px E g1 → E = xU) (h8 : ∀ r g1, post r g1 → g1 208 = g 208) : MW l yL_feed cL_feed 8 [(0, 16, 19, 13)] rm_L_feed D ca tB tS R ad g sz [.ref (ad 0), .int (a1), .int (a2), .int (a3), .int (a4), .int (a5), .ref (ad 208)] (wI ca ob (fun v => v.toInt64) [(xU, 1)] post px) := by
  refine w_start (by decide +kernel) (Nat.le_of_ble_eq_true rfl) (fun p e s m args below meth c ls Q hsz C hex hl F hw hret => ?_)
  have hl : lv_has ls 8 [(0, .ref (ad 0)), (1, .int (a1)), (2, .int (a2)), (3, .int (a3)), (4, .int (a4)), (5, .int (a5)), (6, .ref (ad 208))] := hl
  generalize s.heap = H at hw ⊢
  generalize ([] : List Loc) = locs at hw ⊢
  refine lv_aload C.1 C.2.1 dL_feed_0 (lv_at hl 6 rfl) ?_
  refine k_icn C 0 dL_feed_2 (by decide) ?_
  refine lv_aload_n C.1 C.2.1 dL_feed_3 rfl (lv_at hl 0 rfl) ?_
  refine lv_iload_n C.1 C.2.1 dL_feed_4 rfl (lv_at hl 1 rfl) ?_
  refine lv_iload_n C.1 C.2.1 dL_feed_5 rfl (lv_at hl 2 rfl) ?_
  refine lv_iload_n C.1 C.2.1 dL_feed_6 rfl (lv_at hl 3 rfl) ?_
  refine lv_iload C.1 C.2.1 dL_feed_7 (lv_at hl 4 rfl) ?_
  refine lv_iload C.1 C.2.1 dL_feed_9 (lv_at hl 5 rfl) ?_
  refine k_Xi C F hw (i := 0) (As := [.int (a1), .int (a2), .int (a3), .int (a4), .int (a5)]) (rest := [.int (nI 0), .ref (ad 208)]) (hM _) (by omega) eX rfl (cwV _ C.2.2.2.2 gm_L_7 rfl rfl rfl cd_X7_feed ⟨by decide, by decide⟩) hl.1 rfl (Nat.le_of_ble_eq_true rfl) dL_feed_11 ⟨by decide, by decide⟩ (fun E ce q9 g1 H locs hp hw hce hcv hcl => ?_) (fun v g1 H locs hp hw => ?_)
  · rcases hE E g1 hp with rfl
    · refine ct_w (h := 19) C (by rw [hex]; exact ⟨by decide, by decide, Or.inl ⟨kl_L_13, rfl⟩⟩) hce hcv hcl ?_
      refine lv_astore (lv' := [(7, .ref (q9)), (0, .ref (ad 0)), (1, .int (a1)), (2, .int (a2)), (3, .int (a3)), (4, .int (a4)), (5, .int (a5)), (6, .ref (ad 208))]) C.1 C.2.1 dL_feed_19 hl (by decide) rfl (fun ls hl => ?_)
      refine k_icn C 1 dL_feed_21 (by decide) ?_
      exact hret H locs ls _ _ _ dL_feed_22 hw (Or.inr ⟨_, List.mem_cons_self, hp, rfl⟩)
  · refine lv_i2l C.1 C.2.1 dL_feed_14 rfl ?_
    refine k_last C F hw 208 (by omega) ((h8 _ _ hp).trans eO) 0 ((v).toInt64) (by decide) (by decide) dL_feed_15 (fun H locs hw => ?_)
    refine lv_goto (tgt := 23) C.1 C.2.1 dL_feed_16 (by decide) ?_
    refine k_icn C 0 dL_feed_23 (by decide) ?_
    exact hret H locs ls _ _ _ dL_feed_24 hw (Or.inl ⟨rfl, v, g1, hp, rfl⟩)

set_option maxRecDepth 20000 in
theorem cw_L_end : Cond.codeWith yL_end cL_end 3 (some .int) [(0, 5, 8, 19)] ∈ GW := gw_in 322 (by rfl) rfl
set_option maxRecDepth 20000 in
theorem st_L_end : Cond.static yL_end ∈ GW := gw_in 321 (by rfl) rfl
abbrev rm_L_end : Room := { frames := 7, cells := 1, slots := 6, locals := 111 }

set_option maxHeartbeats 800000 in
set_option maxRecDepth 100000 in
/-- law's end -/
theorem c_L_end {l : Launch} {D : va_G} {ca : Nat → ClassId} {tB tS R : Nat} {ad : Nat → Nat} {g : Nat → va_E} {sz : Nat} (hR : 208 < R) {ob : Nat → Int64} (eO : g 208 = la ca 1 ob) {fs : List Value} (eX : g 0 = .inr (7, fs)) {post : (Nat → va_E) → Prop} {px : String → (Nat → va_E) → Prop} (a1 : Int32) (hM : ∀ sz, XMV l yX7_end cX7_end 2 rm_X7_end D ca tB tS R ad g sz [.ref (ad 0), .int (a1)] post px) (hE : ∀ E g1, px E g1 → E = xA) : MW l yL_end cL_end 3 [(0, 5, 8, 19)] rm_L_end D ca tB tS R ad g sz [.ref (ad 0), .int (a1)] (wV [(xA, 1)] post px) := by
  refine w_start (by decide +kernel) (Nat.le_of_ble_eq_true rfl) (fun p e s m args below meth c ls Q hsz C hex hl F hw hret => ?_)
  have hl : lv_has ls 3 [(0, .ref (ad 0)), (1, .int (a1))] := hl
  generalize s.heap = H at hw ⊢
  generalize ([] : List Loc) = locs at hw ⊢
  refine lv_aload_n C.1 C.2.1 dL_end_0 rfl (lv_at hl 0 rfl) ?_
  refine lv_iload_n C.1 C.2.1 dL_end_1 rfl (lv_at hl 1 rfl) ?_
  refine k_Xv C F hw (i := 0) (As := [.int (a1)]) (rest := []) (hM _) (by omega) eX rfl (cwV _ C.2.2.2.2 gm_L_15 rfl rfl rfl cd_X7_end ⟨by decide, by decide⟩) hl.1 rfl (Nat.le_of_ble_eq_true rfl) dL_end_2 ⟨by decide, by decide⟩ (fun E ce q9 g1 H locs hp hw hce hcv hcl => ?_) (fun g1 H locs hp hw => ?_)
  · rcases hE E g1 hp with rfl
    · refine ct_w (h := 8) C (by rw [hex]; exact ⟨by decide, by decide, Or.inl ⟨kl_L_19, rfl⟩⟩) hce hcv hcl ?_
      refine lv_astore_n (lv' := [(2, .ref (q9)), (0, .ref (ad 0)), (1, .int (a1))]) C.1 C.2.1 dL_end_8 rfl hl (by decide) rfl (fun ls hl => ?_)
      refine k_icn C 1 dL_end_9 (by decide) ?_
      exact hret H locs ls _ _ _ dL_end_10 hw (Or.inr ⟨_, List.mem_cons_self, hp, rfl⟩)
  · refine lv_goto (tgt := 11) C.1 C.2.1 dL_end_5 (by decide) ?_
    refine k_icn C 0 dL_end_11 (by decide) ?_
    exact hret H locs ls _ _ _ dL_end_12 hw (Or.inl ⟨rfl, hp⟩)

set_option maxRecDepth 20000 in
theorem cw_L_turn : Cond.codeWith yL_turn cL_turn 4 (some .int) [(0, 9, 12, 19)] ∈ GW := gw_in 345 (by rfl) rfl
set_option maxRecDepth 20000 in
theorem st_L_turn : Cond.static yL_turn ∈ GW := gw_in 344 (by rfl) rfl
abbrev rm_L_turn : Room := { frames := 7, cells := 1, slots := 6, locals := 171 }

set_option maxHeartbeats 800000 in
set_option maxRecDepth 100000 in
/-- law's turn -/
theorem c_L_turn {l : Launch} {D : va_G} {ca : Nat → ClassId} {tB tS R : Nat} {ad : Nat → Nat} {g : Nat → va_E} {sz : Nat} (hR : 208 < R) {ob : Nat → Int64} (eO : g 208 = la ca 1 ob) {fs : List Value} (eX : g 0 = .inr (7, fs)) {post : Int32 → (Nat → va_E) → Prop} {px : String → (Nat → va_E) → Prop} (a1 : Int32) (hM : ∀ sz, XMI l yX7_turn cX7_turn 2 .int rm_X7_turn D ca tB tS R ad g sz [.ref (ad 0), .int (a1)] post px) (hE : ∀ E g1, px E g1 → E = xA) (h8 : ∀ r g1, post r g1 → g1 208 = g 208) : MW l yL_turn cL_turn 4 [(0, 9, 12, 19)] rm_L_turn D ca tB tS R ad g sz [.ref (ad 0), .int (a1), .ref (ad 208)] (wI ca ob (fun v => v.toInt64) [(xA, 1)] post px) := by
  refine w_start (by decide +kernel) (Nat.le_of_ble_eq_true rfl) (fun p e s m args below meth c ls Q hsz C hex hl F hw hret => ?_)
  have hl : lv_has ls 4 [(0, .ref (ad 0)), (1, .int (a1)), (2, .ref (ad 208))] := hl
  generalize s.heap = H at hw ⊢
  generalize ([] : List Loc) = locs at hw ⊢
  refine lv_aload_n C.1 C.2.1 dL_turn_0 rfl (lv_at hl 2 rfl) ?_
  refine k_icn C 0 dL_turn_1 (by decide) ?_
  refine lv_aload_n C.1 C.2.1 dL_turn_2 rfl (lv_at hl 0 rfl) ?_
  refine lv_iload_n C.1 C.2.1 dL_turn_3 rfl (lv_at hl 1 rfl) ?_
  refine k_Xi C F hw (i := 0) (As := [.int (a1)]) (rest := [.int (nI 0), .ref (ad 208)]) (hM _) (by omega) eX rfl (cwV _ C.2.2.2.2 gm_L_21 rfl rfl rfl cd_X7_turn ⟨by decide, by decide⟩) hl.1 rfl (Nat.le_of_ble_eq_true rfl) dL_turn_4 ⟨by decide, by decide⟩ (fun E ce q9 g1 H locs hp hw hce hcv hcl => ?_) (fun v g1 H locs hp hw => ?_)
  · rcases hE E g1 hp with rfl
    · refine ct_w (h := 12) C (by rw [hex]; exact ⟨by decide, by decide, Or.inl ⟨kl_L_19, rfl⟩⟩) hce hcv hcl ?_
      refine lv_astore_n (lv' := [(3, .ref (q9)), (0, .ref (ad 0)), (1, .int (a1)), (2, .ref (ad 208))]) C.1 C.2.1 dL_turn_12 rfl hl (by decide) rfl (fun ls hl => ?_)
      refine k_icn C 1 dL_turn_13 (by decide) ?_
      exact hret H locs ls _ _ _ dL_turn_14 hw (Or.inr ⟨_, List.mem_cons_self, hp, rfl⟩)
  · refine lv_i2l C.1 C.2.1 dL_turn_7 rfl ?_
    refine k_last C F hw 208 (by omega) ((h8 _ _ hp).trans eO) 0 ((v).toInt64) (by decide) (by decide) dL_turn_8 (fun H locs hw => ?_)
    refine lv_goto (tgt := 15) C.1 C.2.1 dL_turn_9 (by decide) ?_
    refine k_icn C 0 dL_turn_15 (by decide) ?_
    exact hret H locs ls _ _ _ dL_turn_16 hw (Or.inl ⟨rfl, v, g1, hp, rfl⟩)

set_option maxRecDepth 20000 in
theorem cw_L_block : Cond.codeWith yL_block cL_block 4 (some .int) [(0, 6, 9, 19)] ∈ GW := gw_in 444 (by rfl) rfl
set_option maxRecDepth 20000 in
theorem st_L_block : Cond.static yL_block ∈ GW := gw_in 443 (by rfl) rfl
abbrev rm_L_block : Room := { frames := 7, cells := 1, slots := 6, locals := 173 }

set_option maxHeartbeats 800000 in
set_option maxRecDepth 100000 in
/-- law's block -/
theorem c_L_block {l : Launch} {D : va_G} {ca : Nat → ClassId} {tB tS R : Nat} {ad : Nat → Nat} {g : Nat → va_E} {sz : Nat} (hR : 208 < R) {ob : Nat → Int64} (eO : g 208 = la ca 1 ob) {fs : List Value} (eX : g 0 = .inr (7, fs)) {post : (Nat → va_E) → Prop} {px : String → (Nat → va_E) → Prop} (a1 a2 : Int32) (hM : ∀ sz, XMV l yX7_block cX7_block 4 rm_X7_block D ca tB tS R ad g sz [.ref (ad 0), .int (a1), .int (a2)] post px) (hE : ∀ E g1, px E g1 → E = xA) : MW l yL_block cL_block 4 [(0, 6, 9, 19)] rm_L_block D ca tB tS R ad g sz [.ref (ad 0), .int (a1), .int (a2)] (wV [(xA, 1)] post px) := by
  refine w_start (by decide +kernel) (Nat.le_of_ble_eq_true rfl) (fun p e s m args below meth c ls Q hsz C hex hl F hw hret => ?_)
  have hl : lv_has ls 4 [(0, .ref (ad 0)), (1, .int (a1)), (2, .int (a2))] := hl
  generalize s.heap = H at hw ⊢
  generalize ([] : List Loc) = locs at hw ⊢
  refine lv_aload_n C.1 C.2.1 dL_block_0 rfl (lv_at hl 0 rfl) ?_
  refine lv_iload_n C.1 C.2.1 dL_block_1 rfl (lv_at hl 1 rfl) ?_
  refine lv_iload_n C.1 C.2.1 dL_block_2 rfl (lv_at hl 2 rfl) ?_
  refine k_Xv C F hw (i := 0) (As := [.int (a1), .int (a2)]) (rest := []) (hM _) (by omega) eX rfl (cwV _ C.2.2.2.2 gm_L_25 rfl rfl rfl cd_X7_block ⟨by decide, by decide⟩) hl.1 rfl (Nat.le_of_ble_eq_true rfl) dL_block_3 ⟨by decide, by decide⟩ (fun E ce q9 g1 H locs hp hw hce hcv hcl => ?_) (fun g1 H locs hp hw => ?_)
  · rcases hE E g1 hp with rfl
    · refine ct_w (h := 9) C (by rw [hex]; exact ⟨by decide, by decide, Or.inl ⟨kl_L_19, rfl⟩⟩) hce hcv hcl ?_
      refine lv_astore_n (lv' := [(3, .ref (q9)), (0, .ref (ad 0)), (1, .int (a1)), (2, .int (a2))]) C.1 C.2.1 dL_block_9 rfl hl (by decide) rfl (fun ls hl => ?_)
      refine k_icn C 1 dL_block_10 (by decide) ?_
      exact hret H locs ls _ _ _ dL_block_11 hw (Or.inr ⟨_, List.mem_cons_self, hp, rfl⟩)
  · refine lv_goto (tgt := 12) C.1 C.2.1 dL_block_6 (by decide) ?_
    refine k_icn C 0 dL_block_12 (by decide) ?_
    exact hret H locs ls _ _ _ dL_block_13 hw (Or.inl ⟨rfl, hp⟩)

set_option maxRecDepth 20000 in
theorem cw_L_byteAt : Cond.codeWith yL_byteAt cL_byteAt 5 (some .int) [(0, 10, 13, 33), (0, 10, 17, 35)] ∈ GW := gw_in 473 (by rfl) rfl
set_option maxRecDepth 20000 in
theorem st_L_byteAt : Cond.static yL_byteAt ∈ GW := gw_in 472 (by rfl) rfl
abbrev rm_L_byteAt : Room := { frames := 7, cells := 1, slots := 6, locals := 142 }

set_option maxHeartbeats 800000 in
set_option maxRecDepth 100000 in
/-- law's byteAt -/
theorem c_L_byteAt {l : Launch} {D : va_G} {ca : Nat → ClassId} {tB tS R : Nat} {ad : Nat → Nat} {g : Nat → va_E} {sz : Nat} (hR : 208 < R) {ob : Nat → Int64} (eO : g 208 = la ca 1 ob) {fs : List Value} (eX : g 0 = .inr (7, fs)) {post : Int32 → (Nat → va_E) → Prop} {px : String → (Nat → va_E) → Prop} (a1 a2 : Int32) (hM : ∀ sz, XMI l yX7_byteAt cX7_byteAt 3 .int rm_X7_byteAt D ca tB tS R ad g sz [.ref (ad 0), .int (a1), .int (a2)] post px) (hE : ∀ E g1, px E g1 → E = xI ∨ E = xO) (h8 : ∀ r g1, post r g1 → g1 208 = g 208) : MW l yL_byteAt cL_byteAt 5 [(0, 10, 13, 33), (0, 10, 17, 35)] rm_L_byteAt D ca tB tS R ad g sz [.ref (ad 0), .int (a1), .int (a2), .ref (ad 208)] (wI ca ob (fun v => v.toInt64) [(xI, 1), (xO, 2)] post px) := by
  refine w_start (by decide +kernel) (Nat.le_of_ble_eq_true rfl) (fun p e s m args below meth c ls Q hsz C hex hl F hw hret => ?_)
  have hl : lv_has ls 5 [(0, .ref (ad 0)), (1, .int (a1)), (2, .int (a2)), (3, .ref (ad 208))] := hl
  generalize s.heap = H at hw ⊢
  generalize ([] : List Loc) = locs at hw ⊢
  refine lv_aload_n C.1 C.2.1 dL_byteAt_0 rfl (lv_at hl 3 rfl) ?_
  refine k_icn C 0 dL_byteAt_1 (by decide) ?_
  refine lv_aload_n C.1 C.2.1 dL_byteAt_2 rfl (lv_at hl 0 rfl) ?_
  refine lv_iload_n C.1 C.2.1 dL_byteAt_3 rfl (lv_at hl 1 rfl) ?_
  refine lv_iload_n C.1 C.2.1 dL_byteAt_4 rfl (lv_at hl 2 rfl) ?_
  refine k_Xi C F hw (i := 0) (As := [.int (a1), .int (a2)]) (rest := [.int (nI 0), .ref (ad 208)]) (hM _) (by omega) eX rfl (cwV _ C.2.2.2.2 gm_L_29 rfl rfl rfl cd_X7_byteAt ⟨by decide, by decide⟩) hl.1 rfl (Nat.le_of_ble_eq_true rfl) dL_byteAt_5 ⟨by decide, by decide⟩ (fun E ce q9 g1 H locs hp hw hce hcv hcl => ?_) (fun v g1 H locs hp hw => ?_)
  · rcases hE E g1 hp with rfl | rfl
    · refine ct_w (h := 13) C (by rw [hex]; exact ⟨by decide, by decide, Or.inl ⟨kl_L_33, rfl⟩⟩) hce hcv hcl ?_
      refine lv_astore (lv' := [(4, .ref (q9)), (0, .ref (ad 0)), (1, .int (a1)), (2, .int (a2)), (3, .ref (ad 208))]) C.1 C.2.1 dL_byteAt_13 hl (by decide) rfl (fun ls hl => ?_)
      refine k_icn C 1 dL_byteAt_15 (by decide) ?_
      exact hret H locs ls _ _ _ dL_byteAt_16 hw (Or.inr ⟨_, List.mem_cons_self, hp, rfl⟩)
    · refine ct_w (h := 17) C (by rw [hex]; exact ⟨by decide, by decide, Or.inr ⟨⟨xI, kl_L_33, F.2.1.2.2.2.2.2 (xO, xI) (by decide)⟩, ⟨by decide, by decide, Or.inl ⟨kl_L_35, rfl⟩⟩⟩⟩) hce hcv hcl ?_
      refine lv_astore (lv' := [(4, .ref (q9)), (0, .ref (ad 0)), (1, .int (a1)), (2, .int (a2)), (3, .ref (ad 208))]) C.1 C.2.1 dL_byteAt_17 hl (by decide) rfl (fun ls hl => ?_)
      refine k_icn C 2 dL_byteAt_19 (by decide) ?_
      exact hret H locs ls _ _ _ dL_byteAt_20 hw (Or.inr ⟨_, List.mem_cons_of_mem _ (List.mem_cons_self), hp, rfl⟩)
  · refine lv_i2l C.1 C.2.1 dL_byteAt_8 rfl ?_
    refine k_last C F hw 208 (by omega) ((h8 _ _ hp).trans eO) 0 ((v).toInt64) (by decide) (by decide) dL_byteAt_9 (fun H locs hw => ?_)
    refine lv_goto (tgt := 21) C.1 C.2.1 dL_byteAt_10 (by decide) ?_
    refine k_icn C 0 dL_byteAt_21 (by decide) ?_
    exact hret H locs ls _ _ _ dL_byteAt_22 hw (Or.inl ⟨rfl, v, g1, hp, rfl⟩)

set_option maxRecDepth 20000 in
theorem cw_L_row : Cond.codeWith yL_row cL_row 6 (some .int) [(0, 12, 15, 19), (0, 12, 19, 35)] ∈ GW := gw_in 520 (by rfl) rfl
set_option maxRecDepth 20000 in
theorem st_L_row : Cond.static yL_row ∈ GW := gw_in 519 (by rfl) rfl
abbrev rm_L_row : Room := { frames := 7, cells := 1, slots := 6, locals := 173 }

set_option maxHeartbeats 800000 in
set_option maxRecDepth 100000 in
/-- law's row -/
theorem c_L_row {l : Launch} {D : va_G} {ca : Nat → ClassId} {tB tS R : Nat} {ad : Nat → Nat} {g : Nat → va_E} {sz : Nat} (hR : 208 < R) {ob : Nat → Int64} (eO : g 208 = la ca 1 ob) {fs : List Value} (eX : g 0 = .inr (7, fs)) {post : Int32 → (Nat → va_E) → Prop} {px : String → (Nat → va_E) → Prop} (a1 a2 a3 : Int32) (hM : ∀ sz, XMI l yX7_row cX7_row 4 .int rm_X7_row D ca tB tS R ad g sz [.ref (ad 0), .int (a1), .int (a2), .int (a3)] post px) (hE : ∀ E g1, px E g1 → E = xA ∨ E = xO) (h8 : ∀ r g1, post r g1 → g1 208 = g 208) : MW l yL_row cL_row 6 [(0, 12, 15, 19), (0, 12, 19, 35)] rm_L_row D ca tB tS R ad g sz [.ref (ad 0), .int (a1), .int (a2), .int (a3), .ref (ad 208)] (wI ca ob (fun v => v.toInt64) [(xA, 1), (xO, 2)] post px) := by
  refine w_start (by decide +kernel) (Nat.le_of_ble_eq_true rfl) (fun p e s m args below meth c ls Q hsz C hex hl F hw hret => ?_)
  have hl : lv_has ls 6 [(0, .ref (ad 0)), (1, .int (a1)), (2, .int (a2)), (3, .int (a3)), (4, .ref (ad 208))] := hl
  generalize s.heap = H at hw ⊢
  generalize ([] : List Loc) = locs at hw ⊢
  refine lv_aload C.1 C.2.1 dL_row_0 (lv_at hl 4 rfl) ?_
  refine k_icn C 0 dL_row_2 (by decide) ?_
  refine lv_aload_n C.1 C.2.1 dL_row_3 rfl (lv_at hl 0 rfl) ?_
  refine lv_iload_n C.1 C.2.1 dL_row_4 rfl (lv_at hl 1 rfl) ?_
  refine lv_iload_n C.1 C.2.1 dL_row_5 rfl (lv_at hl 2 rfl) ?_
  refine lv_iload_n C.1 C.2.1 dL_row_6 rfl (lv_at hl 3 rfl) ?_
  refine k_Xi C F hw (i := 0) (As := [.int (a1), .int (a2), .int (a3)]) (rest := [.int (nI 0), .ref (ad 208)]) (hM _) (by omega) eX rfl (cwV _ C.2.2.2.2 gm_L_37 rfl rfl rfl cd_X7_row ⟨by decide, by decide⟩) hl.1 rfl (Nat.le_of_ble_eq_true rfl) dL_row_7 ⟨by decide, by decide⟩ (fun E ce q9 g1 H locs hp hw hce hcv hcl => ?_) (fun v g1 H locs hp hw => ?_)
  · rcases hE E g1 hp with rfl | rfl
    · refine ct_w (h := 15) C (by rw [hex]; exact ⟨by decide, by decide, Or.inl ⟨kl_L_19, rfl⟩⟩) hce hcv hcl ?_
      refine lv_astore (lv' := [(5, .ref (q9)), (0, .ref (ad 0)), (1, .int (a1)), (2, .int (a2)), (3, .int (a3)), (4, .ref (ad 208))]) C.1 C.2.1 dL_row_15 hl (by decide) rfl (fun ls hl => ?_)
      refine k_icn C 1 dL_row_17 (by decide) ?_
      exact hret H locs ls _ _ _ dL_row_18 hw (Or.inr ⟨_, List.mem_cons_self, hp, rfl⟩)
    · refine ct_w (h := 19) C (by rw [hex]; exact ⟨by decide, by decide, Or.inr ⟨⟨xA, kl_L_19, F.2.1.2.2.2.2.2 (xO, xA) (by decide)⟩, ⟨by decide, by decide, Or.inl ⟨kl_L_35, rfl⟩⟩⟩⟩) hce hcv hcl ?_
      refine lv_astore (lv' := [(5, .ref (q9)), (0, .ref (ad 0)), (1, .int (a1)), (2, .int (a2)), (3, .int (a3)), (4, .ref (ad 208))]) C.1 C.2.1 dL_row_19 hl (by decide) rfl (fun ls hl => ?_)
      refine k_icn C 2 dL_row_21 (by decide) ?_
      exact hret H locs ls _ _ _ dL_row_22 hw (Or.inr ⟨_, List.mem_cons_of_mem _ (List.mem_cons_self), hp, rfl⟩)
  · refine lv_i2l C.1 C.2.1 dL_row_10 rfl ?_
    refine k_last C F hw 208 (by omega) ((h8 _ _ hp).trans eO) 0 ((v).toInt64) (by decide) (by decide) dL_row_11 (fun H locs hw => ?_)
    refine lv_goto (tgt := 23) C.1 C.2.1 dL_row_12 (by decide) ?_
    refine k_icn C 0 dL_row_23 (by decide) ?_
    exact hret H locs ls _ _ _ dL_row_24 hw (Or.inl ⟨rfl, v, g1, hp, rfl⟩)

set_option maxRecDepth 20000 in
theorem cw_L_open : Cond.codeWith yL_open cL_open 4 (some .int) [(0, 6, 9, 19)] ∈ GW := gw_in 534 (by rfl) rfl
set_option maxRecDepth 20000 in
theorem st_L_open : Cond.static yL_open ∈ GW := gw_in 533 (by rfl) rfl
abbrev rm_L_open : Room := { frames := 7, cells := 1, slots := 6, locals := 172 }

set_option maxHeartbeats 800000 in
set_option maxRecDepth 100000 in
/-- law's open -/
theorem c_L_open {l : Launch} {D : va_G} {ca : Nat → ClassId} {tB tS R : Nat} {ad : Nat → Nat} {g : Nat → va_E} {sz : Nat} (hR : 208 < R) {ob : Nat → Int64} (eO : g 208 = la ca 1 ob) {fs : List Value} (eX : g 0 = .inr (7, fs)) {post : (Nat → va_E) → Prop} {px : String → (Nat → va_E) → Prop} (a1 a2 : Int32) (hM : ∀ sz, XMV l yX7_open cX7_open 3 rm_X7_open D ca tB tS R ad g sz [.ref (ad 0), .int (a1), .int (a2)] post px) (hE : ∀ E g1, px E g1 → E = xA) : MW l yL_open cL_open 4 [(0, 6, 9, 19)] rm_L_open D ca tB tS R ad g sz [.ref (ad 0), .int (a1), .int (a2)] (wV [(xA, 1)] post px) := by
  refine w_start (by decide +kernel) (Nat.le_of_ble_eq_true rfl) (fun p e s m args below meth c ls Q hsz C hex hl F hw hret => ?_)
  have hl : lv_has ls 4 [(0, .ref (ad 0)), (1, .int (a1)), (2, .int (a2))] := hl
  generalize s.heap = H at hw ⊢
  generalize ([] : List Loc) = locs at hw ⊢
  refine lv_aload_n C.1 C.2.1 dL_open_0 rfl (lv_at hl 0 rfl) ?_
  refine lv_iload_n C.1 C.2.1 dL_open_1 rfl (lv_at hl 1 rfl) ?_
  refine lv_iload_n C.1 C.2.1 dL_open_2 rfl (lv_at hl 2 rfl) ?_
  refine k_Xv C F hw (i := 0) (As := [.int (a1), .int (a2)]) (rest := []) (hM _) (by omega) eX rfl (cwV _ C.2.2.2.2 gm_L_41 rfl rfl rfl cd_X7_open ⟨by decide, by decide⟩) hl.1 rfl (Nat.le_of_ble_eq_true rfl) dL_open_3 ⟨by decide, by decide⟩ (fun E ce q9 g1 H locs hp hw hce hcv hcl => ?_) (fun g1 H locs hp hw => ?_)
  · rcases hE E g1 hp with rfl
    · refine ct_w (h := 9) C (by rw [hex]; exact ⟨by decide, by decide, Or.inl ⟨kl_L_19, rfl⟩⟩) hce hcv hcl ?_
      refine lv_astore_n (lv' := [(3, .ref (q9)), (0, .ref (ad 0)), (1, .int (a1)), (2, .int (a2))]) C.1 C.2.1 dL_open_9 rfl hl (by decide) rfl (fun ls hl => ?_)
      refine k_icn C 1 dL_open_10 (by decide) ?_
      exact hret H locs ls _ _ _ dL_open_11 hw (Or.inr ⟨_, List.mem_cons_self, hp, rfl⟩)
  · refine lv_goto (tgt := 12) C.1 C.2.1 dL_open_6 (by decide) ?_
    refine k_icn C 0 dL_open_12 (by decide) ?_
    exact hret H locs ls _ _ _ dL_open_13 hw (Or.inl ⟨rfl, hp⟩)

set_option maxRecDepth 20000 in
theorem cw_L_take : Cond.codeWith yL_take cL_take 4 (some .int) [(0, 16, 19, 33), (0, 16, 22, 35), (0, 16, 25, 13)] ∈ GW := gw_in 546 (by rfl) rfl
set_option maxRecDepth 20000 in
theorem st_L_take : Cond.static yL_take ∈ GW := gw_in 545 (by rfl) rfl
abbrev rm_L_take : Room := { frames := 7, cells := 1, slots := 6, locals := 147 }

set_option maxHeartbeats 800000 in
set_option maxRecDepth 100000 in
/-- law's take -/
theorem c_L_take {l : Launch} {D : va_G} {ca : Nat → ClassId} {tB tS R : Nat} {ad : Nat → Nat} {g : Nat → va_E} {sz : Nat} (hR : 208 < R) {ob : Nat → Int64} (eO : g 208 = la ca 1 ob) {fs : List Value} (eX : g 0 = .inr (7, fs)) {post : Int32 → (Nat → va_E) → Prop} {px : String → (Nat → va_E) → Prop} (a1 : Int32) (hM : ∀ sz, XMI l yX7_take cX7_take 3 .boolean rm_X7_take D ca tB tS R ad g sz [.ref (ad 0), .int (a1)] post px) (hE : ∀ E g1, px E g1 → E = xI ∨ E = xO ∨ E = xU) (h8 : ∀ r g1, post r g1 → g1 208 = g 208) : MW l yL_take cL_take 4 [(0, 16, 19, 33), (0, 16, 22, 35), (0, 16, 25, 13)] rm_L_take D ca tB tS R ad g sz [.ref (ad 0), .int (a1), .ref (ad 208)] (wI ca ob (fun v => if v = 0 then 0 else 1) [(xI, 1), (xO, 2), (xU, 3)] post px) := by
  refine w_start (by decide +kernel) (Nat.le_of_ble_eq_true rfl) (fun p e s m args below meth c ls Q hsz C hex hl F hw hret => ?_)
  have hl : lv_has ls 4 [(0, .ref (ad 0)), (1, .int (a1)), (2, .ref (ad 208))] := hl
  generalize s.heap = H at hw ⊢
  generalize ([] : List Loc) = locs at hw ⊢
  refine lv_aload_n C.1 C.2.1 dL_take_0 rfl (lv_at hl 2 rfl) ?_
  refine k_icn C 0 dL_take_1 (by decide) ?_
  refine lv_aload_n C.1 C.2.1 dL_take_2 rfl (lv_at hl 0 rfl) ?_
  refine lv_iload_n C.1 C.2.1 dL_take_3 rfl (lv_at hl 1 rfl) ?_
  refine k_Xi C F hw (i := 0) (As := [.int (a1)]) (rest := [.int (nI 0), .ref (ad 208)]) (hM _) (by omega) eX rfl (cwV _ C.2.2.2.2 gm_L_44 rfl rfl rfl cd_X7_take ⟨by decide, by decide⟩) hl.1 rfl (Nat.le_of_ble_eq_true rfl) dL_take_4 ⟨by decide, by decide⟩ (fun E ce q9 g1 H locs hp hw hce hcv hcl => ?_) (fun v g1 H locs hp hw => ?_)
  · rcases hE E g1 hp with rfl | rfl | rfl
    · refine ct_w (h := 19) C (by rw [hex]; exact ⟨by decide, by decide, Or.inl ⟨kl_L_33, rfl⟩⟩) hce hcv hcl ?_
      refine lv_astore_n (lv' := [(3, .ref (q9)), (0, .ref (ad 0)), (1, .int (a1)), (2, .ref (ad 208))]) C.1 C.2.1 dL_take_19 rfl hl (by decide) rfl (fun ls hl => ?_)
      refine k_icn C 1 dL_take_20 (by decide) ?_
      exact hret H locs ls _ _ _ dL_take_21 hw (Or.inr ⟨_, List.mem_cons_self, hp, rfl⟩)
    · refine ct_w (h := 22) C (by rw [hex]; exact ⟨by decide, by decide, Or.inr ⟨⟨xI, kl_L_33, F.2.1.2.2.2.2.2 (xO, xI) (by decide)⟩, ⟨by decide, by decide, Or.inl ⟨kl_L_35, rfl⟩⟩⟩⟩) hce hcv hcl ?_
      refine lv_astore_n (lv' := [(3, .ref (q9)), (0, .ref (ad 0)), (1, .int (a1)), (2, .ref (ad 208))]) C.1 C.2.1 dL_take_22 rfl hl (by decide) rfl (fun ls hl => ?_)
      refine k_icn C 2 dL_take_23 (by decide) ?_
      exact hret H locs ls _ _ _ dL_take_24 hw (Or.inr ⟨_, List.mem_cons_of_mem _ (List.mem_cons_self), hp, rfl⟩)
    · refine ct_w (h := 25) C (by rw [hex]; exact ⟨by decide, by decide, Or.inr ⟨⟨xI, kl_L_33, F.2.1.2.2.2.2.2 (xU, xI) (by decide)⟩, ⟨by decide, by decide, Or.inr ⟨⟨xO, kl_L_35, F.2.1.2.2.2.2.2 (xU, xO) (by decide)⟩, ⟨by decide, by decide, Or.inl ⟨kl_L_13, rfl⟩⟩⟩⟩⟩⟩) hce hcv hcl ?_
      refine lv_astore_n (lv' := [(3, .ref (q9)), (0, .ref (ad 0)), (1, .int (a1)), (2, .ref (ad 208))]) C.1 C.2.1 dL_take_25 rfl hl (by decide) rfl (fun ls hl => ?_)
      refine k_icn C 3 dL_take_26 (by decide) ?_
      exact hret H locs ls _ _ _ dL_take_27 hw (Or.inr ⟨_, List.mem_cons_of_mem _ (List.mem_cons_of_mem _ (List.mem_cons_self)), hp, rfl⟩)
  · refine lv_if_eq (tgt := 14) C.1 C.2.1 dL_take_7 (by decide) (fun hc7 => ?_) (fun hc7 => ?_)
    · refine lv_lconst (v := 0) C.1 C.2.1 dL_take_14 (by decide) ?_
      refine k_last C F hw 208 (by omega) ((h8 _ _ hp).trans eO) 0 (0) (by decide) (by decide) dL_take_15 (fun H locs hw => ?_)
      refine lv_goto (tgt := 28) C.1 C.2.1 dL_take_16 (by decide) ?_
      refine k_icn C 0 dL_take_28 (by decide) ?_
      exact hret H locs ls _ _ _ dL_take_29 hw (Or.inl ⟨rfl, v, g1, hp, by show _ = va_up g1 208 (la ca 1 (vp_updL ob 0 (if v = 0 then 0 else 1))); rw [if_pos hc7]⟩)
    · refine lv_lconst (v := 1) C.1 C.2.1 dL_take_10 (by decide) ?_
      refine lv_goto (tgt := 15) C.1 C.2.1 dL_take_11 (by decide) ?_
      refine k_last C F hw 208 (by omega) ((h8 _ _ hp).trans eO) 0 (1) (by decide) (by decide) dL_take_15 (fun H locs hw => ?_)
      refine lv_goto (tgt := 28) C.1 C.2.1 dL_take_16 (by decide) ?_
      refine k_icn C 0 dL_take_28 (by decide) ?_
      exact hret H locs ls _ _ _ dL_take_29 hw (Or.inl ⟨rfl, v, g1, hp, by show _ = va_up g1 208 (la ca 1 (vp_updL ob 0 (if v = 0 then 0 else 1))); rw [if_neg hc7]⟩)

set_option maxRecDepth 20000 in
theorem cw_L_takeAll : Cond.codeWith yL_takeAll cL_takeAll 6 (some .int) [(0, 12, 15, 33), (0, 12, 19, 35), (0, 12, 23, 19)] ∈ GW := gw_in 566 (by rfl) rfl
set_option maxRecDepth 20000 in
theorem st_L_takeAll : Cond.static yL_takeAll ∈ GW := gw_in 565 (by rfl) rfl
abbrev rm_L_takeAll : Room := { frames := 7, cells := 1, slots := 6, locals := 157 }

set_option maxHeartbeats 800000 in
set_option maxRecDepth 100000 in
/-- law's takeAll -/
theorem c_L_takeAll {l : Launch} {D : va_G} {ca : Nat → ClassId} {tB tS R : Nat} {ad : Nat → Nat} {g : Nat → va_E} {sz : Nat} (hR : 208 < R) {ob : Nat → Int64} (eO : g 208 = la ca 1 ob) {fs : List Value} (eX : g 0 = .inr (7, fs)) {post : Int32 → (Nat → va_E) → Prop} {px : String → (Nat → va_E) → Prop} (a1 a2 a3 : Int32) (hM : ∀ sz, XMI l yX7_takeAll cX7_takeAll 8 .int rm_X7_takeAll D ca tB tS R ad g sz [.ref (ad 0), .int (a1), .int (a2), .int (a3)] post px) (hE : ∀ E g1, px E g1 → E = xI ∨ E = xO ∨ E = xA) (h8 : ∀ r g1, post r g1 → g1 208 = g 208) : MW l yL_takeAll cL_takeAll 6 [(0, 12, 15, 33), (0, 12, 19, 35), (0, 12, 23, 19)] rm_L_takeAll D ca tB tS R ad g sz [.ref (ad 0), .int (a1), .int (a2), .int (a3), .ref (ad 208)] (wI ca ob (fun v => v.toInt64) [(xI, 1), (xO, 2), (xA, 3)] post px) := by
  refine w_start (by decide +kernel) (Nat.le_of_ble_eq_true rfl) (fun p e s m args below meth c ls Q hsz C hex hl F hw hret => ?_)
  have hl : lv_has ls 6 [(0, .ref (ad 0)), (1, .int (a1)), (2, .int (a2)), (3, .int (a3)), (4, .ref (ad 208))] := hl
  generalize s.heap = H at hw ⊢
  generalize ([] : List Loc) = locs at hw ⊢
  refine lv_aload C.1 C.2.1 dL_takeAll_0 (lv_at hl 4 rfl) ?_
  refine k_icn C 0 dL_takeAll_2 (by decide) ?_
  refine lv_aload_n C.1 C.2.1 dL_takeAll_3 rfl (lv_at hl 0 rfl) ?_
  refine lv_iload_n C.1 C.2.1 dL_takeAll_4 rfl (lv_at hl 1 rfl) ?_
  refine lv_iload_n C.1 C.2.1 dL_takeAll_5 rfl (lv_at hl 2 rfl) ?_
  refine lv_iload_n C.1 C.2.1 dL_takeAll_6 rfl (lv_at hl 3 rfl) ?_
  refine k_Xi C F hw (i := 0) (As := [.int (a1), .int (a2), .int (a3)]) (rest := [.int (nI 0), .ref (ad 208)]) (hM _) (by omega) eX rfl (cwV _ C.2.2.2.2 gm_L_48 rfl rfl rfl cd_X7_takeAll ⟨by decide, by decide⟩) hl.1 rfl (Nat.le_of_ble_eq_true rfl) dL_takeAll_7 ⟨by decide, by decide⟩ (fun E ce q9 g1 H locs hp hw hce hcv hcl => ?_) (fun v g1 H locs hp hw => ?_)
  · rcases hE E g1 hp with rfl | rfl | rfl
    · refine ct_w (h := 15) C (by rw [hex]; exact ⟨by decide, by decide, Or.inl ⟨kl_L_33, rfl⟩⟩) hce hcv hcl ?_
      refine lv_astore (lv' := [(5, .ref (q9)), (0, .ref (ad 0)), (1, .int (a1)), (2, .int (a2)), (3, .int (a3)), (4, .ref (ad 208))]) C.1 C.2.1 dL_takeAll_15 hl (by decide) rfl (fun ls hl => ?_)
      refine k_icn C 1 dL_takeAll_17 (by decide) ?_
      exact hret H locs ls _ _ _ dL_takeAll_18 hw (Or.inr ⟨_, List.mem_cons_self, hp, rfl⟩)
    · refine ct_w (h := 19) C (by rw [hex]; exact ⟨by decide, by decide, Or.inr ⟨⟨xI, kl_L_33, F.2.1.2.2.2.2.2 (xO, xI) (by decide)⟩, ⟨by decide, by decide, Or.inl ⟨kl_L_35, rfl⟩⟩⟩⟩) hce hcv hcl ?_
      refine lv_astore (lv' := [(5, .ref (q9)), (0, .ref (ad 0)), (1, .int (a1)), (2, .int (a2)), (3, .int (a3)), (4, .ref (ad 208))]) C.1 C.2.1 dL_takeAll_19 hl (by decide) rfl (fun ls hl => ?_)
      refine k_icn C 2 dL_takeAll_21 (by decide) ?_
      exact hret H locs ls _ _ _ dL_takeAll_22 hw (Or.inr ⟨_, List.mem_cons_of_mem _ (List.mem_cons_self), hp, rfl⟩)
    · refine ct_w (h := 23) C (by rw [hex]; exact ⟨by decide, by decide, Or.inr ⟨⟨xI, kl_L_33, F.2.1.2.2.2.2.2 (xA, xI) (by decide)⟩, ⟨by decide, by decide, Or.inr ⟨⟨xO, kl_L_35, F.2.1.2.2.2.2.2 (xA, xO) (by decide)⟩, ⟨by decide, by decide, Or.inl ⟨kl_L_19, rfl⟩⟩⟩⟩⟩⟩) hce hcv hcl ?_
      refine lv_astore (lv' := [(5, .ref (q9)), (0, .ref (ad 0)), (1, .int (a1)), (2, .int (a2)), (3, .int (a3)), (4, .ref (ad 208))]) C.1 C.2.1 dL_takeAll_23 hl (by decide) rfl (fun ls hl => ?_)
      refine k_icn C 3 dL_takeAll_25 (by decide) ?_
      exact hret H locs ls _ _ _ dL_takeAll_26 hw (Or.inr ⟨_, List.mem_cons_of_mem _ (List.mem_cons_of_mem _ (List.mem_cons_self)), hp, rfl⟩)
  · refine lv_i2l C.1 C.2.1 dL_takeAll_10 rfl ?_
    refine k_last C F hw 208 (by omega) ((h8 _ _ hp).trans eO) 0 ((v).toInt64) (by decide) (by decide) dL_takeAll_11 (fun H locs hw => ?_)
    refine lv_goto (tgt := 27) C.1 C.2.1 dL_takeAll_12 (by decide) ?_
    refine k_icn C 0 dL_takeAll_27 (by decide) ?_
    exact hret H locs ls _ _ _ dL_takeAll_28 hw (Or.inl ⟨rfl, v, g1, hp, rfl⟩)

set_option maxRecDepth 20000 in
theorem cw_L_give : Cond.codeWith yL_give cL_give 4 (some .int) [(0, 16, 19, 33), (0, 16, 22, 35), (0, 16, 25, 19), (0, 16, 28, 13)] ∈ GW := gw_in 576 (by rfl) rfl
set_option maxRecDepth 20000 in
theorem st_L_give : Cond.static yL_give ∈ GW := gw_in 575 (by rfl) rfl
abbrev rm_L_give : Room := { frames := 7, cells := 1, slots := 6, locals := 147 }

set_option maxHeartbeats 800000 in
set_option maxRecDepth 100000 in
/-- law's give -/
theorem c_L_give {l : Launch} {D : va_G} {ca : Nat → ClassId} {tB tS R : Nat} {ad : Nat → Nat} {g : Nat → va_E} {sz : Nat} (hR : 208 < R) {ob : Nat → Int64} (eO : g 208 = la ca 1 ob) {fs : List Value} (eX : g 0 = .inr (7, fs)) {post : Int32 → (Nat → va_E) → Prop} {px : String → (Nat → va_E) → Prop} (a1 : Int32) (hM : ∀ sz, XMI l yX7_give cX7_give 3 .boolean rm_X7_give D ca tB tS R ad g sz [.ref (ad 0), .int (a1)] post px) (hE : ∀ E g1, px E g1 → E = xI ∨ E = xO ∨ E = xA ∨ E = xU) (h8 : ∀ r g1, post r g1 → g1 208 = g 208) : MW l yL_give cL_give 4 [(0, 16, 19, 33), (0, 16, 22, 35), (0, 16, 25, 19), (0, 16, 28, 13)] rm_L_give D ca tB tS R ad g sz [.ref (ad 0), .int (a1), .ref (ad 208)] (wI ca ob (fun v => if v = 0 then 0 else 1) [(xI, 1), (xO, 2), (xA, 3), (xU, 4)] post px) := by
  refine w_start (by decide +kernel) (Nat.le_of_ble_eq_true rfl) (fun p e s m args below meth c ls Q hsz C hex hl F hw hret => ?_)
  have hl : lv_has ls 4 [(0, .ref (ad 0)), (1, .int (a1)), (2, .ref (ad 208))] := hl
  generalize s.heap = H at hw ⊢
  generalize ([] : List Loc) = locs at hw ⊢
  refine lv_aload_n C.1 C.2.1 dL_give_0 rfl (lv_at hl 2 rfl) ?_
  refine k_icn C 0 dL_give_1 (by decide) ?_
  refine lv_aload_n C.1 C.2.1 dL_give_2 rfl (lv_at hl 0 rfl) ?_
  refine lv_iload_n C.1 C.2.1 dL_give_3 rfl (lv_at hl 1 rfl) ?_
  refine k_Xi C F hw (i := 0) (As := [.int (a1)]) (rest := [.int (nI 0), .ref (ad 208)]) (hM _) (by omega) eX rfl (cwV _ C.2.2.2.2 gm_L_52 rfl rfl rfl cd_X7_give ⟨by decide, by decide⟩) hl.1 rfl (Nat.le_of_ble_eq_true rfl) dL_give_4 ⟨by decide, by decide⟩ (fun E ce q9 g1 H locs hp hw hce hcv hcl => ?_) (fun v g1 H locs hp hw => ?_)
  · rcases hE E g1 hp with rfl | rfl | rfl | rfl
    · refine ct_w (h := 19) C (by rw [hex]; exact ⟨by decide, by decide, Or.inl ⟨kl_L_33, rfl⟩⟩) hce hcv hcl ?_
      refine lv_astore_n (lv' := [(3, .ref (q9)), (0, .ref (ad 0)), (1, .int (a1)), (2, .ref (ad 208))]) C.1 C.2.1 dL_give_19 rfl hl (by decide) rfl (fun ls hl => ?_)
      refine k_icn C 1 dL_give_20 (by decide) ?_
      exact hret H locs ls _ _ _ dL_give_21 hw (Or.inr ⟨_, List.mem_cons_self, hp, rfl⟩)
    · refine ct_w (h := 22) C (by rw [hex]; exact ⟨by decide, by decide, Or.inr ⟨⟨xI, kl_L_33, F.2.1.2.2.2.2.2 (xO, xI) (by decide)⟩, ⟨by decide, by decide, Or.inl ⟨kl_L_35, rfl⟩⟩⟩⟩) hce hcv hcl ?_
      refine lv_astore_n (lv' := [(3, .ref (q9)), (0, .ref (ad 0)), (1, .int (a1)), (2, .ref (ad 208))]) C.1 C.2.1 dL_give_22 rfl hl (by decide) rfl (fun ls hl => ?_)
      refine k_icn C 2 dL_give_23 (by decide) ?_
      exact hret H locs ls _ _ _ dL_give_24 hw (Or.inr ⟨_, List.mem_cons_of_mem _ (List.mem_cons_self), hp, rfl⟩)
    · refine ct_w (h := 25) C (by rw [hex]; exact ⟨by decide, by decide, Or.inr ⟨⟨xI, kl_L_33, F.2.1.2.2.2.2.2 (xA, xI) (by decide)⟩, ⟨by decide, by decide, Or.inr ⟨⟨xO, kl_L_35, F.2.1.2.2.2.2.2 (xA, xO) (by decide)⟩, ⟨by decide, by decide, Or.inl ⟨kl_L_19, rfl⟩⟩⟩⟩⟩⟩) hce hcv hcl ?_
      refine lv_astore_n (lv' := [(3, .ref (q9)), (0, .ref (ad 0)), (1, .int (a1)), (2, .ref (ad 208))]) C.1 C.2.1 dL_give_25 rfl hl (by decide) rfl (fun ls hl => ?_)
      refine k_icn C 3 dL_give_26 (by decide) ?_
      exact hret H locs ls _ _ _ dL_give_27 hw (Or.inr ⟨_, List.mem_cons_of_mem _ (List.mem_cons_of_mem _ (List.mem_cons_self)), hp, rfl⟩)
    · refine ct_w (h := 28) C (by rw [hex]; exact ⟨by decide, by decide, Or.inr ⟨⟨xI, kl_L_33, F.2.1.2.2.2.2.2 (xU, xI) (by decide)⟩, ⟨by decide, by decide, Or.inr ⟨⟨xO, kl_L_35, F.2.1.2.2.2.2.2 (xU, xO) (by decide)⟩, ⟨by decide, by decide, Or.inr ⟨⟨xA, kl_L_19, F.2.1.2.2.2.2.2 (xU, xA) (by decide)⟩, ⟨by decide, by decide, Or.inl ⟨kl_L_13, rfl⟩⟩⟩⟩⟩⟩⟩⟩) hce hcv hcl ?_
      refine lv_astore_n (lv' := [(3, .ref (q9)), (0, .ref (ad 0)), (1, .int (a1)), (2, .ref (ad 208))]) C.1 C.2.1 dL_give_28 rfl hl (by decide) rfl (fun ls hl => ?_)
      refine k_icn C 4 dL_give_29 (by decide) ?_
      exact hret H locs ls _ _ _ dL_give_30 hw (Or.inr ⟨_, List.mem_cons_of_mem _ (List.mem_cons_of_mem _ (List.mem_cons_of_mem _ (List.mem_cons_self))), hp, rfl⟩)
  · refine lv_if_eq (tgt := 14) C.1 C.2.1 dL_give_7 (by decide) (fun hc7 => ?_) (fun hc7 => ?_)
    · refine lv_lconst (v := 0) C.1 C.2.1 dL_give_14 (by decide) ?_
      refine k_last C F hw 208 (by omega) ((h8 _ _ hp).trans eO) 0 (0) (by decide) (by decide) dL_give_15 (fun H locs hw => ?_)
      refine lv_goto (tgt := 31) C.1 C.2.1 dL_give_16 (by decide) ?_
      refine k_icn C 0 dL_give_31 (by decide) ?_
      exact hret H locs ls _ _ _ dL_give_32 hw (Or.inl ⟨rfl, v, g1, hp, by show _ = va_up g1 208 (la ca 1 (vp_updL ob 0 (if v = 0 then 0 else 1))); rw [if_pos hc7]⟩)
    · refine lv_lconst (v := 1) C.1 C.2.1 dL_give_10 (by decide) ?_
      refine lv_goto (tgt := 15) C.1 C.2.1 dL_give_11 (by decide) ?_
      refine k_last C F hw 208 (by omega) ((h8 _ _ hp).trans eO) 0 (1) (by decide) (by decide) dL_give_15 (fun H locs hw => ?_)
      refine lv_goto (tgt := 31) C.1 C.2.1 dL_give_16 (by decide) ?_
      refine k_icn C 0 dL_give_31 (by decide) ?_
      exact hret H locs ls _ _ _ dL_give_32 hw (Or.inl ⟨rfl, v, g1, hp, by show _ = va_up g1 208 (la ca 1 (vp_updL ob 0 (if v = 0 then 0 else 1))); rw [if_neg hc7]⟩)

set_option maxRecDepth 20000 in
theorem cw_L_rank : Cond.codeWith yL_rank cL_rank 3 (some .int) [(0, 8, 11, 33)] ∈ GW := gw_in 587 (by rfl) rfl
set_option maxRecDepth 20000 in
theorem st_L_rank : Cond.static yL_rank ∈ GW := gw_in 586 (by rfl) rfl
abbrev rm_L_rank : Room := { frames := 7, cells := 1, slots := 6, locals := 110 }

set_option maxHeartbeats 800000 in
set_option maxRecDepth 100000 in
/-- law's rank -/
theorem c_L_rank {l : Launch} {D : va_G} {ca : Nat → ClassId} {tB tS R : Nat} {ad : Nat → Nat} {g : Nat → va_E} {sz : Nat} (hR : 208 < R) {ob : Nat → Int64} (eO : g 208 = la ca 1 ob) {fs : List Value} (eX : g 0 = .inr (7, fs)) {post : Int32 → (Nat → va_E) → Prop} {px : String → (Nat → va_E) → Prop} (hM : ∀ sz, XMI l yX7_rank cX7_rank 1 .int rm_X7_rank D ca tB tS R ad g sz [.ref (ad 0)] post px) (hE : ∀ E g1, px E g1 → E = xI) (h8 : ∀ r g1, post r g1 → g1 208 = g 208) : MW l yL_rank cL_rank 3 [(0, 8, 11, 33)] rm_L_rank D ca tB tS R ad g sz [.ref (ad 0), .ref (ad 208)] (wI ca ob (fun v => v.toInt64) [(xI, 1)] post px) := by
  refine w_start (by decide +kernel) (Nat.le_of_ble_eq_true rfl) (fun p e s m args below meth c ls Q hsz C hex hl F hw hret => ?_)
  have hl : lv_has ls 3 [(0, .ref (ad 0)), (1, .ref (ad 208))] := hl
  generalize s.heap = H at hw ⊢
  generalize ([] : List Loc) = locs at hw ⊢
  refine lv_aload_n C.1 C.2.1 dL_rank_0 rfl (lv_at hl 1 rfl) ?_
  refine k_icn C 0 dL_rank_1 (by decide) ?_
  refine lv_aload_n C.1 C.2.1 dL_rank_2 rfl (lv_at hl 0 rfl) ?_
  refine k_Xi C F hw (i := 0) (As := []) (rest := [.int (nI 0), .ref (ad 208)]) (hM _) (by omega) eX rfl (cwV _ C.2.2.2.2 gm_L_55 rfl rfl rfl cd_X7_rank ⟨by decide, by decide⟩) hl.1 rfl (Nat.le_of_ble_eq_true rfl) dL_rank_3 ⟨by decide, by decide⟩ (fun E ce q9 g1 H locs hp hw hce hcv hcl => ?_) (fun v g1 H locs hp hw => ?_)
  · rcases hE E g1 hp with rfl
    · refine ct_w (h := 11) C (by rw [hex]; exact ⟨by decide, by decide, Or.inl ⟨kl_L_33, rfl⟩⟩) hce hcv hcl ?_
      refine lv_astore_n (lv' := [(2, .ref (q9)), (0, .ref (ad 0)), (1, .ref (ad 208))]) C.1 C.2.1 dL_rank_11 rfl hl (by decide) rfl (fun ls hl => ?_)
      refine k_icn C 1 dL_rank_12 (by decide) ?_
      exact hret H locs ls _ _ _ dL_rank_13 hw (Or.inr ⟨_, List.mem_cons_self, hp, rfl⟩)
  · refine lv_i2l C.1 C.2.1 dL_rank_6 rfl ?_
    refine k_last C F hw 208 (by omega) ((h8 _ _ hp).trans eO) 0 ((v).toInt64) (by decide) (by decide) dL_rank_7 (fun H locs hw => ?_)
    refine lv_goto (tgt := 14) C.1 C.2.1 dL_rank_8 (by decide) ?_
    refine k_icn C 0 dL_rank_14 (by decide) ?_
    exact hret H locs ls _ _ _ dL_rank_15 hw (Or.inl ⟨rfl, v, g1, hp, rfl⟩)

set_option maxRecDepth 20000 in
theorem cw_L_follows : Cond.codeWith yL_follows cL_follows 4 (some .int) [(0, 16, 19, 33), (0, 16, 22, 35)] ∈ GW := gw_in 594 (by rfl) rfl
set_option maxRecDepth 20000 in
theorem st_L_follows : Cond.static yL_follows ∈ GW := gw_in 593 (by rfl) rfl
abbrev rm_L_follows : Room := { frames := 7, cells := 1, slots := 6, locals := 146 }

set_option maxHeartbeats 800000 in
set_option maxRecDepth 100000 in
/-- law's follows -/
theorem c_L_follows {l : Launch} {D : va_G} {ca : Nat → ClassId} {tB tS R : Nat} {ad : Nat → Nat} {g : Nat → va_E} {sz : Nat} (hR : 208 < R) {ob : Nat → Int64} (eO : g 208 = la ca 1 ob) {fs : List Value} (eX : g 0 = .inr (7, fs)) {post : Int32 → (Nat → va_E) → Prop} {px : String → (Nat → va_E) → Prop} (a1 : Int32) (hM : ∀ sz, XMI l yX7_follows cX7_follows 2 .boolean rm_X7_follows D ca tB tS R ad g sz [.ref (ad 0), .int (a1)] post px) (hE : ∀ E g1, px E g1 → E = xI ∨ E = xO) (h8 : ∀ r g1, post r g1 → g1 208 = g 208) : MW l yL_follows cL_follows 4 [(0, 16, 19, 33), (0, 16, 22, 35)] rm_L_follows D ca tB tS R ad g sz [.ref (ad 0), .int (a1), .ref (ad 208)] (wI ca ob (fun v => if v = 0 then 0 else 1) [(xI, 1), (xO, 2)] post px) := by
  refine w_start (by decide +kernel) (Nat.le_of_ble_eq_true rfl) (fun p e s m args below meth c ls Q hsz C hex hl F hw hret => ?_)
  have hl : lv_has ls 4 [(0, .ref (ad 0)), (1, .int (a1)), (2, .ref (ad 208))] := hl
  generalize s.heap = H at hw ⊢
  generalize ([] : List Loc) = locs at hw ⊢
  refine lv_aload_n C.1 C.2.1 dL_follows_0 rfl (lv_at hl 2 rfl) ?_
  refine k_icn C 0 dL_follows_1 (by decide) ?_
  refine lv_aload_n C.1 C.2.1 dL_follows_2 rfl (lv_at hl 0 rfl) ?_
  refine lv_iload_n C.1 C.2.1 dL_follows_3 rfl (lv_at hl 1 rfl) ?_
  refine k_Xi C F hw (i := 0) (As := [.int (a1)]) (rest := [.int (nI 0), .ref (ad 208)]) (hM _) (by omega) eX rfl (cwV _ C.2.2.2.2 gm_L_59 rfl rfl rfl cd_X7_follows ⟨by decide, by decide⟩) hl.1 rfl (Nat.le_of_ble_eq_true rfl) dL_follows_4 ⟨by decide, by decide⟩ (fun E ce q9 g1 H locs hp hw hce hcv hcl => ?_) (fun v g1 H locs hp hw => ?_)
  · rcases hE E g1 hp with rfl | rfl
    · refine ct_w (h := 19) C (by rw [hex]; exact ⟨by decide, by decide, Or.inl ⟨kl_L_33, rfl⟩⟩) hce hcv hcl ?_
      refine lv_astore_n (lv' := [(3, .ref (q9)), (0, .ref (ad 0)), (1, .int (a1)), (2, .ref (ad 208))]) C.1 C.2.1 dL_follows_19 rfl hl (by decide) rfl (fun ls hl => ?_)
      refine k_icn C 1 dL_follows_20 (by decide) ?_
      exact hret H locs ls _ _ _ dL_follows_21 hw (Or.inr ⟨_, List.mem_cons_self, hp, rfl⟩)
    · refine ct_w (h := 22) C (by rw [hex]; exact ⟨by decide, by decide, Or.inr ⟨⟨xI, kl_L_33, F.2.1.2.2.2.2.2 (xO, xI) (by decide)⟩, ⟨by decide, by decide, Or.inl ⟨kl_L_35, rfl⟩⟩⟩⟩) hce hcv hcl ?_
      refine lv_astore_n (lv' := [(3, .ref (q9)), (0, .ref (ad 0)), (1, .int (a1)), (2, .ref (ad 208))]) C.1 C.2.1 dL_follows_22 rfl hl (by decide) rfl (fun ls hl => ?_)
      refine k_icn C 2 dL_follows_23 (by decide) ?_
      exact hret H locs ls _ _ _ dL_follows_24 hw (Or.inr ⟨_, List.mem_cons_of_mem _ (List.mem_cons_self), hp, rfl⟩)
  · refine lv_if_eq (tgt := 14) C.1 C.2.1 dL_follows_7 (by decide) (fun hc7 => ?_) (fun hc7 => ?_)
    · refine lv_lconst (v := 0) C.1 C.2.1 dL_follows_14 (by decide) ?_
      refine k_last C F hw 208 (by omega) ((h8 _ _ hp).trans eO) 0 (0) (by decide) (by decide) dL_follows_15 (fun H locs hw => ?_)
      refine lv_goto (tgt := 25) C.1 C.2.1 dL_follows_16 (by decide) ?_
      refine k_icn C 0 dL_follows_25 (by decide) ?_
      exact hret H locs ls _ _ _ dL_follows_26 hw (Or.inl ⟨rfl, v, g1, hp, by show _ = va_up g1 208 (la ca 1 (vp_updL ob 0 (if v = 0 then 0 else 1))); rw [if_pos hc7]⟩)
    · refine lv_lconst (v := 1) C.1 C.2.1 dL_follows_10 (by decide) ?_
      refine lv_goto (tgt := 15) C.1 C.2.1 dL_follows_11 (by decide) ?_
      refine k_last C F hw 208 (by omega) ((h8 _ _ hp).trans eO) 0 (1) (by decide) (by decide) dL_follows_15 (fun H locs hw => ?_)
      refine lv_goto (tgt := 25) C.1 C.2.1 dL_follows_16 (by decide) ?_
      refine k_icn C 0 dL_follows_25 (by decide) ?_
      exact hret H locs ls _ _ _ dL_follows_26 hw (Or.inl ⟨rfl, v, g1, hp, by show _ = va_up g1 208 (la ca 1 (vp_updL ob 0 (if v = 0 then 0 else 1))); rw [if_neg hc7]⟩)

set_option maxRecDepth 20000 in
theorem cw_L_known : Cond.codeWith yL_known cL_known 5 (some .int) [(0, 10, 13, 33), (0, 10, 17, 35)] ∈ GW := gw_in 610 (by rfl) rfl
set_option maxRecDepth 20000 in
theorem st_L_known : Cond.static yL_known ∈ GW := gw_in 609 (by rfl) rfl
abbrev rm_L_known : Room := { frames := 7, cells := 1, slots := 6, locals := 147 }

set_option maxHeartbeats 800000 in
set_option maxRecDepth 100000 in
/-- law's known -/
theorem c_L_known {l : Launch} {D : va_G} {ca : Nat → ClassId} {tB tS R : Nat} {ad : Nat → Nat} {g : Nat → va_E} {sz : Nat} (hR : 208 < R) {ob : Nat → Int64} (eO : g 208 = la ca 1 ob) {fs : List Value} (eX : g 0 = .inr (7, fs)) {post : Int32 → (Nat → va_E) → Prop} {px : String → (Nat → va_E) → Prop} (a1 a2 : Int32) (hM : ∀ sz, XMI l yX7_known cX7_known 3 .int rm_X7_known D ca tB tS R ad g sz [.ref (ad 0), .int (a1), .int (a2)] post px) (hE : ∀ E g1, px E g1 → E = xI ∨ E = xO) (h8 : ∀ r g1, post r g1 → g1 208 = g 208) : MW l yL_known cL_known 5 [(0, 10, 13, 33), (0, 10, 17, 35)] rm_L_known D ca tB tS R ad g sz [.ref (ad 0), .int (a1), .int (a2), .ref (ad 208)] (wI ca ob (fun v => v.toInt64) [(xI, 1), (xO, 2)] post px) := by
  refine w_start (by decide +kernel) (Nat.le_of_ble_eq_true rfl) (fun p e s m args below meth c ls Q hsz C hex hl F hw hret => ?_)
  have hl : lv_has ls 5 [(0, .ref (ad 0)), (1, .int (a1)), (2, .int (a2)), (3, .ref (ad 208))] := hl
  generalize s.heap = H at hw ⊢
  generalize ([] : List Loc) = locs at hw ⊢
  refine lv_aload_n C.1 C.2.1 dL_known_0 rfl (lv_at hl 3 rfl) ?_
  refine k_icn C 0 dL_known_1 (by decide) ?_
  refine lv_aload_n C.1 C.2.1 dL_known_2 rfl (lv_at hl 0 rfl) ?_
  refine lv_iload_n C.1 C.2.1 dL_known_3 rfl (lv_at hl 1 rfl) ?_
  refine lv_iload_n C.1 C.2.1 dL_known_4 rfl (lv_at hl 2 rfl) ?_
  refine k_Xi C F hw (i := 0) (As := [.int (a1), .int (a2)]) (rest := [.int (nI 0), .ref (ad 208)]) (hM _) (by omega) eX rfl (cwV _ C.2.2.2.2 gm_L_62 rfl rfl rfl cd_X7_known ⟨by decide, by decide⟩) hl.1 rfl (Nat.le_of_ble_eq_true rfl) dL_known_5 ⟨by decide, by decide⟩ (fun E ce q9 g1 H locs hp hw hce hcv hcl => ?_) (fun v g1 H locs hp hw => ?_)
  · rcases hE E g1 hp with rfl | rfl
    · refine ct_w (h := 13) C (by rw [hex]; exact ⟨by decide, by decide, Or.inl ⟨kl_L_33, rfl⟩⟩) hce hcv hcl ?_
      refine lv_astore (lv' := [(4, .ref (q9)), (0, .ref (ad 0)), (1, .int (a1)), (2, .int (a2)), (3, .ref (ad 208))]) C.1 C.2.1 dL_known_13 hl (by decide) rfl (fun ls hl => ?_)
      refine k_icn C 1 dL_known_15 (by decide) ?_
      exact hret H locs ls _ _ _ dL_known_16 hw (Or.inr ⟨_, List.mem_cons_self, hp, rfl⟩)
    · refine ct_w (h := 17) C (by rw [hex]; exact ⟨by decide, by decide, Or.inr ⟨⟨xI, kl_L_33, F.2.1.2.2.2.2.2 (xO, xI) (by decide)⟩, ⟨by decide, by decide, Or.inl ⟨kl_L_35, rfl⟩⟩⟩⟩) hce hcv hcl ?_
      refine lv_astore (lv' := [(4, .ref (q9)), (0, .ref (ad 0)), (1, .int (a1)), (2, .int (a2)), (3, .ref (ad 208))]) C.1 C.2.1 dL_known_17 hl (by decide) rfl (fun ls hl => ?_)
      refine k_icn C 2 dL_known_19 (by decide) ?_
      exact hret H locs ls _ _ _ dL_known_20 hw (Or.inr ⟨_, List.mem_cons_of_mem _ (List.mem_cons_self), hp, rfl⟩)
  · refine lv_i2l C.1 C.2.1 dL_known_8 rfl ?_
    refine k_last C F hw 208 (by omega) ((h8 _ _ hp).trans eO) 0 ((v).toInt64) (by decide) (by decide) dL_known_9 (fun H locs hw => ?_)
    refine lv_goto (tgt := 21) C.1 C.2.1 dL_known_10 (by decide) ?_
    refine k_icn C 0 dL_known_21 (by decide) ?_
    exact hret H locs ls _ _ _ dL_known_22 hw (Or.inl ⟨rfl, v, g1, hp, rfl⟩)

set_option maxRecDepth 20000 in
theorem cw_L_count : Cond.codeWith yL_count cL_count 4 (some .int) [(0, 9, 12, 19)] ∈ GW := gw_in 621 (by rfl) rfl
set_option maxRecDepth 20000 in
theorem st_L_count : Cond.static yL_count ∈ GW := gw_in 620 (by rfl) rfl
abbrev rm_L_count : Room := { frames := 7, cells := 1, slots := 6, locals := 146 }

set_option maxHeartbeats 800000 in
set_option maxRecDepth 100000 in
/-- law's count -/
theorem c_L_count {l : Launch} {D : va_G} {ca : Nat → ClassId} {tB tS R : Nat} {ad : Nat → Nat} {g : Nat → va_E} {sz : Nat} (hR : 208 < R) {ob : Nat → Int64} (eO : g 208 = la ca 1 ob) {fs : List Value} (eX : g 0 = .inr (7, fs)) {post : Int32 → (Nat → va_E) → Prop} {px : String → (Nat → va_E) → Prop} (a1 : Int32) (hM : ∀ sz, XMI l yX7_count cX7_count 2 .int rm_X7_count D ca tB tS R ad g sz [.ref (ad 0), .int (a1)] post px) (hE : ∀ E g1, px E g1 → E = xA) (h8 : ∀ r g1, post r g1 → g1 208 = g 208) : MW l yL_count cL_count 4 [(0, 9, 12, 19)] rm_L_count D ca tB tS R ad g sz [.ref (ad 0), .int (a1), .ref (ad 208)] (wI ca ob (fun v => v.toInt64) [(xA, 1)] post px) := by
  refine w_start (by decide +kernel) (Nat.le_of_ble_eq_true rfl) (fun p e s m args below meth c ls Q hsz C hex hl F hw hret => ?_)
  have hl : lv_has ls 4 [(0, .ref (ad 0)), (1, .int (a1)), (2, .ref (ad 208))] := hl
  generalize s.heap = H at hw ⊢
  generalize ([] : List Loc) = locs at hw ⊢
  refine lv_aload_n C.1 C.2.1 dL_count_0 rfl (lv_at hl 2 rfl) ?_
  refine k_icn C 0 dL_count_1 (by decide) ?_
  refine lv_aload_n C.1 C.2.1 dL_count_2 rfl (lv_at hl 0 rfl) ?_
  refine lv_iload_n C.1 C.2.1 dL_count_3 rfl (lv_at hl 1 rfl) ?_
  refine k_Xi C F hw (i := 0) (As := [.int (a1)]) (rest := [.int (nI 0), .ref (ad 208)]) (hM _) (by omega) eX rfl (cwV _ C.2.2.2.2 gm_L_65 rfl rfl rfl cd_X7_count ⟨by decide, by decide⟩) hl.1 rfl (Nat.le_of_ble_eq_true rfl) dL_count_4 ⟨by decide, by decide⟩ (fun E ce q9 g1 H locs hp hw hce hcv hcl => ?_) (fun v g1 H locs hp hw => ?_)
  · rcases hE E g1 hp with rfl
    · refine ct_w (h := 12) C (by rw [hex]; exact ⟨by decide, by decide, Or.inl ⟨kl_L_19, rfl⟩⟩) hce hcv hcl ?_
      refine lv_astore_n (lv' := [(3, .ref (q9)), (0, .ref (ad 0)), (1, .int (a1)), (2, .ref (ad 208))]) C.1 C.2.1 dL_count_12 rfl hl (by decide) rfl (fun ls hl => ?_)
      refine k_icn C 1 dL_count_13 (by decide) ?_
      exact hret H locs ls _ _ _ dL_count_14 hw (Or.inr ⟨_, List.mem_cons_self, hp, rfl⟩)
  · refine lv_i2l C.1 C.2.1 dL_count_7 rfl ?_
    refine k_last C F hw 208 (by omega) ((h8 _ _ hp).trans eO) 0 ((v).toInt64) (by decide) (by decide) dL_count_8 (fun H locs hw => ?_)
    refine lv_goto (tgt := 15) C.1 C.2.1 dL_count_9 (by decide) ?_
    refine k_icn C 0 dL_count_15 (by decide) ?_
    exact hret H locs ls _ _ _ dL_count_16 hw (Or.inl ⟨rfl, v, g1, hp, rfl⟩)
