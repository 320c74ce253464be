theorem cJ3_checkIndex_ {G : GT} {l : Launch} {v0 v1 : Int32} {w : Value} (hw0 : w = .null ∨ ∃ t : Nat, w = .ref t) {x : XS} (h : ¬ v0 < 0 ∧ v0 < v1) : Ct G l yJ3_checkIndex_8e157 (.code yJ3_checkIndex_8e157 cJ3_checkIndex_8e157 3 (some .int)) { frames := 0, cells := 0, slots := 0, locals := 0 } [.int v0, .int v1, w] x (some (.int v0)) x := by
  have hlen : (lg_sl [.int v0, .int v1, w]).length ≤ 3 := by rcases hw0 with rfl | ⟨t, rfl⟩ <;> exact Nat.le_of_ble_eq_true rfl
  refine Ct.of (by decide +kernel) hlen ?_
  intro p e s m args below meth c C ls hl hS
  have hl : lv_has ls 3 [(0, .int v0), (1, .int v1), (2, w)] := by rcases hw0 with rfl | ⟨t, rfl⟩ <;> exact hl
  have hx := C.1
  have hb := C.2.1
  refine lv_iload_n hx hb dJ3_checkIndex_8e157_0 rfl (lv_at hl 0 rfl) ?_
  refine lv_if_lt (tgt := 9) hx hb dJ3_checkIndex_8e157_1 (by decide) (fun c => absurd c h.1) (fun c => ?_)
  refine lv_iload_n hx hb dJ3_checkIndex_8e157_4 rfl (lv_at hl 0 rfl) ?_
  refine lv_iload_n hx hb dJ3_checkIndex_8e157_5 rfl (lv_at hl 1 rfl) ?_
  refine lv_icmp_lt (tgt := 16) hx hb dJ3_checkIndex_8e157_6 (by decide) (fun c => ?_) (fun c => absurd h.2 c)
  refine lv_iload_n hx hb dJ3_checkIndex_8e157_16 rfl (lv_at hl 0 rfl) ?_
  exact rtI C hS rfl dJ3_checkIndex_8e157_17
theorem cJ0_checkIndex_df160_ {G : GT} {l : Launch} {v0 v1 : Int32} {x z : XS} {r : Unit} (hf : fJ0_checkIndex_df160 v0 v1 x = some (r, z)) : Ct G l yJ0_checkIndex_df160 (.code yJ0_checkIndex_df160 cJ0_checkIndex_df160 2 none) { frames := 1, cells := 0, slots := 0, locals := 22 } [.int v0, .int v1] x none z := by
  refine Ct.of (by decide +kernel) (Nat.le_of_ble_eq_true rfl) ?_
  intro p e s m args below meth c C ls hl hS
  have C : CX G p s m args meth c cJ0_checkIndex_df160 2 none RJ0 := C
  have hl : lv_has ls 2 [(0, .int v0), (1, .int v1)] := hl
  have hx := C.1
  have hb := C.2.1
  unfold fJ0_checkIndex_df160 at hf
  obtain ⟨g0, hf⟩ := gd_out hf
  refine lv_iload_n hx hb dJ0_checkIndex_df160_0 rfl (lv_at hl 0 rfl) ?_
  refine lv_iload_n hx hb dJ0_checkIndex_df160_1 rfl (lv_at hl 1 rfl) ?_
  refine gsSF C hS g_556 dJ0_checkIndex_df160_2 (fun w hw0 => ?_)
  refine rsI (As := [.int v0, .int v1, w]) (rest := []) C hS KJ3_checkIndex (cJ3_checkIndex_ hw0 (of_decide_eq_true g0)) g_558 ⟨rfl, rfl⟩ ⟨(Nat.le_of_ble_eq_true rfl), (Nat.le_of_ble_eq_true rfl)⟩ hl.1 rfl rfl (Nat.le_of_ble_eq_true rfl) ⟨Nat.zero_le _, Nat.zero_le _⟩ dJ0_checkIndex_df160_5 (fun H locs hS => ?_)
  refine lv_pop hx hb dJ0_checkIndex_df160_8 rfl ?_
  exact rtV C hS (r := ()) hf dJ0_checkIndex_df160_9
abbrev rmJ0_coder_7d493 : Room := { frames := 0, cells := 0, slots := 0, locals := 0 }
set_option maxRecDepth 100000 in
set_option maxHeartbeats 4000000 in
theorem cJ0_coder_7d493_ {G : GT} {l : Launch} {a0 : Nat} (hs0 : a0 < 6) {x z : XS} {r : Int32} (hf : fJ0_coder_7d493 a0 x = some (r, z)) : Ct G l yJ0_coder_7d493 (.code yJ0_coder_7d493 cJ0_coder_7d493 1 (some .byte)) rmJ0_coder_7d493 [.ref (G.2.2.2.2 (1 + a0))] x (some (.int r)) z := by
  refine Ct.of (by decide +kernel) (Nat.le_of_ble_eq_true rfl) ?_
  intro p e s m args below meth c C ls hl hS
  have C : CX G p s m args meth c cJ0_coder_7d493 1 (some .byte) RJ0 := C
  have hl : lv_has ls 1 [(0, .ref (G.2.2.2.2 (1 + a0)))] := hl
  have hx := C.1
  have hb := C.2.1
  have hown := C.2.2.2.2.2.1
  have hw := C.2.2.2.2.2.2.1
  unfold fJ0_coder_7d493 at hf
  refine gsCS C hS g_540 dJ0_coder_7d493_0 ?_
  refine lv_if_eq (tgt := 13) hx hb dJ0_coder_7d493_3 (by decide) (fun c_1 => ?_) (fun c_1 => ?_)
  · replace hf := if_p c_1 hf
    refine lv_iconst (v := 1) hx hb dJ0_coder_7d493_13 (by decide) ?_
    obtain ⟨gg_2, hf⟩ := gd_out hf
    exact rtB C hS gg_2 hf dJ0_coder_7d493_14
  · replace hf := if_n c_1 hf
    refine lv_aload_n hx hb dJ0_coder_7d493_6 rfl (lv_at hl 0 rfl) ?_
    refine gfSc C hS hs0 g_1244 dJ0_coder_7d493_7 ?_
    refine lv_goto (tgt := 14) hx hb dJ0_coder_7d493_10 (by decide) ?_
    obtain ⟨gg_3, hf⟩ := gd_out hf
    exact rtB C hS gg_3 hf dJ0_coder_7d493_14
abbrev rmJ0_length_8abf5 : Room := { frames := 1, cells := 0, slots := 0, locals := 20 }
set_option maxRecDepth 100000 in
set_option maxHeartbeats 4000000 in
theorem cJ0_length_8abf5_ {G : GT} {l : Launch} {a0 : Nat} (hs0 : a0 < 6) {x z : XS} {r : Int32} (hf : fJ0_length_8abf5 a0 x = some (r, z)) : Ct G l yJ0_length_8abf5 (.code yJ0_length_8abf5 cJ0_length_8abf5 1 (some .int)) rmJ0_length_8abf5 [.ref (G.2.2.2.2 (1 + a0))] x (some (.int r)) z := by
  refine Ct.of (by decide +kernel) (Nat.le_of_ble_eq_true rfl) ?_
  intro p e s m args below meth c C ls hl hS
  have C : CX G p s m args meth c cJ0_length_8abf5 1 (some .int) RJ0 := C
  have hl : lv_has ls 1 [(0, .ref (G.2.2.2.2 (1 + a0)))] := hl
  have hx := C.1
  have hb := C.2.1
  have hown := C.2.2.2.2.2.1
  have hw := C.2.2.2.2.2.2.1
  unfold fJ0_length_8abf5 at hf
  refine lv_aload_n hx hb dJ0_length_8abf5_0 rfl (lv_at hl 0 rfl) ?_
  refine gfSv C hS hs0 g_1243 dJ0_length_8abf5_1 ?_
  refine anSb C hS hs0 dJ0_length_8abf5_4 ?_
  refine lv_aload_n hx hb dJ0_length_8abf5_5 rfl (lv_at hl 0 rfl) ?_
  obtain ⟨r_1, x_2, qr_1, hf⟩ := bd_out hf
  refine rzI (As := []) (rest := [.int (nI (slen.getD a0 0))]) C hS hs0 KJ0_coder_7d493 (cJ0_coder_7d493_ hs0 qr_1) g_536 ⟨rfl, rfl⟩ ⟨(Nat.le_of_ble_eq_true rfl), (Nat.le_of_ble_eq_true rfl)⟩ hl.1 rfl rfl (Nat.le_of_ble_eq_true rfl) ⟨Nat.zero_le _, Nat.zero_le _⟩ dJ0_length_8abf5_6 (fun H locs hS => ?_)
  refine lv_ishr hx hb dJ0_length_8abf5_9 ?_
  obtain ⟨v_3, ev_3, hf⟩ := st_out hf
  refine topI ev_3 ?_
  exact rtI C hS hf dJ0_length_8abf5_10
abbrev rmJ0_isLatin1_aae02 : Room := { frames := 0, cells := 0, slots := 0, locals := 0 }
set_option maxRecDepth 100000 in
set_option maxHeartbeats 4000000 in
theorem cJ0_isLatin1_aae02_ {G : GT} {l : Launch} {a0 : Nat} (hs0 : a0 < 6) {x z : XS} {r : Int32} (hf : fJ0_isLatin1_aae02 a0 x = some (r, z)) : Ct G l yJ0_isLatin1_aae02 (.code yJ0_isLatin1_aae02 cJ0_isLatin1_aae02 1 (some .boolean)) rmJ0_isLatin1_aae02 [.ref (G.2.2.2.2 (1 + a0))] x (some (.int r)) z := by
  refine Ct.of (by decide +kernel) (Nat.le_of_ble_eq_true rfl) ?_
  intro p e s m args below meth c C ls hl hS
  have C : CX G p s m args meth c cJ0_isLatin1_aae02 1 (some .boolean) RJ0 := C
  have hl : lv_has ls 1 [(0, .ref (G.2.2.2.2 (1 + a0)))] := hl
  have hx := C.1
  have hb := C.2.1
  have hown := C.2.2.2.2.2.1
  have hw := C.2.2.2.2.2.2.1
  unfold fJ0_isLatin1_aae02 at hf
  refine gsCS C hS g_540 dJ0_isLatin1_aae02_0 ?_
  refine lv_if_eq (tgt := 17) hx hb dJ0_isLatin1_aae02_3 (by decide) (fun c_1 => ?_) (fun c_1 => ?_)
  · replace hf := if_p c_1 hf
    refine lv_iconst (v := 0) hx hb dJ0_isLatin1_aae02_17 (by decide) ?_
    exact rtZ C hS rfl hf dJ0_isLatin1_aae02_18
  · replace hf := if_n c_1 hf
    refine lv_aload_n hx hb dJ0_isLatin1_aae02_6 rfl (lv_at hl 0 rfl) ?_
    refine gfSc C hS hs0 g_1244 dJ0_isLatin1_aae02_7 ?_
    refine lv_if_ne (tgt := 17) hx hb dJ0_isLatin1_aae02_10 (by decide) (fun c_2 => ?_) (fun c_2 => ?_)
    · replace hf := if_n c_2 hf
      refine lv_iconst (v := 0) hx hb dJ0_isLatin1_aae02_17 (by decide) ?_
      exact rtZ C hS rfl hf dJ0_isLatin1_aae02_18
    · replace hf := if_p c_2 hf
      refine lv_iconst (v := 1) hx hb dJ0_isLatin1_aae02_13 (by decide) ?_
      refine lv_goto (tgt := 18) hx hb dJ0_isLatin1_aae02_14 (by decide) ?_
      exact rtZ C hS rfl hf dJ0_isLatin1_aae02_18
abbrev rmJ1_charAt_3b067 : Room := { frames := 2, cells := 0, slots := 0, locals := 43 }
set_option maxRecDepth 100000 in
set_option maxHeartbeats 4000000 in
theorem cJ1_charAt_3b067_ {G : GT} {l : Launch} {v0 : Nat} {v1 : Int32} (hs0 : v0 < 6) {x z : XS} {r : Int32} (hf : fJ1_charAt_3b067 v0 v1 x = some (r, z)) : Ct G l yJ1_charAt_3b067 (.code yJ1_charAt_3b067 cJ1_charAt_3b067 2 (some .char)) rmJ1_charAt_3b067 [.ref (G.2.2.2.2 (7 + v0)), .int v1] x (some (.int r)) z := by
  refine Ct.of (by decide +kernel) (Nat.le_of_ble_eq_true rfl) ?_
  intro p e s m args below meth c C ls hl hS
  have C : CX G p s m args meth c cJ1_charAt_3b067 2 (some .char) RJ1 := C
  have hl : lv_has ls 2 [(0, .ref (G.2.2.2.2 (7 + v0))), (1, .int v1)] := hl
  have hx := C.1
  have hb := C.2.1
  have hown := C.2.2.2.2.2.1
  have hw := C.2.2.2.2.2.2.1
  unfold fJ1_charAt_3b067 at hf
  refine lv_iload_n hx hb dJ1_charAt_3b067_0 rfl (lv_at hl 1 rfl) ?_
  refine lv_aload_n hx hb dJ1_charAt_3b067_1 rfl (lv_at hl 0 rfl) ?_
  refine anSb C hS hs0 dJ1_charAt_3b067_2 ?_
  obtain ⟨r_1, x_2, qr_1, hf⟩ := bd_out hf
  refine rsV (As := [.int v1, .int (nI (slen.getD v0 0))]) (rest := []) C hS KJ0_checkIndex_df160 (cJ0_checkIndex_df160_ qr_1) g_553 ⟨rfl, rfl⟩ ⟨(Nat.le_of_ble_eq_true rfl), (Nat.le_of_ble_eq_true rfl)⟩ hl.1 rfl rfl (Nat.le_of_ble_eq_true rfl) ⟨Nat.zero_le _, Nat.zero_le _⟩ dJ1_charAt_3b067_3 (fun H locs hS => ?_)
  refine lv_aload_n hx hb dJ1_charAt_3b067_6 rfl (lv_at hl 0 rfl) ?_
  refine lv_iload_n hx hb dJ1_charAt_3b067_7 rfl (lv_at hl 1 rfl) ?_
  obtain ⟨gg_3, hf⟩ := gd_out hf
  refine alSb C hS hs0 gg_3 dJ1_charAt_3b067_8 ?_
  refine lv_sipush (v := 255) hx hb dJ1_charAt_3b067_9 (by decide) ?_
  refine lv_iand hx hb dJ1_charAt_3b067_12 ?_
  obtain ⟨v_4, ev_4, hf⟩ := st_out hf
  refine lv_i2c (v := v_4) hx hb dJ1_charAt_3b067_13 ev_4.symm ?_
  obtain ⟨gg_5, hf⟩ := gd_out hf
  exact rtC C hS gg_5 hf dJ1_charAt_3b067_14
abbrev rmJ0_charAt_5068e : Room := { frames := 3, cells := 0, slots := 0, locals := 64 }
set_option maxRecDepth 100000 in
set_option maxHeartbeats 4000000 in
theorem cJ0_charAt_5068e_ {G : GT} {l : Launch} {a0 : Nat} {v1 : Int32} (hs0 : a0 < 6) {x z : XS} {r : Int32} (hf : fJ0_charAt_5068e a0 v1 x = some (r, z)) : Ct G l yJ0_charAt_5068e (.code yJ0_charAt_5068e cJ0_charAt_5068e 2 (some .char)) rmJ0_charAt_5068e [.ref (G.2.2.2.2 (1 + a0)), .int v1] x (some (.int r)) z := by
  refine Ct.of (by decide +kernel) (Nat.le_of_ble_eq_true rfl) ?_
  intro p e s m args below meth c C ls hl hS
  have C : CX G p s m args meth c cJ0_charAt_5068e 2 (some .char) RJ0 := C
  have hl : lv_has ls 2 [(0, .ref (G.2.2.2.2 (1 + a0))), (1, .int v1)] := hl
  have hx := C.1
  have hb := C.2.1
  have hown := C.2.2.2.2.2.1
  have hw := C.2.2.2.2.2.2.1
  unfold fJ0_charAt_5068e at hf
  refine lv_aload_n hx hb dJ0_charAt_5068e_0 rfl (lv_at hl 0 rfl) ?_
  obtain ⟨r_1, x_2, qr_1, hf⟩ := bd_out hf
  refine rzI (As := []) (rest := []) C hS hs0 KJ0_isLatin1_aae02 (cJ0_isLatin1_aae02_ hs0 qr_1) g_546 ⟨rfl, rfl⟩ ⟨(Nat.le_of_ble_eq_true rfl), (Nat.le_of_ble_eq_true rfl)⟩ hl.1 rfl rfl (Nat.le_of_ble_eq_true rfl) ⟨Nat.zero_le _, Nat.zero_le _⟩ dJ0_charAt_5068e_1 (fun H locs hS => ?_)
  refine lv_if_eq (tgt := 16) hx hb dJ0_charAt_5068e_4 (by decide) (fun c_3 => ?_) (fun c_3 => ?_)
  · replace hf := if_p c_3 hf
    refine lv_aload_n hx hb dJ0_charAt_5068e_16 rfl (lv_at hl 0 rfl) ?_
    refine gfSv C hS hs0 g_1243 dJ0_charAt_5068e_17 ?_
    refine lv_iload_n hx hb dJ0_charAt_5068e_20 rfl (lv_at hl 1 rfl) ?_
    exact absurd hf (by intro q; cases q)
  · replace hf := if_n c_3 hf
    refine lv_aload_n hx hb dJ0_charAt_5068e_7 rfl (lv_at hl 0 rfl) ?_
    refine gfSv C hS hs0 g_1243 dJ0_charAt_5068e_8 ?_
    refine lv_iload_n hx hb dJ0_charAt_5068e_11 rfl (lv_at hl 1 rfl) ?_
    obtain ⟨r_4, x_5, qr_4, hf⟩ := bd_out hf
    refine rsI (As := [.ref (G.2.2.2.2 (7 + a0)), .int v1]) (rest := []) C hS KJ1_charAt_3b067 (cJ1_charAt_3b067_ hs0 qr_4) g_550 ⟨rfl, rfl⟩ ⟨(Nat.le_of_ble_eq_true rfl), (Nat.le_of_ble_eq_true rfl)⟩ hl.1 rfl rfl (Nat.le_of_ble_eq_true rfl) ⟨Nat.zero_le _, Nat.zero_le _⟩ dJ0_charAt_5068e_12 (fun H locs hS => ?_)
    obtain ⟨gg_6, hf⟩ := gd_out hf
    exact rtC C hS gg_6 hf dJ0_charAt_5068e_15
abbrev rmJ1_canEncode_9a6ad : Room := { frames := 0, cells := 0, slots := 0, locals := 0 }
set_option maxRecDepth 100000 in
set_option maxHeartbeats 4000000 in
theorem cJ1_canEncode_9a6ad_ {G : GT} {l : Launch} {v0 : Int32} {x z : XS} {r : Int32} (hf : fJ1_canEncode_9a6ad v0 x = some (r, z)) : Ct G l yJ1_canEncode_9a6ad (.code yJ1_canEncode_9a6ad cJ1_canEncode_9a6ad 1 (some .boolean)) rmJ1_canEncode_9a6ad [.int v0] x (some (.int r)) z := by
  refine Ct.of (by decide +kernel) (Nat.le_of_ble_eq_true rfl) ?_
  intro p e s m args below meth c C ls hl hS
  have C : CX G p s m args meth c cJ1_canEncode_9a6ad 1 (some .boolean) RJ1 := C
  have hl : lv_has ls 1 [(0, .int v0)] := hl
  have hx := C.1
  have hb := C.2.1
  have hown := C.2.2.2.2.2.1
  have hw := C.2.2.2.2.2.2.1
  unfold fJ1_canEncode_9a6ad at hf
  refine lv_iload_n hx hb dJ1_canEncode_9a6ad_0 rfl (lv_at hl 0 rfl) ?_
  refine lv_if_lt (tgt := 15) hx hb dJ1_canEncode_9a6ad_1 (by decide) (fun c_1 => ?_) (fun c_1 => ?_)
  · replace hf := if_p c_1 hf
    refine lv_iconst (v := 0) hx hb dJ1_canEncode_9a6ad_15 (by decide) ?_
    exact rtZ C hS rfl hf dJ1_canEncode_9a6ad_16
  · replace hf := if_n c_1 hf
    refine lv_iload_n hx hb dJ1_canEncode_9a6ad_4 rfl (lv_at hl 0 rfl) ?_
    refine lv_sipush (v := 255) hx hb dJ1_canEncode_9a6ad_5 (by decide) ?_
    refine lv_icmp_gt (tgt := 15) hx hb dJ1_canEncode_9a6ad_8 (by decide) (fun c_2 => ?_) (fun c_2 => ?_)
    · replace hf := if_p c_2 hf
      refine lv_iconst (v := 0) hx hb dJ1_canEncode_9a6ad_15 (by decide) ?_
      exact rtZ C hS rfl hf dJ1_canEncode_9a6ad_16
    · replace hf := if_n c_2 hf
      refine lv_iconst (v := 1) hx hb dJ1_canEncode_9a6ad_11 (by decide) ?_
      refine lv_goto (tgt := 16) hx hb dJ1_canEncode_9a6ad_12 (by decide) ?_
      exact rtZ C hS rfl hf dJ1_canEncode_9a6ad_16
abbrev rmJ1_indexOfChar_4cfef : Room := { frames := 0, cells := 0, slots := 0, locals := 0 }
set_option maxRecDepth 100000 in
set_option maxHeartbeats 4000000 in
theorem wbJ1_indexOfChar_4cfef_h7 {p : Program} {l : Launch} {e : Env} {s : State} {m : MethodId} {args : Array Value} {below : List Frame} {meth : Method} {c : Code} {G : GT} {v0 : Nat} {r : Int32} {z : XS} (hs0 : v0 < 6) (C : CX G p s m args meth c cJ1_indexOfChar_4cfef 6 (some .int) RJ1) {k7 : Int32 → Int32 → Int32 → XS → Option (Int32 × XS)} (hk7 : ∀ (u3 : Int32) (u4 : Int32) (u5 : Int32) (x : XS), k7 u3 u4 u5 x = some (r, z) → ∀ (H : Heap) (locs : List Loc) (ls : Array Slot), SR G x H locs → lv_has ls 6 [(0, .ref (G.2.2.2.2 (7 + v0))), (3, .int u3), (4, .int u4), (5, .int u5)] → W p l e rmJ1_indexOfChar_4cfef s m args below meth c H locs 0 0 (MQ below (QC G (some (.int r)) z) args s 0 0 (AB G)) (F0 m 7 ls [])) : ∀ (u3 : Int32) (u4 : Int32) (u5 : Int32) (x : XS), bJ1_indexOfChar_4cfef_h7 v0 k7 u3 u4 u5 x = some (r, z) → ∀ (H : Heap) (locs : List Loc) (ls : Array Slot), SR G x H locs → lv_has ls 6 [(0, .ref (G.2.2.2.2 (7 + v0))), (3, .int u3), (4, .int u4), (5, .int u5)] → W p l e rmJ1_indexOfChar_4cfef s m args below meth c H locs 0 0 (MQ below (QC G (some (.int r)) z) args s 0 0 (AB G)) (F0 m 7 ls []) := by
  intro u3 u4 u5 x hf H locs ls hS hl
  have hx := C.1
  have hb := C.2.1
  have hown := C.2.2.2.2.2.1
  have hw := C.2.2.2.2.2.2.1
  unfold bJ1_indexOfChar_4cfef_h7 at hf
  refine lv_iload hx hb dJ1_indexOfChar_4cfef_7 (lv_at hl 3 rfl) ?_
  refine lv_iload_n hx hb dJ1_indexOfChar_4cfef_9 rfl (lv_at hl 1 rfl) ?_
  refine lv_icmp_ge (tgt := 31) hx hb dJ1_indexOfChar_4cfef_10 (by decide) (fun c_2 => ?_) (fun c_2 => ?_)
  · replace hf := if_p c_2 hf
    refine lv_iconst (v := (-1)) hx hb dJ1_indexOfChar_4cfef_31 (by decide) ?_
    exact rtI C hS hf dJ1_indexOfChar_4cfef_32
  · replace hf := if_n c_2 hf
    refine lv_aload_n hx hb dJ1_indexOfChar_4cfef_13 rfl (lv_at hl 0 rfl) ?_
    refine lv_iload hx hb dJ1_indexOfChar_4cfef_14 (lv_at hl 3 rfl) ?_
    obtain ⟨gg_3, hf⟩ := gd_out hf
    refine alSb C hS hs0 gg_3 dJ1_indexOfChar_4cfef_16 ?_
    refine lv_iload hx hb dJ1_indexOfChar_4cfef_17 (lv_at hl 2 rfl) ?_
    refine lv_icmp_ne (tgt := 25) hx hb dJ1_indexOfChar_4cfef_19 (by decide) (fun c_4 => ?_) (fun c_4 => ?_)
    · replace hf := if_n c_4 hf
      obtain ⟨v_5, ev_5, hf⟩ := st_out hf
      refine lv_iinc (v := v_5) (lv' := [(5, .int v_5), (0, .ref (G.2.2.2.2 (7 + v0))), (3, .int u3), (4, .int u4)]) hx hb dJ1_indexOfChar_4cfef_25 hl (k := 3) rfl (by rw [ev_5]; rfl) (by decide) rfl (fun ls hl => ?_)
      refine lv_goto (tgt := 7) hx hb dJ1_indexOfChar_4cfef_28 (by decide) ?_
      exact hk7 u3 u4 v_5 x hf _ _ _ hS (lv_sub hl [1, 2, 3, 0] rfl)
    · replace hf := if_p c_4 hf
      refine lv_iload hx hb dJ1_indexOfChar_4cfef_22 (lv_at hl 3 rfl) ?_
      exact rtI C hS hf dJ1_indexOfChar_4cfef_24
theorem wlJ1_indexOfChar_4cfef_h7 {p : Program} {l : Launch} {e : Env} {s : State} {m : MethodId} {args : Array Value} {below : List Frame} {meth : Method} {c : Code} {G : GT} {v0 : Nat} {r : Int32} {z : XS} (hs0 : v0 < 6) (C : CX G p s m args meth c cJ1_indexOfChar_4cfef 6 (some .int) RJ1) (n : Nat) : ∀ (u3 : Int32) (u4 : Int32) (u5 : Int32) (x : XS), lJ1_indexOfChar_4cfef_h7 v0 n u3 u4 u5 x = some (r, z) → ∀ (H : Heap) (locs : List Loc) (ls : Array Slot), SR G x H locs → lv_has ls 6 [(0, .ref (G.2.2.2.2 (7 + v0))), (3, .int u3), (4, .int u4), (5, .int u5)] → W p l e rmJ1_indexOfChar_4cfef s m args below meth c H locs 0 0 (MQ below (QC G (some (.int r)) z) args s 0 0 (AB G)) (F0 m 7 ls []) := by
  induction n with
  | zero => intro u3 u4 u5 x hf H locs ls hS hl; exact absurd hf (by intro q; cases q)
  | succ n ih => exact wbJ1_indexOfChar_4cfef_h7 hs0 C ih
theorem wJ1_indexOfChar_4cfef_h7 {p : Program} {l : Launch} {e : Env} {s : State} {m : MethodId} {args : Array Value} {below : List Frame} {meth : Method} {c : Code} {G : GT} {v0 : Nat} {r : Int32} {z : XS} (hs0 : v0 < 6) (C : CX G p s m args meth c cJ1_indexOfChar_4cfef 6 (some .int) RJ1) : ∀ (u3 : Int32) (u4 : Int32) (u5 : Int32) (x : XS), fJ1_indexOfChar_4cfef_h7 v0 u3 u4 u5 x = some (r, z) → ∀ (H : Heap) (locs : List Loc) (ls : Array Slot), SR G x H locs → lv_has ls 6 [(0, .ref (G.2.2.2.2 (7 + v0))), (3, .int u3), (4, .int u4), (5, .int u5)] → W p l e rmJ1_indexOfChar_4cfef s m args below meth c H locs 0 0 (MQ below (QC G (some (.int r)) z) args s 0 0 (AB G)) (F0 m 7 ls []) := wlJ1_indexOfChar_4cfef_h7 hs0 C FU
set_option maxRecDepth 100000 in
set_option maxHeartbeats 4000000 in
theorem cJ1_indexOfChar_4cfef_ {G : GT} {l : Launch} {v0 : Nat} {v1 : Int32} {v2 : Int32} {v3 : Int32} (hs0 : v0 < 6) {x z : XS} {r : Int32} (hf : fJ1_indexOfChar_4cfef v0 v1 v2 v3 x = some (r, z)) : Ct G l yJ1_indexOfChar_4cfef (.code yJ1_indexOfChar_4cfef cJ1_indexOfChar_4cfef 6 (some .int)) rmJ1_indexOfChar_4cfef [.ref (G.2.2.2.2 (7 + v0)), .int v1, .int v2, .int v3] x (some (.int r)) z := by
  refine Ct.of (by decide +kernel) (Nat.le_of_ble_eq_true rfl) ?_
  intro p e s m args below meth c C ls hl hS
  have C : CX G p s m args meth c cJ1_indexOfChar_4cfef 6 (some .int) RJ1 := C
  have hl : lv_has ls 6 [(0, .ref (G.2.2.2.2 (7 + v0))), (1, .int v1), (2, .int v2), (3, .int v3)] := hl
  have hx := C.1
  have hb := C.2.1
  have hown := C.2.2.2.2.2.1
  have hw := C.2.2.2.2.2.2.1
  unfold fJ1_indexOfChar_4cfef at hf
  refine lv_iload_n hx hb dJ1_indexOfChar_4cfef_0 rfl (lv_at hl 1 rfl) ?_
  obtain ⟨v_1, ev_1, hf⟩ := st_out hf
  refine lv_i2b (v := v_1) hx hb dJ1_indexOfChar_4cfef_1 ev_1.symm ?_
  refine lv_istore (lv' := [(4, .int v_1), (0, .ref (G.2.2.2.2 (7 + v0))), (1, .int v1), (2, .int v2), (3, .int v3)]) hx hb dJ1_indexOfChar_4cfef_2 hl (by decide) rfl (fun ls hl => ?_)
  refine lv_iload_n hx hb dJ1_indexOfChar_4cfef_4 rfl (lv_at hl 3 rfl) ?_
  refine lv_istore (lv' := [(5, .int v2), (4, .int v_1), (0, .ref (G.2.2.2.2 (7 + v0))), (1, .int v1), (2, .int v2), (3, .int v3)]) hx hb dJ1_indexOfChar_4cfef_5 hl (by decide) rfl (fun ls hl => ?_)
  exact wJ1_indexOfChar_4cfef_h7  hs0 C v3 v_1 v2 x hf _ _ _ hS (lv_sub hl [2, 5, 1, 0] rfl)
abbrev rmJ1_indexOf_4cfef : Room := { frames := 1, cells := 0, slots := 0, locals := 60 }
set_option maxRecDepth 100000 in
set_option maxHeartbeats 4000000 in
theorem cJ1_indexOf_4cfef_ {G : GT} {l : Launch} {v0 : Nat} {v1 : Int32} {v2 : Int32} {v3 : Int32} (hs0 : v0 < 6) {x z : XS} {r : Int32} (hf : fJ1_indexOf_4cfef v0 v1 v2 v3 x = some (r, z)) : Ct G l yJ1_indexOf_4cfef (.code yJ1_indexOf_4cfef cJ1_indexOf_4cfef 4 (some .int)) rmJ1_indexOf_4cfef [.ref (G.2.2.2.2 (7 + v0)), .int v1, .int v2, .int v3] x (some (.int r)) z := by
  refine Ct.of (by decide +kernel) (Nat.le_of_ble_eq_true rfl) ?_
  intro p e s m args below meth c C ls hl hS
  have C : CX G p s m args meth c cJ1_indexOf_4cfef 4 (some .int) RJ1 := C
  have hl : lv_has ls 4 [(0, .ref (G.2.2.2.2 (7 + v0))), (1, .int v1), (2, .int v2), (3, .int v3)] := hl
  have hx := C.1
  have hb := C.2.1
  have hown := C.2.2.2.2.2.1
  have hw := C.2.2.2.2.2.2.1
  unfold fJ1_indexOf_4cfef at hf
  refine lv_iload_n hx hb dJ1_indexOf_4cfef_0 rfl (lv_at hl 1 rfl) ?_
  obtain ⟨r_1, x_2, qr_1, hf⟩ := bd_out hf
  refine rsI (As := [.int v1]) (rest := []) C hS KJ1_canEncode_9a6ad (cJ1_canEncode_9a6ad_ qr_1) g_632 ⟨rfl, rfl⟩ ⟨(Nat.le_of_ble_eq_true rfl), (Nat.le_of_ble_eq_true rfl)⟩ hl.1 rfl rfl (Nat.le_of_ble_eq_true rfl) ⟨Nat.zero_le _, Nat.zero_le _⟩ dJ1_indexOf_4cfef_1 (fun H locs hS => ?_)
  refine lv_if_ne (tgt := 9) hx hb dJ1_indexOf_4cfef_4 (by decide) (fun c_3 => ?_) (fun c_3 => ?_)
  · replace hf := if_n c_3 hf
    refine lv_iload_n hx hb dJ1_indexOf_4cfef_9 rfl (lv_at hl 2 rfl) ?_
    refine lv_iconst (v := 0) hx hb dJ1_indexOf_4cfef_10 (by decide) ?_
    refine va_mmax hx hb (C.2.2.1.trans hl.1.symm) hown (hw _ g_635) (hw _ g_296) (hw _ g_10) (hw _ g_297) (Nat.le_of_ble_eq_true rfl) (Nat.le_of_ble_eq_true rfl) (Nat.zero_le _) (Nat.zero_le _) dJ1_indexOf_4cfef_11 ?_
    obtain ⟨v_4, ev_4, hf⟩ := st_out hf
    refine topI ev_4 ?_
    refine lv_istore_n (lv' := [(2, .int v_4), (0, .ref (G.2.2.2.2 (7 + v0))), (1, .int v1), (3, .int v3)]) hx hb dJ1_indexOf_4cfef_14 rfl hl (by decide) rfl (fun ls hl => ?_)
    refine lv_iload_n hx hb dJ1_indexOf_4cfef_15 rfl (lv_at hl 3 rfl) ?_
    refine lv_aload_n hx hb dJ1_indexOf_4cfef_16 rfl (lv_at hl 1 rfl) ?_
    refine anSb C hS hs0 dJ1_indexOf_4cfef_17 ?_
    refine va_mmin hx hb (C.2.2.1.trans hl.1.symm) hown (hw _ g_636) (hw _ g_324) (hw _ g_10) (hw _ g_325) (Nat.le_of_ble_eq_true rfl) (Nat.le_of_ble_eq_true rfl) (Nat.zero_le _) (Nat.zero_le _) dJ1_indexOf_4cfef_18 ?_
    obtain ⟨v_5, ev_5, hf⟩ := st_out hf
    refine topI ev_5 ?_
    refine lv_istore_n (lv' := [(3, .int v_5), (2, .int v_4), (0, .ref (G.2.2.2.2 (7 + v0))), (1, .int v1)]) hx hb dJ1_indexOf_4cfef_21 rfl hl (by decide) rfl (fun ls hl => ?_)
    refine lv_iload_n hx hb dJ1_indexOf_4cfef_22 rfl (lv_at hl 1 rfl) ?_
    refine lv_iload_n hx hb dJ1_indexOf_4cfef_23 rfl (lv_at hl 0 rfl) ?_
    refine lv_icmp_lt (tgt := 29) hx hb dJ1_indexOf_4cfef_24 (by decide) (fun c_6 => ?_) (fun c_6 => ?_)
    · replace hf := if_p c_6 hf
      refine lv_aload_n hx hb dJ1_indexOf_4cfef_29 rfl (lv_at hl 2 rfl) ?_
      refine lv_iload_n hx hb dJ1_indexOf_4cfef_30 rfl (lv_at hl 3 rfl) ?_
      refine lv_iload_n hx hb dJ1_indexOf_4cfef_31 rfl (lv_at hl 1 rfl) ?_
      refine lv_iload_n hx hb dJ1_indexOf_4cfef_32 rfl (lv_at hl 0 rfl) ?_
      obtain ⟨r_7, x_8, qr_7, hf⟩ := bd_out hf
      refine rsI (As := [.ref (G.2.2.2.2 (7 + v0)), .int v1, .int v_4, .int v_5]) (rest := []) C hS KJ1_indexOfChar_4cfef (cJ1_indexOfChar_4cfef_ hs0 qr_7) g_637 ⟨rfl, rfl⟩ ⟨(Nat.le_of_ble_eq_true rfl), (Nat.le_of_ble_eq_true rfl)⟩ hl.1 rfl rfl (Nat.le_of_ble_eq_true rfl) ⟨Nat.zero_le _, Nat.zero_le _⟩ dJ1_indexOf_4cfef_33 (fun H locs hS => ?_)
      exact rtI C hS hf dJ1_indexOf_4cfef_36
    · replace hf := if_n c_6 hf
      refine lv_iconst (v := (-1)) hx hb dJ1_indexOf_4cfef_27 (by decide) ?_
      exact rtI C hS hf dJ1_indexOf_4cfef_28
  · replace hf := if_p c_3 hf
    refine lv_iconst (v := (-1)) hx hb dJ1_indexOf_4cfef_7 (by decide) ?_
    exact rtI C hS hf dJ1_indexOf_4cfef_8
abbrev rmJ0_indexOf_7cf53 : Room := { frames := 2, cells := 0, slots := 0, locals := 83 }
set_option maxRecDepth 100000 in
set_option maxHeartbeats 4000000 in
theorem cJ0_indexOf_7cf53_ {G : GT} {l : Launch} {a0 : Nat} {v1 : Int32} {v2 : Int32} (hs0 : a0 < 6) {x z : XS} {r : Int32} (hf : fJ0_indexOf_7cf53 a0 v1 v2 x = some (r, z)) : Ct G l yJ0_indexOf_7cf53 (.code yJ0_indexOf_7cf53 cJ0_indexOf_7cf53 3 (some .int)) rmJ0_indexOf_7cf53 [.ref (G.2.2.2.2 (1 + a0)), .int v1, .int v2] x (some (.int r)) z := by
  refine Ct.of (by decide +kernel) (Nat.le_of_ble_eq_true rfl) ?_
  intro p e s m args below meth c C ls hl hS
  have C : CX G p s m args meth c cJ0_indexOf_7cf53 3 (some .int) RJ0 := C
  have hl : lv_has ls 3 [(0, .ref (G.2.2.2.2 (1 + a0))), (1, .int v1), (2, .int v2)] := hl
  have hx := C.1
  have hb := C.2.1
  have hown := C.2.2.2.2.2.1
  have hw := C.2.2.2.2.2.2.1
  unfold fJ0_indexOf_7cf53 at hf
  refine lv_aload_n hx hb dJ0_indexOf_7cf53_0 rfl (lv_at hl 0 rfl) ?_
  obtain ⟨r_1, x_2, qr_1, hf⟩ := bd_out hf
  refine rzI (As := []) (rest := []) C hS hs0 KJ0_isLatin1_aae02 (cJ0_isLatin1_aae02_ hs0 qr_1) g_546 ⟨rfl, rfl⟩ ⟨(Nat.le_of_ble_eq_true rfl), (Nat.le_of_ble_eq_true rfl)⟩ hl.1 rfl rfl (Nat.le_of_ble_eq_true rfl) ⟨Nat.zero_le _, Nat.zero_le _⟩ dJ0_indexOf_7cf53_1 (fun H locs hS => ?_)
  refine lv_if_eq (tgt := 23) hx hb dJ0_indexOf_7cf53_4 (by decide) (fun c_3 => ?_) (fun c_3 => ?_)
  · replace hf := if_p c_3 hf
    refine lv_aload_n hx hb dJ0_indexOf_7cf53_23 rfl (lv_at hl 0 rfl) ?_
    refine gfSv C hS hs0 g_1243 dJ0_indexOf_7cf53_24 ?_
    refine lv_iload_n hx hb dJ0_indexOf_7cf53_27 rfl (lv_at hl 1 rfl) ?_
    refine lv_iload_n hx hb dJ0_indexOf_7cf53_28 rfl (lv_at hl 2 rfl) ?_
    refine lv_aload_n hx hb dJ0_indexOf_7cf53_29 rfl (lv_at hl 0 rfl) ?_
    obtain ⟨r_4, x_5, qr_4, hf⟩ := bd_out hf
    refine rzI (As := []) (rest := [.int v2, .int v1, .ref (G.2.2.2.2 (7 + a0))]) C hS hs0 KJ0_length_8abf5 (cJ0_length_8abf5_ hs0 qr_4) g_628 ⟨rfl, rfl⟩ ⟨(Nat.le_of_ble_eq_true rfl), (Nat.le_of_ble_eq_true rfl)⟩ hl.1 rfl rfl (Nat.le_of_ble_eq_true rfl) ⟨Nat.zero_le _, Nat.zero_le _⟩ dJ0_indexOf_7cf53_30 (fun H locs hS => ?_)
    exact absurd hf (by intro q; cases q)
  · replace hf := if_n c_3 hf
    refine lv_aload_n hx hb dJ0_indexOf_7cf53_7 rfl (lv_at hl 0 rfl) ?_
    refine gfSv C hS hs0 g_1243 dJ0_indexOf_7cf53_8 ?_
    refine lv_iload_n hx hb dJ0_indexOf_7cf53_11 rfl (lv_at hl 1 rfl) ?_
    refine lv_iload_n hx hb dJ0_indexOf_7cf53_12 rfl (lv_at hl 2 rfl) ?_
    refine lv_aload_n hx hb dJ0_indexOf_7cf53_13 rfl (lv_at hl 0 rfl) ?_
    obtain ⟨r_6, x_7, qr_6, hf⟩ := bd_out hf
    refine rzI (As := []) (rest := [.int v2, .int v1, .ref (G.2.2.2.2 (7 + a0))]) C hS hs0 KJ0_length_8abf5 (cJ0_length_8abf5_ hs0 qr_6) g_628 ⟨rfl, rfl⟩ ⟨(Nat.le_of_ble_eq_true rfl), (Nat.le_of_ble_eq_true rfl)⟩ hl.1 rfl rfl (Nat.le_of_ble_eq_true rfl) ⟨Nat.zero_le _, Nat.zero_le _⟩ dJ0_indexOf_7cf53_14 (fun H locs hS => ?_)
    obtain ⟨r_8, x_9, qr_8, hf⟩ := bd_out hf
    refine rsI (As := [.ref (G.2.2.2.2 (7 + a0)), .int v1, .int v2, .int r_6]) (rest := []) C hS KJ1_indexOf_4cfef (cJ1_indexOf_4cfef_ hs0 qr_8) g_629 ⟨rfl, rfl⟩ ⟨(Nat.le_of_ble_eq_true rfl), (Nat.le_of_ble_eq_true rfl)⟩ hl.1 rfl rfl (Nat.le_of_ble_eq_true rfl) ⟨Nat.zero_le _, Nat.zero_le _⟩ dJ0_indexOf_7cf53_17 (fun H locs hS => ?_)
    refine lv_goto (tgt := 36) hx hb dJ0_indexOf_7cf53_20 (by decide) ?_
    exact rtI C hS hf dJ0_indexOf_7cf53_36
abbrev rmJ0_indexOf_0f7a4 : Room := { frames := 3, cells := 0, slots := 0, locals := 105 }
set_option maxRecDepth 100000 in
set_option maxHeartbeats 4000000 in
theorem cJ0_indexOf_0f7a4_ {G : GT} {l : Launch} {a0 : Nat} {v1 : Int32} (hs0 : a0 < 6) {x z : XS} {r : Int32} (hf : fJ0_indexOf_0f7a4 a0 v1 x = some (r, z)) : Ct G l yJ0_indexOf_0f7a4 (.code yJ0_indexOf_0f7a4 cJ0_indexOf_0f7a4 2 (some .int)) rmJ0_indexOf_0f7a4 [.ref (G.2.2.2.2 (1 + a0)), .int v1] x (some (.int r)) z := by
  refine Ct.of (by decide +kernel) (Nat.le_of_ble_eq_true rfl) ?_
  intro p e s m args below meth c C ls hl hS
  have C : CX G p s m args meth c cJ0_indexOf_0f7a4 2 (some .int) RJ0 := C
  have hl : lv_has ls 2 [(0, .ref (G.2.2.2.2 (1 + a0))), (1, .int v1)] := hl
  have hx := C.1
  have hb := C.2.1
  have hown := C.2.2.2.2.2.1
  have hw := C.2.2.2.2.2.2.1
  unfold fJ0_indexOf_0f7a4 at hf
  refine lv_aload_n hx hb dJ0_indexOf_0f7a4_0 rfl (lv_at hl 0 rfl) ?_
  refine lv_iload_n hx hb dJ0_indexOf_0f7a4_1 rfl (lv_at hl 1 rfl) ?_
  refine lv_iconst (v := 0) hx hb dJ0_indexOf_0f7a4_2 (by decide) ?_
  obtain ⟨r_1, x_2, qr_1, hf⟩ := bd_out hf
  refine rzI (As := [.int v1, .int 0]) (rest := []) C hS hs0 KJ0_indexOf_7cf53 (cJ0_indexOf_7cf53_ hs0 qr_1) g_624 ⟨rfl, rfl⟩ ⟨(Nat.le_of_ble_eq_true rfl), (Nat.le_of_ble_eq_true rfl)⟩ hl.1 rfl rfl (Nat.le_of_ble_eq_true rfl) ⟨Nat.zero_le _, Nat.zero_le _⟩ dJ0_indexOf_0f7a4_3 (fun H locs hS => ?_)
  exact rtI C hS hf dJ0_indexOf_0f7a4_6
abbrev rmX0_mayBe : Room := { frames := 0, cells := 0, slots := 0, locals := 0 }
set_option maxRecDepth 100000 in
set_option maxHeartbeats 4000000 in
theorem cX0_mayBe_ {G : GT} {l : Launch} {v0 : Int32} {v1 : Int32} {x z : XS} {r : Int32} (hf : fX0_mayBe v0 v1 x = some (r, z)) : Ct G l yX0_mayBe (.code yX0_mayBe cX0_mayBe 2 (some .boolean)) rmX0_mayBe [.int v0, .int v1] x (some (.int r)) z := by
  refine Ct.of (by decide +kernel) (Nat.le_of_ble_eq_true rfl) ?_
  intro p e s m args below meth c C ls hl hS
  have C : CX G p s m args meth c cX0_mayBe 2 (some .boolean) RX0 := C
  have hl : lv_has ls 2 [(0, .int v0), (1, .int v1)] := hl
  have hx := C.1
  have hb := C.2.1
  have hown := C.2.2.2.2.2.1
  have hw := C.2.2.2.2.2.2.1
  unfold fX0_mayBe at hf
  refine lv_iload_n hx hb dX0_mayBe_0 rfl (lv_at hl 0 rfl) ?_
  by_cases c_1 : v0 = 1
  · replace hf := if_p c_1 hf
    refine tswI (k := 1) (off := 27) (tgt := 28) hx hb dX0_mayBe_1 c_1 (by decide) rfl (by decide) ?_
    refine lv_iload_n hx hb dX0_mayBe_28 rfl (lv_at hl 1 rfl) ?_
    refine lv_if_lt (tgt := 42) hx hb dX0_mayBe_29 (by decide) (fun c_2 => ?_) (fun c_2 => ?_)
    · replace hf := if_p c_2 hf
      refine lv_iconst (v := 0) hx hb dX0_mayBe_42 (by decide) ?_
      exact rtZ C hS rfl hf dX0_mayBe_43
    · replace hf := if_n c_2 hf
      refine lv_iload_n hx hb dX0_mayBe_32 rfl (lv_at hl 1 rfl) ?_
      refine lv_bipush (v := 10) hx hb dX0_mayBe_33 (by decide) ?_
      refine lv_icmp_ge (tgt := 42) hx hb dX0_mayBe_35 (by decide) (fun c_3 => ?_) (fun c_3 => ?_)
      · replace hf := if_p c_3 hf
        refine lv_iconst (v := 0) hx hb dX0_mayBe_42 (by decide) ?_
        exact rtZ C hS rfl hf dX0_mayBe_43
      · replace hf := if_n c_3 hf
        refine lv_iconst (v := 1) hx hb dX0_mayBe_38 (by decide) ?_
        refine lv_goto (tgt := 43) hx hb dX0_mayBe_39 (by decide) ?_
        exact rtZ C hS rfl hf dX0_mayBe_43
  · replace hf := if_n c_1 hf
    by_cases c_4 : v0 = 2
    · replace hf := if_p c_4 hf
      refine tswI (k := 2) (off := 43) (tgt := 44) hx hb dX0_mayBe_1 c_4 (by decide) rfl (by decide) ?_
      refine lv_iload_n hx hb dX0_mayBe_44 rfl (lv_at hl 1 rfl) ?_
      refine lv_iconst (v := 1) hx hb dX0_mayBe_45 (by decide) ?_
      refine lv_icmp_lt (tgt := 59) hx hb dX0_mayBe_46 (by decide) (fun c_5 => ?_) (fun c_5 => ?_)
      · replace hf := if_p c_5 hf
        refine lv_iconst (v := 0) hx hb dX0_mayBe_59 (by decide) ?_
        exact rtZ C hS rfl hf dX0_mayBe_60
      · replace hf := if_n c_5 hf
        refine lv_iload_n hx hb dX0_mayBe_49 rfl (lv_at hl 1 rfl) ?_
        refine lv_bipush (v := 99) hx hb dX0_mayBe_50 (by decide) ?_
        refine lv_icmp_gt (tgt := 59) hx hb dX0_mayBe_52 (by decide) (fun c_6 => ?_) (fun c_6 => ?_)
        · replace hf := if_p c_6 hf
          refine lv_iconst (v := 0) hx hb dX0_mayBe_59 (by decide) ?_
          exact rtZ C hS rfl hf dX0_mayBe_60
        · replace hf := if_n c_6 hf
          refine lv_iconst (v := 1) hx hb dX0_mayBe_55 (by decide) ?_
          refine lv_goto (tgt := 60) hx hb dX0_mayBe_56 (by decide) ?_
          exact rtZ C hS rfl hf dX0_mayBe_60
    · replace hf := if_n c_4 hf
      by_cases c_7 : v0 = 3
      · replace hf := if_p c_7 hf
        refine tswI (k := 3) (off := 60) (tgt := 61) hx hb dX0_mayBe_1 c_7 (by decide) rfl (by decide) ?_
        refine lv_iload_n hx hb dX0_mayBe_61 rfl (lv_at hl 1 rfl) ?_
        refine lv_iconst (v := 1) hx hb dX0_mayBe_62 (by decide) ?_
        refine lv_icmp_lt (tgt := 76) hx hb dX0_mayBe_63 (by decide) (fun c_8 => ?_) (fun c_8 => ?_)
        · replace hf := if_p c_8 hf
          refine lv_iconst (v := 0) hx hb dX0_mayBe_76 (by decide) ?_
          exact rtZ C hS rfl hf dX0_mayBe_77
        · replace hf := if_n c_8 hf
          refine lv_iload_n hx hb dX0_mayBe_66 rfl (lv_at hl 1 rfl) ?_
          refine lv_bipush (v := 20) hx hb dX0_mayBe_67 (by decide) ?_
          refine lv_icmp_gt (tgt := 76) hx hb dX0_mayBe_69 (by decide) (fun c_9 => ?_) (fun c_9 => ?_)
          · replace hf := if_p c_9 hf
            refine lv_iconst (v := 0) hx hb dX0_mayBe_76 (by decide) ?_
            exact rtZ C hS rfl hf dX0_mayBe_77
          · replace hf := if_n c_9 hf
            refine lv_iconst (v := 1) hx hb dX0_mayBe_72 (by decide) ?_
            refine lv_goto (tgt := 77) hx hb dX0_mayBe_73 (by decide) ?_
            exact rtZ C hS rfl hf dX0_mayBe_77
      · replace hf := if_n c_7 hf
        refine lv_tableOut (tgt := 78) hx hb dX0_mayBe_1 (by have zc_1 := lv_neT c_1 (a := 1) (by decide); have zc_4 := lv_neT c_4 (a := 2) (by decide); have zc_7 := lv_neT c_7 (a := 3) (by decide); omega) (by decide) ?_
        refine lv_iconst (v := 0) hx hb dX0_mayBe_78 (by decide) ?_
        exact rtZ C hS rfl hf dX0_mayBe_79
abbrev rmX0_change : Room := { frames := 0, cells := 0, slots := 0, locals := 0 }
set_option maxRecDepth 100000 in
set_option maxHeartbeats 4000000 in
theorem cX0_change_ {G : GT} {l : Launch} {a0 : Nat} {v1 : Int32} {v2 : Int32} (ha0 : tg a0 = 0) {x z : XS} {r : Unit} (hf : fX0_change a0 v1 v2 x = some (r, z)) : Ct G l yX0_change (.code yX0_change cX0_change 3 none) rmX0_change [.ref (G.1 + a0), .int v1, .int v2] x none z := by
  refine Ct.of (by decide +kernel) (Nat.le_of_ble_eq_true rfl) ?_
  intro p e s m args below meth c C ls hl hS
  have C : CX G p s m args meth c cX0_change 3 none RX0 := C
  have hl : lv_has ls 3 [(0, .ref (G.1 + a0)), (1, .int v1), (2, .int v2)] := hl
  have hx := C.1
  have hb := C.2.1
  have hown := C.2.2.2.2.2.1
  have hw := C.2.2.2.2.2.2.1
  unfold fX0_change at hf
  refine lv_iload_n hx hb dX0_change_0 rfl (lv_at hl 1 rfl) ?_
  refine lv_iconst (v := 1) hx hb dX0_change_1 (by decide) ?_
  refine lv_icmp_ne (tgt := 13) hx hb dX0_change_2 (by decide) (fun c_1 => ?_) (fun c_1 => ?_)
  · replace hf := if_n c_1 hf
    refine lv_iload_n hx hb dX0_change_13 rfl (lv_at hl 1 rfl) ?_
    refine lv_iconst (v := 2) hx hb dX0_change_14 (by decide) ?_
    refine lv_icmp_ne (tgt := 26) hx hb dX0_change_15 (by decide) (fun c_2 => ?_) (fun c_2 => ?_)
    · replace hf := if_n c_2 hf
      refine lv_iload_n hx hb dX0_change_26 rfl (lv_at hl 1 rfl) ?_
      refine lv_iconst (v := 3) hx hb dX0_change_27 (by decide) ?_
      refine lv_icmp_ne (tgt := 36) hx hb dX0_change_28 (by decide) (fun c_3 => ?_) (fun c_3 => ?_)
      · replace hf := if_n c_3 hf
        exact rtV C hS (r := ()) hf dX0_change_36
      · replace hf := if_p c_3 hf
        refine lv_aload_n hx hb dX0_change_31 rfl (lv_at hl 0 rfl) ?_
        refine lv_iload_n hx hb dX0_change_32 rfl (lv_at hl 2 rfl) ?_
        obtain ⟨x_4, ex_4, hf⟩ := st_out hf
        refine pf0_3 C hS ha0 g_76 ex_4 dX0_change_33 (fun H locs hS => ?_)
        exact rtV C hS (r := ()) hf dX0_change_36
    · replace hf := if_p c_2 hf
      refine lv_aload_n hx hb dX0_change_18 rfl (lv_at hl 0 rfl) ?_
      refine lv_iload_n hx hb dX0_change_19 rfl (lv_at hl 2 rfl) ?_
      obtain ⟨x_5, ex_5, hf⟩ := st_out hf
      refine pf0_2 C hS ha0 g_73 ex_5 dX0_change_20 (fun H locs hS => ?_)
      refine lv_goto (tgt := 36) hx hb dX0_change_23 (by decide) ?_
      exact rtV C hS (r := ()) hf dX0_change_36
  · replace hf := if_p c_1 hf
    refine lv_aload_n hx hb dX0_change_5 rfl (lv_at hl 0 rfl) ?_
    refine lv_iload_n hx hb dX0_change_6 rfl (lv_at hl 2 rfl) ?_
    obtain ⟨x_6, ex_6, hf⟩ := st_out hf
    refine pf0_1 C hS ha0 g_71 ex_6 dX0_change_7 (fun H locs hS => ?_)
    refine lv_goto (tgt := 36) hx hb dX0_change_10 (by decide) ?_
    exact rtV C hS (r := ()) hf dX0_change_36
abbrev rmX0_become : Room := { frames := 0, cells := 0, slots := 0, locals := 0 }
set_option maxRecDepth 100000 in
set_option maxHeartbeats 4000000 in
theorem cX0_become_ {G : GT} {l : Launch} {a0 : Nat} {a1 : Nat} (ha0 : tg a0 = 0) (ha1 : tg a1 = 0) {x z : XS} {r : Unit} (hf : fX0_become a0 a1 x = some (r, z)) : Ct G l yX0_become (.code yX0_become cX0_become 2 none) rmX0_become [.ref (G.1 + a0), .ref (G.1 + a1)] x none z := by
  refine Ct.of (by decide +kernel) (Nat.le_of_ble_eq_true rfl) ?_
  intro p e s m args below meth c C ls hl hS
  have C : CX G p s m args meth c cX0_become 2 none RX0 := C
  have hl : lv_has ls 2 [(0, .ref (G.1 + a0)), (1, .ref (G.1 + a1))] := hl
  have hx := C.1
  have hb := C.2.1
  have hown := C.2.2.2.2.2.1
  have hw := C.2.2.2.2.2.2.1
  unfold fX0_become at hf
  refine lv_aload_n hx hb dX0_become_0 rfl (lv_at hl 0 rfl) ?_
  refine lv_aload_n hx hb dX0_become_1 rfl (lv_at hl 1 rfl) ?_
  refine gf0_0 C hS ha1 g_68 dX0_become_2 ?_
  obtain ⟨x_1, ex_1, hf⟩ := st_out hf
  refine pf0_0 C hS ha0 g_68 ex_1 dX0_become_5 (fun H locs hS => ?_)
  refine lv_aload_n hx hb dX0_become_8 rfl (lv_at hl 0 rfl) ?_
  refine lv_aload_n hx hb dX0_become_9 rfl (lv_at hl 1 rfl) ?_
  refine gf0_1 C hS ha1 g_71 dX0_become_10 ?_
  obtain ⟨x_2, ex_2, hf⟩ := st_out hf
  refine pf0_1 C hS ha0 g_71 ex_2 dX0_become_13 (fun H locs hS => ?_)
  refine lv_aload_n hx hb dX0_become_16 rfl (lv_at hl 0 rfl) ?_
  refine lv_aload_n hx hb dX0_become_17 rfl (lv_at hl 1 rfl) ?_
  refine gf0_2 C hS ha1 g_73 dX0_become_18 ?_
  obtain ⟨x_3, ex_3, hf⟩ := st_out hf
  refine pf0_2 C hS ha0 g_73 ex_3 dX0_become_21 (fun H locs hS => ?_)
  refine lv_aload_n hx hb dX0_become_24 rfl (lv_at hl 0 rfl) ?_
  refine lv_aload_n hx hb dX0_become_25 rfl (lv_at hl 1 rfl) ?_
  refine gf0_3 C hS ha1 g_76 dX0_become_26 ?_
  obtain ⟨x_4, ex_4, hf⟩ := st_out hf
  refine pf0_3 C hS ha0 g_76 ex_4 dX0_become_29 (fun H locs hS => ?_)
  refine lv_aload_n hx hb dX0_become_32 rfl (lv_at hl 0 rfl) ?_
  refine lv_aload_n hx hb dX0_become_33 rfl (lv_at hl 1 rfl) ?_
  refine gf0_4 C hS ha1 g_78 dX0_become_34 ?_
  obtain ⟨x_5, ex_5, hf⟩ := st_out hf
  refine pf0_4 C hS ha0 g_78 ex_5 dX0_become_37 (fun H locs hS => ?_)
  refine lv_aload_n hx hb dX0_become_40 rfl (lv_at hl 0 rfl) ?_
  refine lv_aload_n hx hb dX0_become_41 rfl (lv_at hl 1 rfl) ?_
  refine gf0_5 C hS ha1 g_81 dX0_become_42 ?_
  obtain ⟨x_6, ex_6, hf⟩ := st_out hf
  refine pf0_5 C hS ha0 g_81 ex_6 dX0_become_45 (fun H locs hS => ?_)
  refine lv_aload_n hx hb dX0_become_48 rfl (lv_at hl 0 rfl) ?_
  refine lv_aload_n hx hb dX0_become_49 rfl (lv_at hl 1 rfl) ?_
  refine gf0_6 C hS ha1 g_83 dX0_become_50 ?_
  obtain ⟨x_7, ex_7, hf⟩ := st_out hf
  refine pf0_6 C hS ha0 g_83 ex_7 dX0_become_53 (fun H locs hS => ?_)
  exact rtV C hS (r := ()) hf dX0_become_56
abbrev rmX0_start : Room := { frames := 0, cells := 0, slots := 0, locals := 0 }
set_option maxRecDepth 100000 in
set_option maxHeartbeats 4000000 in
theorem cX0_start_ {G : GT} {l : Launch} {a0 : Nat} {v1 : Int32} {v2 : Int32} {v3 : Int32} {v4 : Int32} (ha0 : tg a0 = 0) {x z : XS} {r : Unit} (hf : fX0_start a0 v1 v2 v3 v4 x = some (r, z)) : Ct G l yX0_start (.code yX0_start cX0_start 5 none) rmX0_start [.ref (G.1 + a0), .int v1, .int v2, .int v3, .int v4] x none z := by
  refine Ct.of (by decide +kernel) (Nat.le_of_ble_eq_true rfl) ?_
  intro p e s m args below meth c C ls hl hS
  have C : CX G p s m args meth c cX0_start 5 none RX0 := C
  have hl : lv_has ls 5 [(0, .ref (G.1 + a0)), (1, .int v1), (2, .int v2), (3, .int v3), (4, .int v4)] := hl
  have hx := C.1
  have hb := C.2.1
  have hown := C.2.2.2.2.2.1
  have hw := C.2.2.2.2.2.2.1
  unfold fX0_start at hf
  refine lv_aload_n hx hb dX0_start_0 rfl (lv_at hl 0 rfl) ?_
  refine lv_iload_n hx hb dX0_start_1 rfl (lv_at hl 1 rfl) ?_
  obtain ⟨x_1, ex_1, hf⟩ := st_out hf
  refine pf0_0 C hS ha0 g_68 ex_1 dX0_start_2 (fun H locs hS => ?_)
  refine lv_aload_n hx hb dX0_start_5 rfl (lv_at hl 0 rfl) ?_
  refine lv_iload_n hx hb dX0_start_6 rfl (lv_at hl 2 rfl) ?_
  obtain ⟨x_2, ex_2, hf⟩ := st_out hf
  refine pf0_1 C hS ha0 g_71 ex_2 dX0_start_7 (fun H locs hS => ?_)
  refine lv_aload_n hx hb dX0_start_10 rfl (lv_at hl 0 rfl) ?_
  refine lv_iload_n hx hb dX0_start_11 rfl (lv_at hl 3 rfl) ?_
  obtain ⟨x_3, ex_3, hf⟩ := st_out hf
  refine pf0_2 C hS ha0 g_73 ex_3 dX0_start_12 (fun H locs hS => ?_)
  refine lv_aload_n hx hb dX0_start_15 rfl (lv_at hl 0 rfl) ?_
  refine lv_iload hx hb dX0_start_16 (lv_at hl 4 rfl) ?_
  obtain ⟨x_4, ex_4, hf⟩ := st_out hf
  refine pf0_3 C hS ha0 g_76 ex_4 dX0_start_18 (fun H locs hS => ?_)
  refine lv_aload_n hx hb dX0_start_21 rfl (lv_at hl 0 rfl) ?_
  refine lv_iconst (v := 0) hx hb dX0_start_22 (by decide) ?_
  obtain ⟨x_5, ex_5, hf⟩ := st_out hf
  refine pf0_4 C hS ha0 g_78 ex_5 dX0_start_23 (fun H locs hS => ?_)
  refine lv_aload_n hx hb dX0_start_26 rfl (lv_at hl 0 rfl) ?_
  refine lv_iconst (v := 0) hx hb dX0_start_27 (by decide) ?_
  obtain ⟨x_6, ex_6, hf⟩ := st_out hf
  refine pf0_5 C hS ha0 g_81 ex_6 dX0_start_28 (fun H locs hS => ?_)
  refine lv_aload_n hx hb dX0_start_31 rfl (lv_at hl 0 rfl) ?_
  refine lv_iconst (v := 0) hx hb dX0_start_32 (by decide) ?_
  obtain ⟨x_7, ex_7, hf⟩ := st_out hf
  refine pf0_6 C hS ha0 g_83 ex_7 dX0_start_33 (fun H locs hS => ?_)
  exact rtV C hS (r := ()) hf dX0_start_36
abbrev rmX1_takes : Room := { frames := 0, cells := 0, slots := 0, locals := 0 }
set_option maxRecDepth 100000 in
set_option maxHeartbeats 4000000 in
theorem cX1_takes_ {G : GT} {l : Launch} {v0 : Int32} {v1 : Int32} {x z : XS} {r : Int32} (hf : fX1_takes v0 v1 x = some (r, z)) : Ct G l yX1_takes (.code yX1_takes cX1_takes 2 (some .int)) rmX1_takes [.int v0, .int v1] x (some (.int r)) z := by
  refine Ct.of (by decide +kernel) (Nat.le_of_ble_eq_true rfl) ?_
  intro p e s m args below meth c C ls hl hS
  have C : CX G p s m args meth c cX1_takes 2 (some .int) RX1 := C
  have hl : lv_has ls 2 [(0, .int v0), (1, .int v1)] := hl
  have hx := C.1
  have hb := C.2.1
  have hown := C.2.2.2.2.2.1
  have hw := C.2.2.2.2.2.2.1
  unfold fX1_takes at hf
  refine lv_iload_n hx hb dX1_takes_0 rfl (lv_at hl 0 rfl) ?_
  by_cases c_1 : v0 = 1
  · replace hf := if_p c_1 hf
    refine tswI (k := 1) (off := 31) (tgt := 32) hx hb dX1_takes_1 c_1 (by decide) rfl (by decide) ?_
    refine lv_iconst (v := 1) hx hb dX1_takes_32 (by decide) ?_
    refine lv_iload_n hx hb dX1_takes_33 rfl (lv_at hl 1 rfl) ?_
    refine lv_iconst (v := 4) hx hb dX1_takes_34 (by decide) ?_
    refine lv_idiv hx hb dX1_takes_35 (by decide) ?_
    obtain ⟨v_2, ev_2, hf⟩ := st_out hf
    refine topI ev_2 ?_
    refine lv_iadd hx hb dX1_takes_36 ?_
    exact rtI C hS hf dX1_takes_37
  · replace hf := if_n c_1 hf
    by_cases c_3 : v0 = 2
    · replace hf := if_p c_3 hf
      refine tswI (k := 2) (off := 44) (tgt := 45) hx hb dX1_takes_1 c_3 (by decide) rfl (by decide) ?_
      refine lv_iconst (v := 1) hx hb dX1_takes_45 (by decide) ?_
      refine lv_iload_n hx hb dX1_takes_46 rfl (lv_at hl 1 rfl) ?_
      refine lv_iconst (v := 2) hx hb dX1_takes_47 (by decide) ?_
      refine lv_idiv hx hb dX1_takes_48 (by decide) ?_
      obtain ⟨v_4, ev_4, hf⟩ := st_out hf
      refine topI ev_4 ?_
      refine lv_iadd hx hb dX1_takes_49 ?_
      refine lv_iconst (v := 2) hx hb dX1_takes_50 (by decide) ?_
      refine lv_iadd hx hb dX1_takes_51 ?_
      exact rtI C hS hf dX1_takes_52
    · replace hf := if_n c_3 hf
      by_cases c_5 : v0 = 3
      · replace hf := if_p c_5 hf
        refine tswI (k := 3) (off := 37) (tgt := 38) hx hb dX1_takes_1 c_5 (by decide) rfl (by decide) ?_
        refine lv_iconst (v := 1) hx hb dX1_takes_38 (by decide) ?_
        refine lv_iload_n hx hb dX1_takes_39 rfl (lv_at hl 1 rfl) ?_
        refine lv_bipush (v := 6) hx hb dX1_takes_40 (by decide) ?_
        refine lv_idiv hx hb dX1_takes_42 (by decide) ?_
        obtain ⟨v_6, ev_6, hf⟩ := st_out hf
        refine topI ev_6 ?_
        refine lv_iadd hx hb dX1_takes_43 ?_
        exact rtI C hS hf dX1_takes_44
      · replace hf := if_n c_5 hf
        by_cases c_7 : v0 = 4
        · replace hf := if_p c_7 hf
          refine tswI (k := 4) (off := 44) (tgt := 45) hx hb dX1_takes_1 c_7 (by decide) rfl (by decide) ?_
          refine lv_iconst (v := 1) hx hb dX1_takes_45 (by decide) ?_
          refine lv_iload_n hx hb dX1_takes_46 rfl (lv_at hl 1 rfl) ?_
          refine lv_iconst (v := 2) hx hb dX1_takes_47 (by decide) ?_
          refine lv_idiv hx hb dX1_takes_48 (by decide) ?_
          obtain ⟨v_8, ev_8, hf⟩ := st_out hf
          refine topI ev_8 ?_
          refine lv_iadd hx hb dX1_takes_49 ?_
          refine lv_iconst (v := 2) hx hb dX1_takes_50 (by decide) ?_
          refine lv_iadd hx hb dX1_takes_51 ?_
          exact rtI C hS hf dX1_takes_52
        · replace hf := if_n c_7 hf
          refine lv_tableOut (tgt := 53) hx hb dX1_takes_1 (by have zc_1 := lv_neT c_1 (a := 1) (by decide); have zc_3 := lv_neT c_3 (a := 2) (by decide); have zc_5 := lv_neT c_5 (a := 3) (by decide); have zc_7 := lv_neT c_7 (a := 4) (by decide); omega) (by decide) ?_
          refine lv_iconst (v := 1) hx hb dX1_takes_53 (by decide) ?_
          refine lv_iload_n hx hb dX1_takes_54 rfl (lv_at hl 1 rfl) ?_
          refine lv_iconst (v := 2) hx hb dX1_takes_55 (by decide) ?_
          refine lv_idiv hx hb dX1_takes_56 (by decide) ?_
          obtain ⟨v_9, ev_9, hf⟩ := st_out hf
          refine topI ev_9 ?_
          refine lv_iadd hx hb dX1_takes_57 ?_
          exact rtI C hS hf dX1_takes_58
abbrev rmX1_asks : Room := { frames := 1, cells := 0, slots := 0, locals := 60 }
set_option maxRecDepth 100000 in
set_option maxHeartbeats 4000000 in
theorem cX1_asks_ {G : GT} {l : Launch} {v0 : Int32} {v1 : Int32} {x z : XS} {r : Int32} (hf : fX1_asks v0 v1 x = some (r, z)) : Ct G l yX1_asks (.code yX1_asks cX1_asks 2 (some .int)) rmX1_asks [.int v0, .int v1] x (some (.int r)) z := by
  refine Ct.of (by decide +kernel) (Nat.le_of_ble_eq_true rfl) ?_
  intro p e s m args below meth c C ls hl hS
  have C : CX G p s m args meth c cX1_asks 2 (some .int) RX1 := C
  have hl : lv_has ls 2 [(0, .int v0), (1, .int v1)] := hl
  have hx := C.1
  have hb := C.2.1
  have hown := C.2.2.2.2.2.1
  have hw := C.2.2.2.2.2.2.1
  unfold fX1_asks at hf
  refine lv_iload_n hx hb dX1_asks_0 rfl (lv_at hl 0 rfl) ?_
  by_cases c_1 : v0 = 2
  · replace hf := if_p c_1 hf
    refine tswI (k := 2) (off := 31) (tgt := 32) hx hb dX1_asks_1 c_1 (by decide) rfl (by decide) ?_
    refine lv_iload_n hx hb dX1_asks_32 rfl (lv_at hl 1 rfl) ?_
    refine lv_iconst (v := 3) hx hb dX1_asks_33 (by decide) ?_
    refine lv_iadd hx hb dX1_asks_34 ?_
    exact rtI C hS hf dX1_asks_35
  · replace hf := if_n c_1 hf
    by_cases c_2 : v0 = 3
    · replace hf := if_p c_2 hf
      refine tswI (k := 3) (off := 49) (tgt := 50) hx hb dX1_asks_1 c_2 (by decide) rfl (by decide) ?_
      refine lv_iload_n hx hb dX1_asks_50 rfl (lv_at hl 1 rfl) ?_
      exact rtI C hS hf dX1_asks_51
    · replace hf := if_n c_2 hf
      by_cases c_3 : v0 = 4
      · replace hf := if_p c_3 hf
        refine tswI (k := 4) (off := 35) (tgt := 36) hx hb dX1_asks_1 c_3 (by decide) rfl (by decide) ?_
        refine lv_iconst (v := 2) hx hb dX1_asks_36 (by decide) ?_
        refine lv_iload_n hx hb dX1_asks_37 rfl (lv_at hl 1 rfl) ?_
        refine lv_iconst (v := 3) hx hb dX1_asks_38 (by decide) ?_
        refine lv_iadd hx hb dX1_asks_39 ?_
        refine lv_imul hx hb dX1_asks_40 ?_
        exact rtI C hS hf dX1_asks_41
      · replace hf := if_n c_3 hf
        by_cases c_4 : v0 = 5
        · replace hf := if_p c_4 hf
          refine tswI (k := 5) (off := 41) (tgt := 42) hx hb dX1_asks_1 c_4 (by decide) rfl (by decide) ?_
          refine lv_iconst (v := 1) hx hb dX1_asks_42 (by decide) ?_
          refine lv_iload_n hx hb dX1_asks_43 rfl (lv_at hl 1 rfl) ?_
          refine lv_iconst (v := 2) hx hb dX1_asks_44 (by decide) ?_
          refine lv_isub hx hb dX1_asks_45 ?_
          refine va_mmax hx hb (C.2.2.1.trans hl.1.symm) hown (hw _ g_295) (hw _ g_296) (hw _ g_10) (hw _ g_297) (Nat.le_of_ble_eq_true rfl) (Nat.le_of_ble_eq_true rfl) (Nat.zero_le _) (Nat.zero_le _) dX1_asks_46 ?_
          obtain ⟨v_5, ev_5, hf⟩ := st_out hf
          refine topI ev_5 ?_
          exact rtI C hS hf dX1_asks_49
        · replace hf := if_n c_4 hf
          refine lv_tableOut (tgt := 50) hx hb dX1_asks_1 (by have zc_1 := lv_neT c_1 (a := 2) (by decide); have zc_2 := lv_neT c_2 (a := 3) (by decide); have zc_3 := lv_neT c_3 (a := 4) (by decide); have zc_4 := lv_neT c_4 (a := 5) (by decide); omega) (by decide) ?_
          refine lv_iload_n hx hb dX1_asks_50 rfl (lv_at hl 1 rfl) ?_
          exact rtI C hS hf dX1_asks_51
abbrev rmX1_worth : Room := { frames := 0, cells := 0, slots := 0, locals := 0 }
set_option maxRecDepth 100000 in
set_option maxHeartbeats 4000000 in
theorem cX1_worth_ {G : GT} {l : Launch} {v0 : Int32} {v1 : Int32} {x z : XS} {r : Int32} (hf : fX1_worth v0 v1 x = some (r, z)) : Ct G l yX1_worth (.code yX1_worth cX1_worth 2 (some .int)) rmX1_worth [.int v0, .int v1] x (some (.int r)) z := by
  refine Ct.of (by decide +kernel) (Nat.le_of_ble_eq_true rfl) ?_
  intro p e s m args below meth c C ls hl hS
  have C : CX G p s m args meth c cX1_worth 2 (some .int) RX1 := C
  have hl : lv_has ls 2 [(0, .int v0), (1, .int v1)] := hl
  have hx := C.1
  have hb := C.2.1
  have hown := C.2.2.2.2.2.1
  have hw := C.2.2.2.2.2.2.1
  unfold fX1_worth at hf
  refine lv_iload_n hx hb dX1_worth_0 rfl (lv_at hl 0 rfl) ?_
  by_cases c_1 : v0 = 1
  · replace hf := if_p c_1 hf
    refine tswI (k := 1) (off := 35) (tgt := 36) hx hb dX1_worth_1 c_1 (by decide) rfl (by decide) ?_
    refine lv_iload_n hx hb dX1_worth_36 rfl (lv_at hl 1 rfl) ?_
    refine lv_bipush (v := 8) hx hb dX1_worth_37 (by decide) ?_
    refine lv_iadd hx hb dX1_worth_39 ?_
    exact rtI C hS hf dX1_worth_40
  · replace hf := if_n c_1 hf
    by_cases c_2 : v0 = 2
    · replace hf := if_p c_2 hf
      refine tswI (k := 2) (off := 47) (tgt := 48) hx hb dX1_worth_1 c_2 (by decide) rfl (by decide) ?_
      refine lv_bipush (v := 99) hx hb dX1_worth_48 (by decide) ?_
      refine lv_iload_n hx hb dX1_worth_50 rfl (lv_at hl 1 rfl) ?_
      refine lv_isub hx hb dX1_worth_51 ?_
      exact rtI C hS hf dX1_worth_52
    · replace hf := if_n c_2 hf
      by_cases c_3 : v0 = 3
      · replace hf := if_p c_3 hf
        refine tswI (k := 3) (off := 40) (tgt := 41) hx hb dX1_worth_1 c_3 (by decide) rfl (by decide) ?_
        refine lv_iconst (v := 2) hx hb dX1_worth_41 (by decide) ?_
        refine lv_iload_n hx hb dX1_worth_42 rfl (lv_at hl 1 rfl) ?_
        refine lv_bipush (v := 8) hx hb dX1_worth_43 (by decide) ?_
        refine lv_iadd hx hb dX1_worth_45 ?_
        refine lv_imul hx hb dX1_worth_46 ?_
        exact rtI C hS hf dX1_worth_47
      · replace hf := if_n c_3 hf
        by_cases c_4 : v0 = 4
        · replace hf := if_p c_4 hf
          refine tswI (k := 4) (off := 52) (tgt := 53) hx hb dX1_worth_1 c_4 (by decide) rfl (by decide) ?_
          refine lv_bipush (v := 99) hx hb dX1_worth_53 (by decide) ?_
          refine lv_iload_n hx hb dX1_worth_55 rfl (lv_at hl 1 rfl) ?_
          refine lv_isub hx hb dX1_worth_56 ?_
          refine lv_iconst (v := 5) hx hb dX1_worth_57 (by decide) ?_
          refine lv_isub hx hb dX1_worth_58 ?_
          exact rtI C hS hf dX1_worth_59
        · replace hf := if_n c_4 hf
          by_cases c_5 : v0 = 5
          · replace hf := if_p c_5 hf
            refine tswI (k := 5) (off := 59) (tgt := 60) hx hb dX1_worth_1 c_5 (by decide) rfl (by decide) ?_
            refine lv_iconst (v := 2) hx hb dX1_worth_60 (by decide) ?_
            exact rtI C hS hf dX1_worth_61
          · replace hf := if_n c_5 hf
            refine lv_tableOut (tgt := 62) hx hb dX1_worth_1 (by have zc_1 := lv_neT c_1 (a := 1) (by decide); have zc_2 := lv_neT c_2 (a := 2) (by decide); have zc_3 := lv_neT c_3 (a := 3) (by decide); have zc_4 := lv_neT c_4 (a := 4) (by decide); have zc_5 := lv_neT c_5 (a := 5) (by decide); omega) (by decide) ?_
            refine lv_iload_n hx hb dX1_worth_62 rfl (lv_at hl 1 rfl) ?_
            exact rtI C hS hf dX1_worth_63
abbrev rmX0_fact : Room := { frames := 2, cells := 0, slots := 0, locals := 81 }
set_option maxRecDepth 100000 in
set_option maxHeartbeats 4000000 in
theorem cX0_fact_ {G : GT} {l : Launch} {a0 : Nat} {v1 : Int32} (ha0 : tg a0 = 0) {x z : XS} {r : Int32} (hf : fX0_fact a0 v1 x = some (r, z)) : Ct G l yX0_fact (.code yX0_fact cX0_fact 2 (some .int)) rmX0_fact [.ref (G.1 + a0), .int v1] x (some (.int r)) z := by
  refine Ct.of (by decide +kernel) (Nat.le_of_ble_eq_true rfl) ?_
  intro p e s m args below meth c C ls hl hS
  have C : CX G p s m args meth c cX0_fact 2 (some .int) RX0 := C
  have hl : lv_has ls 2 [(0, .ref (G.1 + a0)), (1, .int v1)] := hl
  have hx := C.1
  have hb := C.2.1
  have hown := C.2.2.2.2.2.1
  have hw := C.2.2.2.2.2.2.1
  unfold fX0_fact at hf
  refine lv_iload_n hx hb dX0_fact_0 rfl (lv_at hl 1 rfl) ?_
  by_cases c_1 : v1 = 0
  · replace hf := if_p c_1 hf
    refine tswI (k := 0) (off := 51) (tgt := 52) hx hb dX0_fact_1 c_1 (by decide) rfl (by decide) ?_
    refine lv_aload_n hx hb dX0_fact_52 rfl (lv_at hl 0 rfl) ?_
    refine gf0_0 C hS ha0 g_68 dX0_fact_53 ?_
    exact rtI C hS hf dX0_fact_56
  · replace hf := if_n c_1 hf
    by_cases c_2 : v1 = 1
    · replace hf := if_p c_2 hf
      refine tswI (k := 1) (off := 56) (tgt := 57) hx hb dX0_fact_1 c_2 (by decide) rfl (by decide) ?_
      refine lv_aload_n hx hb dX0_fact_57 rfl (lv_at hl 0 rfl) ?_
      refine gf0_1 C hS ha0 g_71 dX0_fact_58 ?_
      exact rtI C hS hf dX0_fact_61
    · replace hf := if_n c_2 hf
      by_cases c_3 : v1 = 2
      · replace hf := if_p c_3 hf
        refine tswI (k := 2) (off := 61) (tgt := 62) hx hb dX0_fact_1 c_3 (by decide) rfl (by decide) ?_
        refine lv_aload_n hx hb dX0_fact_62 rfl (lv_at hl 0 rfl) ?_
        refine gf0_2 C hS ha0 g_73 dX0_fact_63 ?_
        exact rtI C hS hf dX0_fact_66
      · replace hf := if_n c_3 hf
        by_cases c_4 : v1 = 3
        · replace hf := if_p c_4 hf
          refine tswI (k := 3) (off := 66) (tgt := 67) hx hb dX0_fact_1 c_4 (by decide) rfl (by decide) ?_
          refine lv_aload_n hx hb dX0_fact_67 rfl (lv_at hl 0 rfl) ?_
          refine gf0_3 C hS ha0 g_76 dX0_fact_68 ?_
          exact rtI C hS hf dX0_fact_71
        · replace hf := if_n c_4 hf
          by_cases c_5 : v1 = 4
          · replace hf := if_p c_5 hf
            refine tswI (k := 4) (off := 71) (tgt := 72) hx hb dX0_fact_1 c_5 (by decide) rfl (by decide) ?_
            refine lv_aload_n hx hb dX0_fact_72 rfl (lv_at hl 0 rfl) ?_
            refine gf0_4 C hS ha0 g_78 dX0_fact_73 ?_
            exact rtI C hS hf dX0_fact_76
          · replace hf := if_n c_5 hf
            by_cases c_6 : v1 = 5
            · replace hf := if_p c_6 hf
              refine tswI (k := 5) (off := 76) (tgt := 77) hx hb dX0_fact_1 c_6 (by decide) rfl (by decide) ?_
              refine lv_aload_n hx hb dX0_fact_77 rfl (lv_at hl 0 rfl) ?_
              refine gf0_5 C hS ha0 g_81 dX0_fact_78 ?_
              exact rtI C hS hf dX0_fact_81
            · replace hf := if_n c_6 hf
              by_cases c_7 : v1 = 6
              · replace hf := if_p c_7 hf
                refine tswI (k := 6) (off := 81) (tgt := 82) hx hb dX0_fact_1 c_7 (by decide) rfl (by decide) ?_
                refine lv_aload_n hx hb dX0_fact_82 rfl (lv_at hl 0 rfl) ?_
                refine gf0_6 C hS ha0 g_83 dX0_fact_83 ?_
                exact rtI C hS hf dX0_fact_86
              · replace hf := if_n c_7 hf
                by_cases c_8 : v1 = 7
                · replace hf := if_p c_8 hf
                  refine tswI (k := 7) (off := 86) (tgt := 87) hx hb dX0_fact_1 c_8 (by decide) rfl (by decide) ?_
                  refine lv_aload_n hx hb dX0_fact_87 rfl (lv_at hl 0 rfl) ?_
                  refine gf0_0 C hS ha0 g_68 dX0_fact_88 ?_
                  refine lv_aload_n hx hb dX0_fact_91 rfl (lv_at hl 0 rfl) ?_
                  refine gf0_3 C hS ha0 g_76 dX0_fact_92 ?_
                  obtain ⟨r_9, x_10, qr_9, hf⟩ := bd_out hf
                  refine rsI (As := [.int (x a0 0), .int (x a0 3)]) (rest := []) C hS KX1_takes (cX1_takes_ qr_9) g_289 ⟨rfl, rfl⟩ ⟨(Nat.le_of_ble_eq_true rfl), (Nat.le_of_ble_eq_true rfl)⟩ hl.1 rfl rfl (Nat.le_of_ble_eq_true rfl) ⟨Nat.zero_le _, Nat.zero_le _⟩ dX0_fact_95 (fun H locs hS => ?_)
                  exact rtI C hS hf dX0_fact_98
                · replace hf := if_n c_8 hf
                  by_cases c_11 : v1 = 8
                  · replace hf := if_p c_11 hf
                    refine tswI (k := 8) (off := 98) (tgt := 99) hx hb dX0_fact_1 c_11 (by decide) rfl (by decide) ?_
                    refine lv_aload_n hx hb dX0_fact_99 rfl (lv_at hl 0 rfl) ?_
                    refine gf0_0 C hS ha0 g_68 dX0_fact_100 ?_
                    refine lv_aload_n hx hb dX0_fact_103 rfl (lv_at hl 0 rfl) ?_
                    refine gf0_2 C hS ha0 g_73 dX0_fact_104 ?_
                    obtain ⟨r_12, x_13, qr_12, hf⟩ := bd_out hf
                    refine rsI (As := [.int (x a0 0), .int (x a0 2)]) (rest := []) C hS KX1_asks (cX1_asks_ qr_12) g_292 ⟨rfl, rfl⟩ ⟨(Nat.le_of_ble_eq_true rfl), (Nat.le_of_ble_eq_true rfl)⟩ hl.1 rfl rfl (Nat.le_of_ble_eq_true rfl) ⟨Nat.zero_le _, Nat.zero_le _⟩ dX0_fact_107 (fun H locs hS => ?_)
                    exact rtI C hS hf dX0_fact_110
                  · replace hf := if_n c_11 hf
                    refine lv_tableOut (tgt := 111) hx hb dX0_fact_1 (by have zc_1 := lv_neT c_1 (a := 0) (by decide); have zc_2 := lv_neT c_2 (a := 1) (by decide); have zc_3 := lv_neT c_3 (a := 2) (by decide); have zc_4 := lv_neT c_4 (a := 3) (by decide); have zc_5 := lv_neT c_5 (a := 4) (by decide); have zc_6 := lv_neT c_6 (a := 5) (by decide); have zc_7 := lv_neT c_7 (a := 6) (by decide); have zc_8 := lv_neT c_8 (a := 7) (by decide); have zc_11 := lv_neT c_11 (a := 8) (by decide); omega) (by decide) ?_
                    refine lv_aload_n hx hb dX0_fact_111 rfl (lv_at hl 0 rfl) ?_
                    refine gf0_0 C hS ha0 g_68 dX0_fact_112 ?_
                    refine lv_aload_n hx hb dX0_fact_115 rfl (lv_at hl 0 rfl) ?_
                    refine gf0_2 C hS ha0 g_73 dX0_fact_116 ?_
                    obtain ⟨r_14, x_15, qr_14, hf⟩ := bd_out hf
                    refine rsI (As := [.int (x a0 0), .int (x a0 2)]) (rest := []) C hS KX1_worth (cX1_worth_ qr_14) g_298 ⟨rfl, rfl⟩ ⟨(Nat.le_of_ble_eq_true rfl), (Nat.le_of_ble_eq_true rfl)⟩ hl.1 rfl rfl (Nat.le_of_ble_eq_true rfl) ⟨Nat.zero_le _, Nat.zero_le _⟩ dX0_fact_119 (fun H locs hS => ?_)
                    exact rtI C hS hf dX0_fact_122
abbrev rmX1_isUnder : Room := { frames := 0, cells := 0, slots := 0, locals := 0 }
set_option maxRecDepth 100000 in
set_option maxHeartbeats 4000000 in
theorem wbX1_isUnder_h4 {p : Program} {l : Launch} {e : Env} {s : State} {m : MethodId} {args : Array Value} {below : List Frame} {meth : Method} {c : Code} {G : GT} {r : Int32} {z : XS} (C : CX G p s m args meth c cX1_isUnder 4 (some .boolean) RX1) {k4 : Int32 → Int32 → Int32 → XS → Option (Int32 × XS)} (hk4 : ∀ (u1 : Int32) (u2 : Int32) (u3 : Int32) (x : XS), k4 u1 u2 u3 x = some (r, z) → ∀ (H : Heap) (locs : List Loc) (ls : Array Slot), SR G x H locs → lv_has ls 4 [(1, .int u1), (2, .int u2), (3, .int u3)] → W p l e rmX1_isUnder s m args below meth c H locs 0 0 (MQ below (QC G (some (.int r)) z) args s 0 0 (AB G)) (F0 m 4 ls [])) : ∀ (u1 : Int32) (u2 : Int32) (u3 : Int32) (x : XS), bX1_isUnder_h4 k4 u1 u2 u3 x = some (r, z) → ∀ (H : Heap) (locs : List Loc) (ls : Array Slot), SR G x H locs → lv_has ls 4 [(1, .int u1), (2, .int u2), (3, .int u3)] → W p l e rmX1_isUnder s m args below meth c H locs 0 0 (MQ below (QC G (some (.int r)) z) args s 0 0 (AB G)) (F0 m 4 ls []) := by
  intro u1 u2 u3 x hf H locs ls hS hl
  have hx := C.1
  have hb := C.2.1
  have hown := C.2.2.2.2.2.1
  have hw := C.2.2.2.2.2.2.1
  unfold bX1_isUnder_h4 at hf
  refine lv_iload_n hx hb dX1_isUnder_4 rfl (lv_at hl 2 rfl) ?_
  refine lv_bipush (v := 6) hx hb dX1_isUnder_5 (by decide) ?_
  refine lv_icmp_ge (tgt := 41) hx hb dX1_isUnder_7 (by decide) (fun c_1 => ?_) (fun c_1 => ?_)
  · replace hf := if_p c_1 hf
    refine lv_iconst (v := 0) hx hb dX1_isUnder_41 (by decide) ?_
    exact rtZ C hS rfl hf dX1_isUnder_42
  · replace hf := if_n c_1 hf
    refine lv_iload_n hx hb dX1_isUnder_10 rfl (lv_at hl 1 rfl) ?_
    refine lv_if_lt (tgt := 41) hx hb dX1_isUnder_11 (by decide) (fun c_2 => ?_) (fun c_2 => ?_)
    · replace hf := if_p c_2 hf
      refine lv_iconst (v := 0) hx hb dX1_isUnder_41 (by decide) ?_
      exact rtZ C hS rfl hf dX1_isUnder_42
    · replace hf := if_n c_2 hf
      refine lv_iload_n hx hb dX1_isUnder_14 rfl (lv_at hl 1 rfl) ?_
      refine gsA C hS g_337 dX1_isUnder_15 ?_
      refine anA C hS dX1_isUnder_18 ?_
      refine lv_icmp_ge (tgt := 41) hx hb dX1_isUnder_19 (by decide) (fun c_3 => ?_) (fun c_3 => ?_)
      · replace hf := if_p c_3 hf
        refine lv_iconst (v := 0) hx hb dX1_isUnder_41 (by decide) ?_
        exact rtZ C hS rfl hf dX1_isUnder_42
      · replace hf := if_n c_3 hf
        refine lv_iload_n hx hb dX1_isUnder_22 rfl (lv_at hl 1 rfl) ?_
        refine lv_iload_n hx hb dX1_isUnder_23 rfl (lv_at hl 0 rfl) ?_
        refine lv_icmp_ne (tgt := 29) hx hb dX1_isUnder_24 (by decide) (fun c_4 => ?_) (fun c_4 => ?_)
        · replace hf := if_n c_4 hf
          refine gsA C hS g_337 dX1_isUnder_29 ?_
          refine lv_iload_n hx hb dX1_isUnder_32 rfl (lv_at hl 1 rfl) ?_
          obtain ⟨gg_5, hf⟩ := gd_out hf
          refine alA C hS gg_5 dX1_isUnder_33 ?_
          obtain ⟨v_6, ev_6, hf⟩ := st_out hf
          refine topI ev_6 ?_
          refine lv_istore_n (lv' := [(2, .int v_6), (1, .int u1), (3, .int u3)]) hx hb dX1_isUnder_34 rfl hl (by decide) rfl (fun ls hl => ?_)
          obtain ⟨v_7, ev_7, hf⟩ := st_out hf
          refine lv_iinc (v := v_7) (lv' := [(3, .int v_7), (2, .int v_6), (1, .int u1)]) hx hb dX1_isUnder_35 hl (k := 2) rfl (by rw [ev_7]; rfl) (by decide) rfl (fun ls hl => ?_)
          refine lv_goto (tgt := 4) hx hb dX1_isUnder_38 (by decide) ?_
          exact hk4 u1 v_6 v_7 x hf _ _ _ hS (lv_sub hl [2, 1, 0] rfl)
        · replace hf := if_p c_4 hf
          refine lv_iconst (v := 1) hx hb dX1_isUnder_27 (by decide) ?_
          exact rtZ C hS rfl hf dX1_isUnder_28
theorem wlX1_isUnder_h4 {p : Program} {l : Launch} {e : Env} {s : State} {m : MethodId} {args : Array Value} {below : List Frame} {meth : Method} {c : Code} {G : GT} {r : Int32} {z : XS} (C : CX G p s m args meth c cX1_isUnder 4 (some .boolean) RX1) (n : Nat) : ∀ (u1 : Int32) (u2 : Int32) (u3 : Int32) (x : XS), lX1_isUnder_h4 n u1 u2 u3 x = some (r, z) → ∀ (H : Heap) (locs : List Loc) (ls : Array Slot), SR G x H locs → lv_has ls 4 [(1, .int u1), (2, .int u2), (3, .int u3)] → W p l e rmX1_isUnder s m args below meth c H locs 0 0 (MQ below (QC G (some (.int r)) z) args s 0 0 (AB G)) (F0 m 4 ls []) := by
  induction n with
  | zero => intro u1 u2 u3 x hf H locs ls hS hl; exact absurd hf (by intro q; cases q)
  | succ n ih => exact wbX1_isUnder_h4 C ih
theorem wX1_isUnder_h4 {p : Program} {l : Launch} {e : Env} {s : State} {m : MethodId} {args : Array Value} {below : List Frame} {meth : Method} {c : Code} {G : GT} {r : Int32} {z : XS} (C : CX G p s m args meth c cX1_isUnder 4 (some .boolean) RX1) : ∀ (u1 : Int32) (u2 : Int32) (u3 : Int32) (x : XS), fX1_isUnder_h4 u1 u2 u3 x = some (r, z) → ∀ (H : Heap) (locs : List Loc) (ls : Array Slot), SR G x H locs → lv_has ls 4 [(1, .int u1), (2, .int u2), (3, .int u3)] → W p l e rmX1_isUnder s m args below meth c H locs 0 0 (MQ below (QC G (some (.int r)) z) args s 0 0 (AB G)) (F0 m 4 ls []) := wlX1_isUnder_h4 C FU
set_option maxRecDepth 100000 in
set_option maxHeartbeats 4000000 in
theorem cX1_isUnder_ {G : GT} {l : Launch} {v0 : Int32} {v1 : Int32} {x z : XS} {r : Int32} (hf : fX1_isUnder v0 v1 x = some (r, z)) : Ct G l yX1_isUnder (.code yX1_isUnder cX1_isUnder 4 (some .boolean)) rmX1_isUnder [.int v0, .int v1] x (some (.int r)) z := by
  refine Ct.of (by decide +kernel) (Nat.le_of_ble_eq_true rfl) ?_
  intro p e s m args below meth c C ls hl hS
  have C : CX G p s m args meth c cX1_isUnder 4 (some .boolean) RX1 := C
  have hl : lv_has ls 4 [(0, .int v0), (1, .int v1)] := hl
  have hx := C.1
  have hb := C.2.1
  have hown := C.2.2.2.2.2.1
  have hw := C.2.2.2.2.2.2.1
  unfold fX1_isUnder at hf
  refine lv_iload_n hx hb dX1_isUnder_0 rfl (lv_at hl 0 rfl) ?_
  refine lv_istore_n (lv' := [(2, .int v0), (0, .int v0), (1, .int v1)]) hx hb dX1_isUnder_1 rfl hl (by decide) rfl (fun ls hl => ?_)
  refine lv_iconst (v := 0) hx hb dX1_isUnder_2 (by decide) ?_
  refine lv_istore_n (lv' := [(3, .int 0), (2, .int v0), (0, .int v0), (1, .int v1)]) hx hb dX1_isUnder_3 rfl hl (by decide) rfl (fun ls hl => ?_)
  exact wX1_isUnder_h4  C v1 v0 0 x hf _ _ _ hS (lv_sub hl [3, 1, 0] rfl)
abbrev rmX1_shineFrom : Room := { frames := 1, cells := 0, slots := 0, locals := 60 }
set_option maxRecDepth 100000 in
set_option maxHeartbeats 4000000 in
theorem cX1_shineFrom_ {G : GT} {l : Launch} {v0 : Int32} {v1 : Int32} {v2 : Int32} {x z : XS} {r : Int32} (hf : fX1_shineFrom v0 v1 v2 x = some (r, z)) : Ct G l yX1_shineFrom (.code yX1_shineFrom cX1_shineFrom 3 (some .int)) rmX1_shineFrom [.int v0, .int v1, .int v2] x (some (.int r)) z := by
  refine Ct.of (by decide +kernel) (Nat.le_of_ble_eq_true rfl) ?_
  intro p e s m args below meth c C ls hl hS
  have C : CX G p s m args meth c cX1_shineFrom 3 (some .int) RX1 := C
  have hl : lv_has ls 3 [(0, .int v0), (1, .int v1), (2, .int v2)] := hl
  have hx := C.1
  have hb := C.2.1
  have hown := C.2.2.2.2.2.1
  have hw := C.2.2.2.2.2.2.1
  unfold fX1_shineFrom at hf
  refine lv_iload_n hx hb dX1_shineFrom_0 rfl (lv_at hl 0 rfl) ?_
  by_cases c_1 : v0 = 1
  · replace hf := if_p c_1 hf
    refine tswI (k := 1) (off := 31) (tgt := 32) hx hb dX1_shineFrom_1 c_1 (by decide) rfl (by decide) ?_
    refine lv_iconst (v := 0) hx hb dX1_shineFrom_32 (by decide) ?_
    refine lv_iload_n hx hb dX1_shineFrom_33 rfl (lv_at hl 2 rfl) ?_
    refine lv_iconst (v := 5) hx hb dX1_shineFrom_34 (by decide) ?_
    refine lv_isub hx hb dX1_shineFrom_35 ?_
    refine va_mmax hx hb (C.2.2.1.trans hl.1.symm) hown (hw _ g_295) (hw _ g_296) (hw _ g_10) (hw _ g_297) (Nat.le_of_ble_eq_true rfl) (Nat.le_of_ble_eq_true rfl) (Nat.zero_le _) (Nat.zero_le _) dX1_shineFrom_36 ?_
    obtain ⟨v_2, ev_2, hf⟩ := st_out hf
    refine topI ev_2 ?_
    exact rtI C hS hf dX1_shineFrom_39
  · replace hf := if_n c_1 hf
    by_cases c_3 : v0 = 2
    · replace hf := if_p c_3 hf
      refine tswI (k := 2) (off := 39) (tgt := 40) hx hb dX1_shineFrom_1 c_3 (by decide) rfl (by decide) ?_
      refine lv_iload_n hx hb dX1_shineFrom_40 rfl (lv_at hl 2 rfl) ?_
      refine lv_bipush (v := 10) hx hb dX1_shineFrom_41 (by decide) ?_
      refine lv_iadd hx hb dX1_shineFrom_43 ?_
      exact rtI C hS hf dX1_shineFrom_44
    · replace hf := if_n c_3 hf
      by_cases c_4 : v0 = 3
      · replace hf := if_p c_4 hf
        refine tswI (k := 3) (off := 31) (tgt := 32) hx hb dX1_shineFrom_1 c_4 (by decide) rfl (by decide) ?_
        refine lv_iconst (v := 0) hx hb dX1_shineFrom_32 (by decide) ?_
        refine lv_iload_n hx hb dX1_shineFrom_33 rfl (lv_at hl 2 rfl) ?_
        refine lv_iconst (v := 5) hx hb dX1_shineFrom_34 (by decide) ?_
        refine lv_isub hx hb dX1_shineFrom_35 ?_
        refine va_mmax hx hb (C.2.2.1.trans hl.1.symm) hown (hw _ g_295) (hw _ g_296) (hw _ g_10) (hw _ g_297) (Nat.le_of_ble_eq_true rfl) (Nat.le_of_ble_eq_true rfl) (Nat.zero_le _) (Nat.zero_le _) dX1_shineFrom_36 ?_
        obtain ⟨v_5, ev_5, hf⟩ := st_out hf
        refine topI ev_5 ?_
        exact rtI C hS hf dX1_shineFrom_39
      · replace hf := if_n c_4 hf
        by_cases c_6 : v0 = 4
        · replace hf := if_p c_6 hf
          refine tswI (k := 4) (off := 44) (tgt := 45) hx hb dX1_shineFrom_1 c_6 (by decide) rfl (by decide) ?_
          refine lv_iload_n hx hb dX1_shineFrom_45 rfl (lv_at hl 1 rfl) ?_
          refine lv_bipush (v := 12) hx hb dX1_shineFrom_46 (by decide) ?_
          refine lv_icmp_le (tgt := 60) hx hb dX1_shineFrom_48 (by decide) (fun c_7 => ?_) (fun c_7 => ?_)
          · replace hf := if_p c_7 hf
            refine lv_iload_n hx hb dX1_shineFrom_60 rfl (lv_at hl 2 rfl) ?_
            refine lv_bipush (v := 10) hx hb dX1_shineFrom_61 (by decide) ?_
            refine lv_iadd hx hb dX1_shineFrom_63 ?_
            exact rtI C hS hf dX1_shineFrom_64
          · replace hf := if_n c_7 hf
            refine lv_iload_n hx hb dX1_shineFrom_51 rfl (lv_at hl 2 rfl) ?_
            refine lv_bipush (v := 10) hx hb dX1_shineFrom_52 (by decide) ?_
            refine lv_iadd hx hb dX1_shineFrom_54 ?_
            refine lv_iconst (v := 2) hx hb dX1_shineFrom_55 (by decide) ?_
            refine lv_idiv hx hb dX1_shineFrom_56 (by decide) ?_
            obtain ⟨v_8, ev_8, hf⟩ := st_out hf
            refine topI ev_8 ?_
            refine lv_goto (tgt := 64) hx hb dX1_shineFrom_57 (by decide) ?_
            exact rtI C hS hf dX1_shineFrom_64
        · replace hf := if_n c_6 hf
          refine lv_tableOut (tgt := 65) hx hb dX1_shineFrom_1 (by have zc_1 := lv_neT c_1 (a := 1) (by decide); have zc_3 := lv_neT c_3 (a := 2) (by decide); have zc_4 := lv_neT c_4 (a := 3) (by decide); have zc_6 := lv_neT c_6 (a := 4) (by decide); omega) (by decide) ?_
          refine lv_iload_n hx hb dX1_shineFrom_65 rfl (lv_at hl 2 rfl) ?_
          exact rtI C hS hf dX1_shineFrom_66
abbrev rmX2_renew : Room := { frames := 1, cells := 0, slots := 0, locals := 60 }
set_option maxRecDepth 100000 in
set_option maxHeartbeats 4000000 in
theorem wbX2_renew_h24 {p : Program} {l : Launch} {e : Env} {s : State} {m : MethodId} {args : Array Value} {below : List Frame} {meth : Method} {c : Code} {G : GT} {a0 : Nat} {r : Unit} {z : XS} (ha0 : tg a0 = 1) (C : CX G p s m args meth c cX2_renew 4 none RX2) {k24 : Int32 → XS → Option (Unit × XS)} (hk24 : ∀ (u3 : Int32) (x : XS), k24 u3 x = some (r, z) → ∀ (H : Heap) (locs : List Loc) (ls : Array Slot), SR G x H locs → lv_has ls 4 [(0, .ref (G.1 + a0)), (3, .int u3)] → W p l e rmX2_renew s m args below meth c H locs 0 0 (MQ below (QC G none z) args s 0 0 (AB G)) (F0 m 24 ls [])) : ∀ (u3 : Int32) (x : XS), bX2_renew_h24 a0 k24 u3 x = some (r, z) → ∀ (H : Heap) (locs : List Loc) (ls : Array Slot), SR G x H locs → lv_has ls 4 [(0, .ref (G.1 + a0)), (3, .int u3)] → W p l e rmX2_renew s m args below meth c H locs 0 0 (MQ below (QC G none z) args s 0 0 (AB G)) (F0 m 24 ls []) := by
  intro u3 x hf H locs ls hS hl
  have hx := C.1
  have hb := C.2.1
  have hown := C.2.2.2.2.2.1
  have hw := C.2.2.2.2.2.2.1
  unfold bX2_renew_h24 at hf
  refine lv_iload_n hx hb dX2_renew_24 rfl (lv_at hl 1 rfl) ?_
  refine lv_aload_n hx hb dX2_renew_25 rfl (lv_at hl 0 rfl) ?_
  refine gf1_2 C hS ha0 g_191 dX2_renew_26 ?_
  refine alN C hS (sh_p ha0) (by decide) (by decide) 0 rfl (sh_n ha0) (v := 24) (by decide) dX2_renew_29 ?_
  refine lv_icmp_ge (tgt := 46) hx hb dX2_renew_30 (by decide) (fun c_5 => ?_) (fun c_5 => ?_)
  · replace hf := if_p c_5 hf
    exact rtV C hS (r := ()) hf dX2_renew_46
  · replace hf := if_n c_5 hf
    refine lv_aload_n hx hb dX2_renew_33 rfl (lv_at hl 0 rfl) ?_
    refine gf1_2 C hS ha0 g_191 dX2_renew_34 ?_
    refine lv_iload_n hx hb dX2_renew_37 rfl (lv_at hl 1 rfl) ?_
    refine lv_iconst (v := 0) hx hb dX2_renew_38 (by decide) ?_
    obtain ⟨gg_6, hf⟩ := gd_out hf
    obtain ⟨x_7, ex_7, hf⟩ := st_out hf
    refine asI C hS (sh_p ha0) (sh_n ha0) gg_6 ex_7 dX2_renew_39 (fun H locs hS => ?_)
    obtain ⟨v_8, ev_8, hf⟩ := st_out hf
    refine lv_iinc (v := v_8) (lv' := [(3, .int v_8), (0, .ref (G.1 + a0))]) hx hb dX2_renew_40 hl (k := 1) rfl (by rw [ev_8]; rfl) (by decide) rfl (fun ls hl => ?_)
    refine lv_goto (tgt := 24) hx hb dX2_renew_43 (by decide) ?_
    exact hk24 v_8 x_7 hf _ _ _ hS (lv_sub hl [1, 0] rfl)
theorem wlX2_renew_h24 {p : Program} {l : Launch} {e : Env} {s : State} {m : MethodId} {args : Array Value} {below : List Frame} {meth : Method} {c : Code} {G : GT} {a0 : Nat} {r : Unit} {z : XS} (ha0 : tg a0 = 1) (C : CX G p s m args meth c cX2_renew 4 none RX2) (n : Nat) : ∀ (u3 : Int32) (x : XS), lX2_renew_h24 a0 n u3 x = some (r, z) → ∀ (H : Heap) (locs : List Loc) (ls : Array Slot), SR G x H locs → lv_has ls 4 [(0, .ref (G.1 + a0)), (3, .int u3)] → W p l e rmX2_renew s m args below meth c H locs 0 0 (MQ below (QC G none z) args s 0 0 (AB G)) (F0 m 24 ls []) := by
  induction n with
  | zero => intro u3 x hf H locs ls hS hl; exact absurd hf (by intro q; cases q)
  | succ n ih => exact wbX2_renew_h24 ha0 C ih
theorem wX2_renew_h24 {p : Program} {l : Launch} {e : Env} {s : State} {m : MethodId} {args : Array Value} {below : List Frame} {meth : Method} {c : Code} {G : GT} {a0 : Nat} {r : Unit} {z : XS} (ha0 : tg a0 = 1) (C : CX G p s m args meth c cX2_renew 4 none RX2) : ∀ (u3 : Int32) (x : XS), fX2_renew_h24 a0 u3 x = some (r, z) → ∀ (H : Heap) (locs : List Loc) (ls : Array Slot), SR G x H locs → lv_has ls 4 [(0, .ref (G.1 + a0)), (3, .int u3)] → W p l e rmX2_renew s m args below meth c H locs 0 0 (MQ below (QC G none z) args s 0 0 (AB G)) (F0 m 24 ls []) := wlX2_renew_h24 ha0 C FU
set_option maxRecDepth 100000 in
set_option maxHeartbeats 4000000 in
theorem cX2_renew_ {G : GT} {l : Launch} {a0 : Nat} {v1 : Int32} {v2 : Int32} (ha0 : tg a0 = 1) {x z : XS} {r : Unit} (hf : fX2_renew a0 v1 v2 x = some (r, z)) : Ct G l yX2_renew (.code yX2_renew cX2_renew 4 none) rmX2_renew [.ref (G.1 + a0), .int v1, .int v2] x none z := by
  refine Ct.of (by decide +kernel) (Nat.le_of_ble_eq_true rfl) ?_
  intro p e s m args below meth c C ls hl hS
  have C : CX G p s m args meth c cX2_renew 4 none RX2 := C
  have hl : lv_has ls 4 [(0, .ref (G.1 + a0)), (1, .int v1), (2, .int v2)] := hl
  have hx := C.1
  have hb := C.2.1
  have hown := C.2.2.2.2.2.1
  have hw := C.2.2.2.2.2.2.1
  unfold fX2_renew at hf
  refine lv_aload_n hx hb dX2_renew_0 rfl (lv_at hl 0 rfl) ?_
  refine lv_iload_n hx hb dX2_renew_1 rfl (lv_at hl 1 rfl) ?_
  obtain ⟨x_1, ex_1, hf⟩ := st_out hf
  refine pf1_0 C hS ha0 g_187 ex_1 dX2_renew_2 (fun H locs hS => ?_)
  refine lv_aload_n hx hb dX2_renew_5 rfl (lv_at hl 0 rfl) ?_
  refine lv_iconst (v := 0) hx hb dX2_renew_6 (by decide) ?_
  refine lv_iload_n hx hb dX2_renew_7 rfl (lv_at hl 2 rfl) ?_
  refine lv_aload_n hx hb dX2_renew_8 rfl (lv_at hl 0 rfl) ?_
  refine gf1_2 C hS ha0 g_191 dX2_renew_9 ?_
  refine alN C hS (sh_p ha0) (by decide) (by decide) 0 rfl (sh_n ha0) (v := 24) (by decide) dX2_renew_12 ?_
  refine va_mmin hx hb (C.2.2.1.trans hl.1.symm) hown (hw _ g_710) (hw _ g_324) (hw _ g_10) (hw _ g_325) (Nat.le_of_ble_eq_true rfl) (Nat.le_of_ble_eq_true rfl) (Nat.zero_le _) (Nat.zero_le _) dX2_renew_13 ?_
  obtain ⟨v_2, ev_2, hf⟩ := st_out hf
  refine topI ev_2 ?_
  refine va_mmax hx hb (C.2.2.1.trans hl.1.symm) hown (hw _ g_711) (hw _ g_296) (hw _ g_10) (hw _ g_297) (Nat.le_of_ble_eq_true rfl) (Nat.le_of_ble_eq_true rfl) (Nat.zero_le _) (Nat.zero_le _) dX2_renew_16 ?_
  obtain ⟨v_3, ev_3, hf⟩ := st_out hf
  refine topI ev_3 ?_
  obtain ⟨x_4, ex_4, hf⟩ := st_out hf
  refine pf1_1 C hS ha0 g_189 ex_4 dX2_renew_19 (fun H locs hS => ?_)
  refine lv_iconst (v := 0) hx hb dX2_renew_22 (by decide) ?_
  refine lv_istore_n (lv' := [(3, .int 0), (0, .ref (G.1 + a0)), (1, .int v1), (2, .int v2)]) hx hb dX2_renew_23 rfl hl (by decide) rfl (fun ls hl => ?_)
  exact wX2_renew_h24  ha0 C 0 x_4 hf _ _ _ hS (lv_sub hl [1, 0] rfl)
abbrev rmX2_become : Room := { frames := 1, cells := 0, slots := 0, locals := 60 }
set_option maxRecDepth 100000 in
set_option maxHeartbeats 4000000 in
theorem cX2_become_ {G : GT} {l : Launch} {a0 : Nat} {a1 : Nat} (ha0 : tg a0 = 1) (ha1 : tg a1 = 1) {x z : XS} {r : Unit} (hf : fX2_become a0 a1 x = some (r, z)) : Ct G l yX2_become (.code yX2_become cX2_become 2 none) rmX2_become [.ref (G.1 + a0), .ref (G.1 + a1)] x none z := by
  refine Ct.of (by decide +kernel) (Nat.le_of_ble_eq_true rfl) ?_
  intro p e s m args below meth c C ls hl hS
  have C : CX G p s m args meth c cX2_become 2 none RX2 := C
  have hl : lv_has ls 2 [(0, .ref (G.1 + a0)), (1, .ref (G.1 + a1))] := hl
  have hx := C.1
  have hb := C.2.1
  have hown := C.2.2.2.2.2.1
  have hw := C.2.2.2.2.2.2.1
  unfold fX2_become at hf
  refine lv_aload_n hx hb dX2_become_0 rfl (lv_at hl 0 rfl) ?_
  refine lv_aload_n hx hb dX2_become_1 rfl (lv_at hl 1 rfl) ?_
  refine gf1_0 C hS ha1 g_187 dX2_become_2 ?_
  obtain ⟨x_1, ex_1, hf⟩ := st_out hf
  refine pf1_0 C hS ha0 g_187 ex_1 dX2_become_5 (fun H locs hS => ?_)
  refine lv_aload_n hx hb dX2_become_8 rfl (lv_at hl 0 rfl) ?_
  refine lv_aload_n hx hb dX2_become_9 rfl (lv_at hl 1 rfl) ?_
  refine gf1_1 C hS ha1 g_189 dX2_become_10 ?_
  obtain ⟨x_2, ex_2, hf⟩ := st_out hf
  refine pf1_1 C hS ha0 g_189 ex_2 dX2_become_13 (fun H locs hS => ?_)
  refine lv_aload_n hx hb dX2_become_16 rfl (lv_at hl 1 rfl) ?_
  refine gf1_2 C hS ha1 g_191 dX2_become_17 ?_
  refine lv_iconst (v := 0) hx hb dX2_become_20 (by decide) ?_
  refine lv_aload_n hx hb dX2_become_21 rfl (lv_at hl 0 rfl) ?_
  refine gf1_2 C hS ha0 g_191 dX2_become_22 ?_
  refine lv_iconst (v := 0) hx hb dX2_become_25 (by decide) ?_
  refine lv_bipush (v := 24) hx hb dX2_become_26 (by decide) ?_
  obtain ⟨gg_3, hf⟩ := gd_out hf
  obtain ⟨x_4, ex_4, hf⟩ := st_out hf
  refine acp C hS (sh_p ha1) (sh_n ha1) (sh_p ha0) (sh_n ha0) gg_3 g_753 g_740 g_739 g_16 ex_4 hl.1 (Nat.le_of_ble_eq_true rfl) (by decide) dX2_become_28 (fun H locs hS => ?_)
  exact rtV C hS (r := ()) hf dX2_become_31
abbrev rmX2_isMissing : Room := { frames := 0, cells := 0, slots := 0, locals := 0 }
set_option maxRecDepth 100000 in
set_option maxHeartbeats 4000000 in
theorem cX2_isMissing_ {G : GT} {l : Launch} {a0 : Nat} (ha0 : tg a0 = 1) {x z : XS} {r : Int32} (hf : fX2_isMissing a0 x = some (r, z)) : Ct G l yX2_isMissing (.code yX2_isMissing cX2_isMissing 1 (some .boolean)) rmX2_isMissing [.ref (G.1 + a0)] x (some (.int r)) z := by
  refine Ct.of (by decide +kernel) (Nat.le_of_ble_eq_true rfl) ?_
  intro p e s m args below meth c C ls hl hS
  have C : CX G p s m args meth c cX2_isMissing 1 (some .boolean) RX2 := C
  have hl : lv_has ls 1 [(0, .ref (G.1 + a0))] := hl
  have hx := C.1
  have hb := C.2.1
  have hown := C.2.2.2.2.2.1
  have hw := C.2.2.2.2.2.2.1
  unfold fX2_isMissing at hf
  refine lv_aload_n hx hb dX2_isMissing_0 rfl (lv_at hl 0 rfl) ?_
  refine gf1_0 C hS ha0 g_187 dX2_isMissing_1 ?_
  refine lv_iconst (v := (-1)) hx hb dX2_isMissing_4 (by decide) ?_
  refine lv_icmp_ne (tgt := 12) hx hb dX2_isMissing_5 (by decide) (fun c_1 => ?_) (fun c_1 => ?_)
  · replace hf := if_n c_1 hf
    refine lv_iconst (v := 0) hx hb dX2_isMissing_12 (by decide) ?_
    exact rtZ C hS rfl hf dX2_isMissing_13
  · replace hf := if_p c_1 hf
    refine lv_iconst (v := 1) hx hb dX2_isMissing_8 (by decide) ?_
    refine lv_goto (tgt := 13) hx hb dX2_isMissing_9 (by decide) ?_
    exact rtZ C hS rfl hf dX2_isMissing_13
abbrev rmX2_hasPlace : Room := { frames := 0, cells := 0, slots := 0, locals := 0 }
set_option maxRecDepth 100000 in
set_option maxHeartbeats 4000000 in
theorem cX2_hasPlace_ {G : GT} {l : Launch} {a0 : Nat} {v1 : Int32} (ha0 : tg a0 = 1) {x z : XS} {r : Int32} (hf : fX2_hasPlace a0 v1 x = some (r, z)) : Ct G l yX2_hasPlace (.code yX2_hasPlace cX2_hasPlace 2 (some .boolean)) rmX2_hasPlace [.ref (G.1 + a0), .int v1] x (some (.int r)) z := by
  refine Ct.of (by decide +kernel) (Nat.le_of_ble_eq_true rfl) ?_
  intro p e s m args below meth c C ls hl hS
  have C : CX G p s m args meth c cX2_hasPlace 2 (some .boolean) RX2 := C
  have hl : lv_has ls 2 [(0, .ref (G.1 + a0)), (1, .int v1)] := hl
  have hx := C.1
  have hb := C.2.1
  have hown := C.2.2.2.2.2.1
  have hw := C.2.2.2.2.2.2.1
  unfold fX2_hasPlace at hf
  refine lv_iload_n hx hb dX2_hasPlace_0 rfl (lv_at hl 1 rfl) ?_
  refine lv_if_lt (tgt := 16) hx hb dX2_hasPlace_1 (by decide) (fun c_1 => ?_) (fun c_1 => ?_)
  · replace hf := if_p c_1 hf
    refine lv_iconst (v := 0) hx hb dX2_hasPlace_16 (by decide) ?_
    exact rtZ C hS rfl hf dX2_hasPlace_17
  · replace hf := if_n c_1 hf
    refine lv_iload_n hx hb dX2_hasPlace_4 rfl (lv_at hl 1 rfl) ?_
    refine lv_aload_n hx hb dX2_hasPlace_5 rfl (lv_at hl 0 rfl) ?_
    refine gf1_1 C hS ha0 g_189 dX2_hasPlace_6 ?_
    refine lv_icmp_ge (tgt := 16) hx hb dX2_hasPlace_9 (by decide) (fun c_2 => ?_) (fun c_2 => ?_)
    · replace hf := if_p c_2 hf
      refine lv_iconst (v := 0) hx hb dX2_hasPlace_16 (by decide) ?_
      exact rtZ C hS rfl hf dX2_hasPlace_17
    · replace hf := if_n c_2 hf
      refine lv_iconst (v := 1) hx hb dX2_hasPlace_12 (by decide) ?_
      refine lv_goto (tgt := 17) hx hb dX2_hasPlace_13 (by decide) ?_
      exact rtZ C hS rfl hf dX2_hasPlace_17
abbrev rmX2_hasPlaces : Room := { frames := 0, cells := 0, slots := 0, locals := 0 }
set_option maxRecDepth 100000 in
set_option maxHeartbeats 4000000 in
theorem cX2_hasPlaces_ {G : GT} {l : Launch} {a0 : Nat} {v1 : Int32} {v2 : Int32} (ha0 : tg a0 = 1) {x z : XS} {r : Int32} (hf : fX2_hasPlaces a0 v1 v2 x = some (r, z)) : Ct G l yX2_hasPlaces (.code yX2_hasPlaces cX2_hasPlaces 3 (some .boolean)) rmX2_hasPlaces [.ref (G.1 + a0), .int v1, .int v2] x (some (.int r)) z := by
  refine Ct.of (by decide +kernel) (Nat.le_of_ble_eq_true rfl) ?_
  intro p e s m args below meth c C ls hl hS
  have C : CX G p s m args meth c cX2_hasPlaces 3 (some .boolean) RX2 := C
  have hl : lv_has ls 3 [(0, .ref (G.1 + a0)), (1, .int v1), (2, .int v2)] := hl
  have hx := C.1
  have hb := C.2.1
  have hown := C.2.2.2.2.2.1
  have hw := C.2.2.2.2.2.2.1
  unfold fX2_hasPlaces at hf
  refine lv_iload_n hx hb dX2_hasPlaces_0 rfl (lv_at hl 1 rfl) ?_
  refine lv_if_lt (tgt := 30) hx hb dX2_hasPlaces_1 (by decide) (fun c_1 => ?_) (fun c_1 => ?_)
  · replace hf := if_p c_1 hf
    refine lv_iconst (v := 0) hx hb dX2_hasPlaces_30 (by decide) ?_
    exact rtZ C hS rfl hf dX2_hasPlaces_31
  · replace hf := if_n c_1 hf
    refine lv_iload_n hx hb dX2_hasPlaces_4 rfl (lv_at hl 2 rfl) ?_
    refine lv_if_lt (tgt := 30) hx hb dX2_hasPlaces_5 (by decide) (fun c_2 => ?_) (fun c_2 => ?_)
    · replace hf := if_p c_2 hf
      refine lv_iconst (v := 0) hx hb dX2_hasPlaces_30 (by decide) ?_
      exact rtZ C hS rfl hf dX2_hasPlaces_31
    · replace hf := if_n c_2 hf
      refine lv_iload_n hx hb dX2_hasPlaces_8 rfl (lv_at hl 1 rfl) ?_
      refine lv_aload_n hx hb dX2_hasPlaces_9 rfl (lv_at hl 0 rfl) ?_
      refine gf1_1 C hS ha0 g_189 dX2_hasPlaces_10 ?_
      refine lv_icmp_gt (tgt := 30) hx hb dX2_hasPlaces_13 (by decide) (fun c_3 => ?_) (fun c_3 => ?_)
      · replace hf := if_p c_3 hf
        refine lv_iconst (v := 0) hx hb dX2_hasPlaces_30 (by decide) ?_
        exact rtZ C hS rfl hf dX2_hasPlaces_31
      · replace hf := if_n c_3 hf
        refine lv_iload_n hx hb dX2_hasPlaces_16 rfl (lv_at hl 2 rfl) ?_
        refine lv_aload_n hx hb dX2_hasPlaces_17 rfl (lv_at hl 0 rfl) ?_
        refine gf1_1 C hS ha0 g_189 dX2_hasPlaces_18 ?_
        refine lv_iload_n hx hb dX2_hasPlaces_21 rfl (lv_at hl 1 rfl) ?_
        refine lv_isub hx hb dX2_hasPlaces_22 ?_
        refine lv_icmp_gt (tgt := 30) hx hb dX2_hasPlaces_23 (by decide) (fun c_4 => ?_) (fun c_4 => ?_)
        · replace hf := if_p c_4 hf
          refine lv_iconst (v := 0) hx hb dX2_hasPlaces_30 (by decide) ?_
          exact rtZ C hS rfl hf dX2_hasPlaces_31
        · replace hf := if_n c_4 hf
          refine lv_iconst (v := 1) hx hb dX2_hasPlaces_26 (by decide) ?_
          refine lv_goto (tgt := 31) hx hb dX2_hasPlaces_27 (by decide) ?_
          exact rtZ C hS rfl hf dX2_hasPlaces_31
abbrev rmX2_hasNumber : Room := { frames := 1, cells := 0, slots := 0, locals := 21 }
set_option maxRecDepth 100000 in
set_option maxHeartbeats 4000000 in
theorem cX2_hasNumber_ {G : GT} {l : Launch} {a0 : Nat} {v1 : Int32} (ha0 : tg a0 = 1) {x z : XS} {r : Int32} (hf : fX2_hasNumber a0 v1 x = some (r, z)) : Ct G l yX2_hasNumber (.code yX2_hasNumber cX2_hasNumber 2 (some .boolean)) rmX2_hasNumber [.ref (G.1 + a0), .int v1] x (some (.int r)) z := by
  refine Ct.of (by decide +kernel) (Nat.le_of_ble_eq_true rfl) ?_
  intro p e s m args below meth c C ls hl hS
  have C : CX G p s m args meth c cX2_hasNumber 2 (some .boolean) RX2 := C
  have hl : lv_has ls 2 [(0, .ref (G.1 + a0)), (1, .int v1)] := hl
  have hx := C.1
  have hb := C.2.1
  have hown := C.2.2.2.2.2.1
  have hw := C.2.2.2.2.2.2.1
  unfold fX2_hasNumber at hf
  refine lv_aload_n hx hb dX2_hasNumber_0 rfl (lv_at hl 0 rfl) ?_
  refine lv_iload_n hx hb dX2_hasNumber_1 rfl (lv_at hl 1 rfl) ?_
  obtain ⟨r_1, x_2, qr_1, hf⟩ := bd_out hf
  refine rvI (As := [.int v1]) (rest := []) C hS ha0 rfl KX2_hasPlace (cX2_hasPlace_ ha0 qr_1) g_477 ⟨rfl, rfl⟩ ⟨(Nat.le_of_ble_eq_true rfl), (Nat.le_of_ble_eq_true rfl)⟩ hl.1 rfl rfl (Nat.le_of_ble_eq_true rfl) ⟨Nat.zero_le _, Nat.zero_le _⟩ dX2_hasNumber_2 (fun H locs hS => ?_)
  refine lv_if_eq (tgt := 23) hx hb dX2_hasNumber_5 (by decide) (fun c_3 => ?_) (fun c_3 => ?_)
  · replace hf := if_p c_3 hf
    refine lv_iconst (v := 0) hx hb dX2_hasNumber_23 (by decide) ?_
    exact rtZ C hS rfl hf dX2_hasNumber_24
  · replace hf := if_n c_3 hf
    refine lv_aload_n hx hb dX2_hasNumber_8 rfl (lv_at hl 0 rfl) ?_
    refine gf1_2 C hS ha0 g_191 dX2_hasNumber_9 ?_
    refine lv_iload_n hx hb dX2_hasNumber_12 rfl (lv_at hl 1 rfl) ?_
    obtain ⟨gg_4, hf⟩ := gd_out hf
    refine alI C hS (sh_p ha0) (sh_n ha0) gg_4 dX2_hasNumber_13 ?_
    refine lv_ldc (v := (-1000000005)) hx hb hown (hw _ g_481) dX2_hasNumber_14 ?_
    refine lv_icmp_eq (tgt := 23) hx hb dX2_hasNumber_16 (by decide) (fun c_5 => ?_) (fun c_5 => ?_)
    · replace hf := if_p c_5 hf
      refine lv_iconst (v := 0) hx hb dX2_hasNumber_23 (by decide) ?_
      exact rtZ C hS rfl hf dX2_hasNumber_24
    · replace hf := if_n c_5 hf
      refine lv_iconst (v := 1) hx hb dX2_hasNumber_19 (by decide) ?_
      refine lv_goto (tgt := 24) hx hb dX2_hasNumber_20 (by decide) ?_
      exact rtZ C hS rfl hf dX2_hasNumber_24
abbrev rmX3_findingFor : Room := { frames := 0, cells := 0, slots := 0, locals := 0 }
set_option maxRecDepth 100000 in
set_option maxHeartbeats 4000000 in
theorem cX3_findingFor_ {G : GT} {l : Launch} {a0 : Nat} {v1 : Int32} (ha0 : tg a0 = 2) {x z : XS} {r : Int32} (hf : fX3_findingFor a0 v1 x = some (r, z)) : Ct G l yX3_findingFor (.code yX3_findingFor cX3_findingFor 2 (some .int)) rmX3_findingFor [.ref (G.1 + a0), .int v1] x (some (.int r)) z := by
  refine Ct.of (by decide +kernel) (Nat.le_of_ble_eq_true rfl) ?_
  intro p e s m args below meth c C ls hl hS
  have C : CX G p s m args meth c cX3_findingFor 2 (some .int) RX3 := C
  have hl : lv_has ls 2 [(0, .ref (G.1 + a0)), (1, .int v1)] := hl
  have hx := C.1
  have hb := C.2.1
  have hown := C.2.2.2.2.2.1
  have hw := C.2.2.2.2.2.2.1
  unfold fX3_findingFor at hf
  refine lv_aload_n hx hb dX3_findingFor_0 rfl (lv_at hl 0 rfl) ?_
  refine gf2_0 C hS ha0 g_209 dX3_findingFor_1 ?_
  refine lv_if_ne (tgt := 10) hx hb dX3_findingFor_4 (by decide) (fun c_1 => ?_) (fun c_1 => ?_)
  · replace hf := if_n c_1 hf
    refine lv_aload_n hx hb dX3_findingFor_10 rfl (lv_at hl 0 rfl) ?_
    refine gf2_0 C hS ha0 g_209 dX3_findingFor_11 ?_
    refine lv_iload_n hx hb dX3_findingFor_14 rfl (lv_at hl 1 rfl) ?_
    refine lv_icmp_ne (tgt := 22) hx hb dX3_findingFor_15 (by decide) (fun c_2 => ?_) (fun c_2 => ?_)
    · replace hf := if_n c_2 hf
      refine lv_ldc (v := (-1000000012)) hx hb hown (hw _ g_763) dX3_findingFor_22 ?_
      exact rtI C hS hf dX3_findingFor_24
    · replace hf := if_p c_2 hf
      refine lv_iconst (v := 0) hx hb dX3_findingFor_18 (by decide) ?_
      refine lv_goto (tgt := 24) hx hb dX3_findingFor_19 (by decide) ?_
      exact rtI C hS hf dX3_findingFor_24
  · replace hf := if_p c_1 hf
    refine lv_ldc (v := (-1000000011)) hx hb hown (hw _ g_762) dX3_findingFor_7 ?_
    exact rtI C hS hf dX3_findingFor_9
abbrev rmX4_become : Room := { frames := 1, cells := 0, slots := 0, locals := 21 }
set_option maxRecDepth 100000 in
set_option maxHeartbeats 4000000 in
theorem wbX4_become_h116 {p : Program} {l : Launch} {e : Env} {s : State} {m : MethodId} {args : Array Value} {below : List Frame} {meth : Method} {c : Code} {G : GT} {a0 : Nat} {a1 : Nat} {r : Unit} {z : XS} (ha0 : tg a0 = 3) (ha1 : tg a1 = 3) (C : CX G p s m args meth c cX4_become 3 none RX4) {k116 : Int32 → XS → Option (Unit × XS)} (hk116 : ∀ (u2 : Int32) (x : XS), k116 u2 x = some (r, z) → ∀ (H : Heap) (locs : List Loc) (ls : Array Slot), SR G x H locs → lv_has ls 3 [(0, .ref (G.1 + a0)), (1, .ref (G.1 + a1)), (2, .int u2)] → W p l e rmX4_become s m args below meth c H locs 0 0 (MQ below (QC G none z) args s 0 0 (AB G)) (F0 m 116 ls [])) : ∀ (u2 : Int32) (x : XS), bX4_become_h116 a0 a1 k116 u2 x = some (r, z) → ∀ (H : Heap) (locs : List Loc) (ls : Array Slot), SR G x H locs → lv_has ls 3 [(0, .ref (G.1 + a0)), (1, .ref (G.1 + a1)), (2, .int u2)] → W p l e rmX4_become s m args below meth c H locs 0 0 (MQ below (QC G none z) args s 0 0 (AB G)) (F0 m 116 ls []) := by
  intro u2 x hf H locs ls hS hl
  have hx := C.1
  have hb := C.2.1
  have hown := C.2.2.2.2.2.1
  have hw := C.2.2.2.2.2.2.1
  unfold bX4_become_h116 at hf
  refine lv_iload_n hx hb dX4_become_116 rfl (lv_at hl 2 rfl) ?_
  refine lv_iconst (v := 3) hx hb dX4_become_117 (by decide) ?_
  refine lv_icmp_ge (tgt := 139) hx hb dX4_become_118 (by decide) (fun c_19 => ?_) (fun c_19 => ?_)
  · replace hf := if_p c_19 hf
    exact rtV C hS (r := ()) hf dX4_become_139
  · replace hf := if_n c_19 hf
    refine lv_aload_n hx hb dX4_become_121 rfl (lv_at hl 0 rfl) ?_
    refine gf3_1 C hS ha0 g_103 dX4_become_122 ?_
    refine lv_iload_n hx hb dX4_become_125 rfl (lv_at hl 2 rfl) ?_
    refine lv_aload_n hx hb dX4_become_126 rfl (lv_at hl 1 rfl) ?_
    refine gf3_1 C hS ha1 g_103 dX4_become_127 ?_
    refine lv_iload_n hx hb dX4_become_130 rfl (lv_at hl 2 rfl) ?_
    obtain ⟨gg_20, hf⟩ := gd_out hf
    refine alV C hS (st_l ha1) (by decide) (by decide) 8 rfl (ln16 (st_l ha1)) gg_20 (v := lwv G.1 (x (a1 + 2) (ix u2))) (vwL (st_l ha1)) dX4_become_131 ?_
    obtain ⟨gg_21, hf⟩ := gd_out hf
    obtain ⟨gg_22, hf⟩ := gd_out hf
    obtain ⟨x_23, ex_23, hf⟩ := st_out hf
    refine asL C hS (st_l ha0) (ln16 (st_l ha0)) gg_21 gg_22 ex_23 dX4_become_132 (fun H locs hS => ?_)
    obtain ⟨v_24, ev_24, hf⟩ := st_out hf
    refine lv_iinc (v := v_24) (lv' := [(2, .int v_24), (0, .ref (G.1 + a0)), (1, .ref (G.1 + a1))]) hx hb dX4_become_133 hl (k := 2) rfl (by rw [ev_24]; rfl) (by decide) rfl (fun ls hl => ?_)
    refine lv_goto (tgt := 116) hx hb dX4_become_136 (by decide) ?_
    exact hk116 v_24 x_23 hf _ _ _ hS (lv_sub hl [1, 2, 0] rfl)
theorem wlX4_become_h116 {p : Program} {l : Launch} {e : Env} {s : State} {m : MethodId} {args : Array Value} {below : List Frame} {meth : Method} {c : Code} {G : GT} {a0 : Nat} {a1 : Nat} {r : Unit} {z : XS} (ha0 : tg a0 = 3) (ha1 : tg a1 = 3) (C : CX G p s m args meth c cX4_become 3 none RX4) (n : Nat) : ∀ (u2 : Int32) (x : XS), lX4_become_h116 a0 a1 n u2 x = some (r, z) → ∀ (H : Heap) (locs : List Loc) (ls : Array Slot), SR G x H locs → lv_has ls 3 [(0, .ref (G.1 + a0)), (1, .ref (G.1 + a1)), (2, .int u2)] → W p l e rmX4_become s m args below meth c H locs 0 0 (MQ below (QC G none z) args s 0 0 (AB G)) (F0 m 116 ls []) := by
  induction n with
  | zero => intro u2 x hf H locs ls hS hl; exact absurd hf (by intro q; cases q)
  | succ n ih => exact wbX4_become_h116 ha0 ha1 C ih
theorem wX4_become_h116 {p : Program} {l : Launch} {e : Env} {s : State} {m : MethodId} {args : Array Value} {below : List Frame} {meth : Method} {c : Code} {G : GT} {a0 : Nat} {a1 : Nat} {r : Unit} {z : XS} (ha0 : tg a0 = 3) (ha1 : tg a1 = 3) (C : CX G p s m args meth c cX4_become 3 none RX4) : ∀ (u2 : Int32) (x : XS), fX4_become_h116 a0 a1 u2 x = some (r, z) → ∀ (H : Heap) (locs : List Loc) (ls : Array Slot), SR G x H locs → lv_has ls 3 [(0, .ref (G.1 + a0)), (1, .ref (G.1 + a1)), (2, .int u2)] → W p l e rmX4_become s m args below meth c H locs 0 0 (MQ below (QC G none z) args s 0 0 (AB G)) (F0 m 116 ls []) := wlX4_become_h116 ha0 ha1 C FU
set_option maxRecDepth 100000 in
set_option maxHeartbeats 4000000 in
theorem wbX4_become_h79 {p : Program} {l : Launch} {e : Env} {s : State} {m : MethodId} {args : Array Value} {below : List Frame} {meth : Method} {c : Code} {G : GT} {a0 : Nat} {a1 : Nat} {r : Unit} {z : XS} (ha0 : tg a0 = 3) (ha1 : tg a1 = 3) (C : CX G p s m args meth c cX4_become 3 none RX4) {k79 : Int32 → XS → Option (Unit × XS)} (hk79 : ∀ (u2 : Int32) (x : XS), k79 u2 x = some (r, z) → ∀ (H : Heap) (locs : List Loc) (ls : Array Slot), SR G x H locs → lv_has ls 3 [(0, .ref (G.1 + a0)), (1, .ref (G.1 + a1)), (2, .int u2)] → W p l e rmX4_become s m args below meth c H locs 0 0 (MQ below (QC G none z) args s 0 0 (AB G)) (F0 m 79 ls [])) : ∀ (u2 : Int32) (x : XS), bX4_become_h79 a0 a1 k79 u2 x = some (r, z) → ∀ (H : Heap) (locs : List Loc) (ls : Array Slot), SR G x H locs → lv_has ls 3 [(0, .ref (G.1 + a0)), (1, .ref (G.1 + a1)), (2, .int u2)] → W p l e rmX4_become s m args below meth c H locs 0 0 (MQ below (QC G none z) args s 0 0 (AB G)) (F0 m 79 ls []) := by
  intro u2 x hf H locs ls hS hl
  have hx := C.1
  have hb := C.2.1
  have hown := C.2.2.2.2.2.1
  have hw := C.2.2.2.2.2.2.1
  unfold bX4_become_h79 at hf
  refine lv_iload_n hx hb dX4_become_79 rfl (lv_at hl 2 rfl) ?_
  refine lv_aload_n hx hb dX4_become_80 rfl (lv_at hl 0 rfl) ?_
  refine gf3_2 C hS ha0 g_104 dX4_become_81 ?_
  refine lv_icmp_ge (tgt := 114) hx hb dX4_become_84 (by decide) (fun c_12 => ?_) (fun c_12 => ?_)
  · replace hf := if_p c_12 hf
    refine lv_iconst (v := 0) hx hb dX4_become_114 (by decide) ?_
    refine lv_istore_n (lv' := [(2, .int 0), (0, .ref (G.1 + a0)), (1, .ref (G.1 + a1))]) hx hb dX4_become_115 rfl hl (by decide) rfl (fun ls hl => ?_)
    exact wX4_become_h116  ha0 ha1 C 0 x hf _ _ _ hS (lv_sub hl [1, 2, 0] rfl)
  · replace hf := if_n c_12 hf
    refine lv_iload_n hx hb dX4_become_87 rfl (lv_at hl 2 rfl) ?_
    refine lv_bipush (v := 8) hx hb dX4_become_88 (by decide) ?_
    refine lv_icmp_ge (tgt := 114) hx hb dX4_become_90 (by decide) (fun c_13 => ?_) (fun c_13 => ?_)
    · replace hf := if_p c_13 hf
      refine lv_iconst (v := 0) hx hb dX4_become_114 (by decide) ?_
      refine lv_istore_n (lv' := [(2, .int 0), (0, .ref (G.1 + a0)), (1, .ref (G.1 + a1))]) hx hb dX4_become_115 rfl hl (by decide) rfl (fun ls hl => ?_)
      exact wX4_become_h116  ha0 ha1 C 0 x hf _ _ _ hS (lv_sub hl [1, 2, 0] rfl)
    · replace hf := if_n c_13 hf
      refine lv_aload_n hx hb dX4_become_93 rfl (lv_at hl 0 rfl) ?_
      refine gf3_0 C hS ha0 g_101 dX4_become_94 ?_
      refine lv_iload_n hx hb dX4_become_97 rfl (lv_at hl 2 rfl) ?_
      obtain ⟨gg_14, hf⟩ := gd_out hf
      refine alV C hS (st_b ha0) (by decide) (by decide) 4 rfl (ln12 (st_b ha0)) gg_14 (v := .ref (G.1 + (a0 + 3 + (ix u2)))) (vwR (st_b ha0) (by decide) rfl) dX4_become_98 ?_
      refine lv_aload_n hx hb dX4_become_99 rfl (lv_at hl 1 rfl) ?_
      refine gf3_0 C hS ha1 g_101 dX4_become_100 ?_
      refine lv_iload_n hx hb dX4_become_103 rfl (lv_at hl 2 rfl) ?_
      obtain ⟨gg_15, hf⟩ := gd_out hf
      refine alV C hS (st_b ha1) (by decide) (by decide) 4 rfl (ln12 (st_b ha1)) gg_15 (v := .ref (G.1 + (a1 + 3 + (ix u2)))) (vwR (st_b ha1) (by decide) rfl) dX4_become_104 ?_
      obtain ⟨r_16, x_17, qr_16, hf⟩ := bd_out hf
      refine rvV (As := [.ref (G.1 + (a1 + 3 + (ix u2)))]) (rest := []) C hS (el12 (st_b ha0) gg_14) rfl KX0_become (cX0_become_ (el12 (st_b ha0) gg_14) (el12 (st_b ha1) gg_15) qr_16) g_434 ⟨rfl, rfl⟩ ⟨(Nat.le_of_ble_eq_true rfl), (Nat.le_of_ble_eq_true rfl)⟩ hl.1 rfl rfl (Nat.le_of_ble_eq_true rfl) ⟨Nat.zero_le _, Nat.zero_le _⟩ dX4_become_105 (fun H locs hS => ?_)
      obtain ⟨v_18, ev_18, hf⟩ := st_out hf
      refine lv_iinc (v := v_18) (lv' := [(2, .int v_18), (0, .ref (G.1 + a0)), (1, .ref (G.1 + a1))]) hx hb dX4_become_108 hl (k := 2) rfl (by rw [ev_18]; rfl) (by decide) rfl (fun ls hl => ?_)
      refine lv_goto (tgt := 79) hx hb dX4_become_111 (by decide) ?_
      exact hk79 v_18 x_17 hf _ _ _ hS (lv_sub hl [1, 2, 0] rfl)
theorem wlX4_become_h79 {p : Program} {l : Launch} {e : Env} {s : State} {m : MethodId} {args : Array Value} {below : List Frame} {meth : Method} {c : Code} {G : GT} {a0 : Nat} {a1 : Nat} {r : Unit} {z : XS} (ha0 : tg a0 = 3) (ha1 : tg a1 = 3) (C : CX G p s m args meth c cX4_become 3 none RX4) (n : Nat) : ∀ (u2 : Int32) (x : XS), lX4_become_h79 a0 a1 n u2 x = some (r, z) → ∀ (H : Heap) (locs : List Loc) (ls : Array Slot), SR G x H locs → lv_has ls 3 [(0, .ref (G.1 + a0)), (1, .ref (G.1 + a1)), (2, .int u2)] → W p l e rmX4_become s m args below meth c H locs 0 0 (MQ below (QC G none z) args s 0 0 (AB G)) (F0 m 79 ls []) := by
  induction n with
  | zero => intro u2 x hf H locs ls hS hl; exact absurd hf (by intro q; cases q)
  | succ n ih => exact wbX4_become_h79 ha0 ha1 C ih
theorem wX4_become_h79 {p : Program} {l : Launch} {e : Env} {s : State} {m : MethodId} {args : Array Value} {below : List Frame} {meth : Method} {c : Code} {G : GT} {a0 : Nat} {a1 : Nat} {r : Unit} {z : XS} (ha0 : tg a0 = 3) (ha1 : tg a1 = 3) (C : CX G p s m args meth c cX4_become 3 none RX4) : ∀ (u2 : Int32) (x : XS), fX4_become_h79 a0 a1 u2 x = some (r, z) → ∀ (H : Heap) (locs : List Loc) (ls : Array Slot), SR G x H locs → lv_has ls 3 [(0, .ref (G.1 + a0)), (1, .ref (G.1 + a1)), (2, .int u2)] → W p l e rmX4_become s m args below meth c H locs 0 0 (MQ below (QC G none z) args s 0 0 (AB G)) (F0 m 79 ls []) := wlX4_become_h79 ha0 ha1 C FU
set_option maxRecDepth 100000 in
set_option maxHeartbeats 4000000 in
theorem cX4_become_ {G : GT} {l : Launch} {a0 : Nat} {a1 : Nat} (ha0 : tg a0 = 3) (ha1 : tg a1 = 3) {x z : XS} {r : Unit} (hf : fX4_become a0 a1 x = some (r, z)) : Ct G l yX4_become (.code yX4_become cX4_become 3 none) rmX4_become [.ref (G.1 + a0), .ref (G.1 + a1)] x none z := by
  refine Ct.of (by decide +kernel) (Nat.le_of_ble_eq_true rfl) ?_
  intro p e s m args below meth c C ls hl hS
  have C : CX G p s m args meth c cX4_become 3 none RX4 := C
  have hl : lv_has ls 3 [(0, .ref (G.1 + a0)), (1, .ref (G.1 + a1))] := hl
  have hx := C.1
  have hb := C.2.1
  have hown := C.2.2.2.2.2.1
  have hw := C.2.2.2.2.2.2.1
  unfold fX4_become at hf
  refine lv_aload_n hx hb dX4_become_0 rfl (lv_at hl 0 rfl) ?_
  refine lv_aload_n hx hb dX4_become_1 rfl (lv_at hl 1 rfl) ?_
  refine gf3_2 C hS ha1 g_104 dX4_become_2 ?_
  obtain ⟨x_1, ex_1, hf⟩ := st_out hf
  refine pf3_2 C hS ha0 g_104 ex_1 dX4_become_5 (fun H locs hS => ?_)
  refine lv_aload_n hx hb dX4_become_8 rfl (lv_at hl 0 rfl) ?_
  refine lv_aload_n hx hb dX4_become_9 rfl (lv_at hl 1 rfl) ?_
  refine gf3_3 C hS ha1 g_106 dX4_become_10 ?_
  obtain ⟨x_2, ex_2, hf⟩ := st_out hf
  refine pf3_3 C hS ha0 g_106 ex_2 dX4_become_13 (fun H locs hS => ?_)
  refine lv_aload_n hx hb dX4_become_16 rfl (lv_at hl 0 rfl) ?_
  refine lv_aload_n hx hb dX4_become_17 rfl (lv_at hl 1 rfl) ?_
  refine gf3_4 C hS ha1 g_108 dX4_become_18 ?_
  obtain ⟨x_3, ex_3, hf⟩ := st_out hf
  refine pf3_4 C hS ha0 g_108 ex_3 dX4_become_21 (fun H locs hS => ?_)
  refine lv_aload_n hx hb dX4_become_24 rfl (lv_at hl 0 rfl) ?_
  refine lv_aload_n hx hb dX4_become_25 rfl (lv_at hl 1 rfl) ?_
  refine gf3_5 C hS ha1 g_110 dX4_become_26 ?_
  obtain ⟨x_4, ex_4, hf⟩ := st_out hf
  refine pf3_5 C hS ha0 g_110 ex_4 dX4_become_29 (fun H locs hS => ?_)
  refine lv_aload_n hx hb dX4_become_32 rfl (lv_at hl 0 rfl) ?_
  refine lv_aload_n hx hb dX4_become_33 rfl (lv_at hl 1 rfl) ?_
  refine gf3_6 C hS ha1 g_112 dX4_become_34 ?_
  obtain ⟨x_5, ex_5, hf⟩ := st_out hf
  refine pf3_6 C hS ha0 g_112 ex_5 dX4_become_37 (fun H locs hS => ?_)
  refine lv_aload_n hx hb dX4_become_40 rfl (lv_at hl 0 rfl) ?_
  refine lv_aload_n hx hb dX4_become_41 rfl (lv_at hl 1 rfl) ?_
  refine gf3_7 C hS ha1 g_114 dX4_become_42 ?_
  obtain ⟨x_6, ex_6, hf⟩ := st_out hf
  refine pf3_7 C hS ha0 g_114 ex_6 dX4_become_45 (fun H locs hS => ?_)
  refine lv_aload_n hx hb dX4_become_48 rfl (lv_at hl 0 rfl) ?_
  refine lv_aload_n hx hb dX4_become_49 rfl (lv_at hl 1 rfl) ?_
  refine gf3_8 C hS ha1 g_116 dX4_become_50 ?_
  obtain ⟨x_7, ex_7, hf⟩ := st_out hf
  refine pf3_8 C hS ha0 g_116 ex_7 dX4_become_53 (fun H locs hS => ?_)
  refine lv_aload_n hx hb dX4_become_56 rfl (lv_at hl 0 rfl) ?_
  refine lv_aload_n hx hb dX4_become_57 rfl (lv_at hl 1 rfl) ?_
  refine gf3_9 C hS ha1 g_118 dX4_become_58 ?_
  obtain ⟨x_8, ex_8, hf⟩ := st_out hf
  refine pf3_9 C hS ha0 g_118 ex_8 dX4_become_61 (fun H locs hS => ?_)
  refine lv_aload_n hx hb dX4_become_64 rfl (lv_at hl 0 rfl) ?_
  refine lv_aload_n hx hb dX4_become_65 rfl (lv_at hl 1 rfl) ?_
  refine gf3_10 C hS ha1 g_120 dX4_become_66 ?_
  obtain ⟨gg_9, hf⟩ := gd_out hf
  obtain ⟨x_10, ex_10, hf⟩ := st_out hf
  refine pf3_10 C hS ha0 g_120 gg_9 ex_10 dX4_become_69 (fun H locs hS => ?_)
  refine lv_aload_n hx hb dX4_become_72 rfl (lv_at hl 0 rfl) ?_
  refine lv_iconst (v := (-1)) hx hb dX4_become_73 (by decide) ?_
  obtain ⟨x_11, ex_11, hf⟩ := st_out hf
  refine pf3_11 C hS ha0 g_122 ex_11 dX4_become_74 (fun H locs hS => ?_)
  refine lv_iconst (v := 0) hx hb dX4_become_77 (by decide) ?_
  refine lv_istore_n (lv' := [(2, .int 0), (0, .ref (G.1 + a0)), (1, .ref (G.1 + a1))]) hx hb dX4_become_78 rfl hl (by decide) rfl (fun ls hl => ?_)
  exact wX4_become_h79  ha0 ha1 C 0 x_11 hf _ _ _ hS (lv_sub hl [1, 2, 0] rfl)
abbrev rmX4_addBoy : Room := { frames := 1, cells := 0, slots := 0, locals := 24 }
set_option maxRecDepth 100000 in
set_option maxHeartbeats 4000000 in
theorem cX4_addBoy_ {G : GT} {l : Launch} {a0 : Nat} {v1 : Int32} {v2 : Int32} {v3 : Int32} {v4 : Int32} (ha0 : tg a0 = 3) {x z : XS} {r : Unit} (hf : fX4_addBoy a0 v1 v2 v3 v4 x = some (r, z)) : Ct G l yX4_addBoy (.code yX4_addBoy cX4_addBoy 5 none) rmX4_addBoy [.ref (G.1 + a0), .int v1, .int v2, .int v3, .int v4] x none z := by
  refine Ct.of (by decide +kernel) (Nat.le_of_ble_eq_true rfl) ?_
  intro p e s m args below meth c C ls hl hS
  have C : CX G p s m args meth c cX4_addBoy 5 none RX4 := C
  have hl : lv_has ls 5 [(0, .ref (G.1 + a0)), (1, .int v1), (2, .int v2), (3, .int v3), (4, .int v4)] := hl
  have hx := C.1
  have hb := C.2.1
  have hown := C.2.2.2.2.2.1
  have hw := C.2.2.2.2.2.2.1
  unfold fX4_addBoy at hf
  refine lv_aload_n hx hb dX4_addBoy_0 rfl (lv_at hl 0 rfl) ?_
  refine gf3_2 C hS ha0 g_104 dX4_addBoy_1 ?_
  refine lv_aload_n hx hb dX4_addBoy_4 rfl (lv_at hl 0 rfl) ?_
  refine gf3_0 C hS ha0 g_101 dX4_addBoy_5 ?_
  refine alN C hS (st_b ha0) (by decide) (by decide) 4 rfl (ln12 (st_b ha0)) (v := 8) (by decide) dX4_addBoy_8 ?_
  refine lv_icmp_ge (tgt := 39) hx hb dX4_addBoy_9 (by decide) (fun c_1 => ?_) (fun c_1 => ?_)
  · replace hf := if_p c_1 hf
    exact rtV C hS (r := ()) hf dX4_addBoy_39
  · replace hf := if_n c_1 hf
    refine lv_aload_n hx hb dX4_addBoy_12 rfl (lv_at hl 0 rfl) ?_
    refine gf3_0 C hS ha0 g_101 dX4_addBoy_13 ?_
    refine lv_aload_n hx hb dX4_addBoy_16 rfl (lv_at hl 0 rfl) ?_
    refine gf3_2 C hS ha0 g_104 dX4_addBoy_17 ?_
    obtain ⟨gg_2, hf⟩ := gd_out hf
    refine alV C hS (st_b ha0) (by decide) (by decide) 4 rfl (ln12 (st_b ha0)) gg_2 (v := .ref (G.1 + (a0 + 3 + (ix (x a0 2))))) (vwR (st_b ha0) (by decide) rfl) dX4_addBoy_20 ?_
    refine lv_iload_n hx hb dX4_addBoy_21 rfl (lv_at hl 1 rfl) ?_
    refine lv_iload_n hx hb dX4_addBoy_22 rfl (lv_at hl 2 rfl) ?_
    refine lv_iload_n hx hb dX4_addBoy_23 rfl (lv_at hl 3 rfl) ?_
    refine lv_iload hx hb dX4_addBoy_24 (lv_at hl 4 rfl) ?_
    obtain ⟨r_3, x_4, qr_3, hf⟩ := bd_out hf
    refine rvV (As := [.int v1, .int v2, .int v3, .int v4]) (rest := []) C hS (el12 (st_b ha0) gg_2) rfl KX0_start (cX0_start_ (el12 (st_b ha0) gg_2) qr_3) g_273 ⟨rfl, rfl⟩ ⟨(Nat.le_of_ble_eq_true rfl), (Nat.le_of_ble_eq_true rfl)⟩ hl.1 rfl rfl (Nat.le_of_ble_eq_true rfl) ⟨Nat.zero_le _, Nat.zero_le _⟩ dX4_addBoy_26 (fun H locs hS => ?_)
    refine lv_aload_n hx hb dX4_addBoy_29 rfl (lv_at hl 0 rfl) ?_
    refine lv_dup hx hb dX4_addBoy_30 rfl ?_
    refine gf3_2 C hS ha0 g_104 dX4_addBoy_31 ?_
    refine lv_iconst (v := 1) hx hb dX4_addBoy_34 (by decide) ?_
    refine lv_iadd hx hb dX4_addBoy_35 ?_
    obtain ⟨x_5, ex_5, hf⟩ := st_out hf
    refine pf3_2 C hS ha0 g_104 ex_5 dX4_addBoy_36 (fun H locs hS => ?_)
    exact rtV C hS (r := ()) hf dX4_addBoy_39
abbrev rmX4_draw : Room := { frames := 0, cells := 0, slots := 0, locals := 0 }
set_option maxRecDepth 100000 in
set_option maxHeartbeats 4000000 in
theorem cX4_draw_ {G : GT} {l : Launch} {a0 : Nat} (ha0 : tg a0 = 3) {x z : XS} {r : Int32} (hf : fX4_draw a0 x = some (r, z)) : Ct G l yX4_draw (.code yX4_draw cX4_draw 1 (some .int)) rmX4_draw [.ref (G.1 + a0)] x (some (.int r)) z := by
  refine Ct.of (by decide +kernel) (Nat.le_of_ble_eq_true rfl) ?_
  intro p e s m args below meth c C ls hl hS
  have C : CX G p s m args meth c cX4_draw 1 (some .int) RX4 := C
  have hl : lv_has ls 1 [(0, .ref (G.1 + a0))] := hl
  have hx := C.1
  have hb := C.2.1
  have hown := C.2.2.2.2.2.1
  have hw := C.2.2.2.2.2.2.1
  unfold fX4_draw at hf
  refine lv_aload_n hx hb dX4_draw_0 rfl (lv_at hl 0 rfl) ?_
  refine lv_aload_n hx hb dX4_draw_1 rfl (lv_at hl 0 rfl) ?_
  refine gf3_9 C hS ha0 g_118 dX4_draw_2 ?_
  refine lv_ldc (v := 1103515245) hx hb hown (hw _ g_365) dX4_draw_5 ?_
  refine lv_imul hx hb dX4_draw_7 ?_
  refine lv_sipush (v := 12345) hx hb dX4_draw_8 (by decide) ?_
  refine lv_iadd hx hb dX4_draw_11 ?_
  obtain ⟨x_1, ex_1, hf⟩ := st_out hf
  refine pf3_9 C hS ha0 g_118 ex_1 dX4_draw_12 (fun H locs hS => ?_)
  refine lv_aload_n hx hb dX4_draw_15 rfl (lv_at hl 0 rfl) ?_
  refine gf3_9 C hS ha0 g_118 dX4_draw_16 ?_
  refine lv_bipush (v := 8) hx hb dX4_draw_19 (by decide) ?_
  obtain ⟨v_2, ev_2, hf⟩ := st_out hf
  refine lv_iushr (v := v_2) hx hb dX4_draw_21 ev_2.symm ?_
  exact rtI C hS hf dX4_draw_22
abbrev rmX4_drawBoy : Room := { frames := 2, cells := 0, slots := 0, locals := 48 }
set_option maxRecDepth 100000 in
set_option maxHeartbeats 4000000 in
theorem cX4_drawBoy_ {G : GT} {l : Launch} {a0 : Nat} (ha0 : tg a0 = 3) {x z : XS} {r : Unit} (hf : fX4_drawBoy a0 x = some (r, z)) : Ct G l yX4_drawBoy (.code yX4_drawBoy cX4_drawBoy 5 none) rmX4_drawBoy [.ref (G.1 + a0)] x none z := by
  refine Ct.of (by decide +kernel) (Nat.le_of_ble_eq_true rfl) ?_
  intro p e s m args below meth c C ls hl hS
  have C : CX G p s m args meth c cX4_drawBoy 5 none RX4 := C
  have hl : lv_has ls 5 [(0, .ref (G.1 + a0))] := hl
  have hx := C.1
  have hb := C.2.1
  have hown := C.2.2.2.2.2.1
  have hw := C.2.2.2.2.2.2.1
  unfold fX4_drawBoy at hf
  refine lv_aload_n hx hb dX4_drawBoy_0 rfl (lv_at hl 0 rfl) ?_
  obtain ⟨r_1, x_2, qr_1, hf⟩ := bd_out hf
  refine rvI (As := []) (rest := []) C hS ha0 rfl KX4_draw (cX4_draw_ ha0 qr_1) g_361 ⟨rfl, rfl⟩ ⟨(Nat.le_of_ble_eq_true rfl), (Nat.le_of_ble_eq_true rfl)⟩ hl.1 rfl rfl (Nat.le_of_ble_eq_true rfl) ⟨Nat.zero_le _, Nat.zero_le _⟩ dX4_drawBoy_1 (fun H locs hS => ?_)
  refine lv_bipush (v := 6) hx hb dX4_drawBoy_4 (by decide) ?_
  refine lv_irem hx hb dX4_drawBoy_6 (by decide) ?_
  obtain ⟨v_3, ev_3, hf⟩ := st_out hf
  refine topI ev_3 ?_
  refine lv_istore_n (lv' := [(1, .int v_3), (0, .ref (G.1 + a0))]) hx hb dX4_drawBoy_7 rfl hl (by decide) rfl (fun ls hl => ?_)
  refine lv_aload_n hx hb dX4_drawBoy_8 rfl (lv_at hl 1 rfl) ?_
  obtain ⟨r_4, x_5, qr_4, hf⟩ := bd_out hf
  refine rvI (As := []) (rest := []) C hS ha0 rfl KX4_draw (cX4_draw_ ha0 qr_4) g_361 ⟨rfl, rfl⟩ ⟨(Nat.le_of_ble_eq_true rfl), (Nat.le_of_ble_eq_true rfl)⟩ hl.1 rfl rfl (Nat.le_of_ble_eq_true rfl) ⟨Nat.zero_le _, Nat.zero_le _⟩ dX4_drawBoy_9 (fun H locs hS => ?_)
  refine lv_bipush (v := 10) hx hb dX4_drawBoy_12 (by decide) ?_
  refine lv_irem hx hb dX4_drawBoy_14 (by decide) ?_
  obtain ⟨v_6, ev_6, hf⟩ := st_out hf
  refine topI ev_6 ?_
  refine lv_istore_n (lv' := [(2, .int v_6), (1, .int v_3), (0, .ref (G.1 + a0))]) hx hb dX4_drawBoy_15 rfl hl (by decide) rfl (fun ls hl => ?_)
  refine lv_iconst (v := 1) hx hb dX4_drawBoy_16 (by decide) ?_
  refine lv_aload_n hx hb dX4_drawBoy_17 rfl (lv_at hl 2 rfl) ?_
  obtain ⟨r_7, x_8, qr_7, hf⟩ := bd_out hf
  refine rvI (As := []) (rest := [.int 1]) C hS ha0 rfl KX4_draw (cX4_draw_ ha0 qr_7) g_361 ⟨rfl, rfl⟩ ⟨(Nat.le_of_ble_eq_true rfl), (Nat.le_of_ble_eq_true rfl)⟩ hl.1 rfl rfl (Nat.le_of_ble_eq_true rfl) ⟨Nat.zero_le _, Nat.zero_le _⟩ dX4_drawBoy_18 (fun H locs hS => ?_)
  refine lv_bipush (v := 20) hx hb dX4_drawBoy_21 (by decide) ?_
  refine lv_irem hx hb dX4_drawBoy_23 (by decide) ?_
  obtain ⟨v_9, ev_9, hf⟩ := st_out hf
  refine topI ev_9 ?_
  refine lv_iadd hx hb dX4_drawBoy_24 ?_
  obtain ⟨v_10, ev_10, hf⟩ := st_out hf
  refine topI ev_10 ?_
  refine lv_istore_n (lv' := [(3, .int v_10), (2, .int v_6), (1, .int v_3), (0, .ref (G.1 + a0))]) hx hb dX4_drawBoy_25 rfl hl (by decide) rfl (fun ls hl => ?_)
  refine lv_iconst (v := 1) hx hb dX4_drawBoy_26 (by decide) ?_
  refine lv_aload_n hx hb dX4_drawBoy_27 rfl (lv_at hl 3 rfl) ?_
  obtain ⟨r_11, x_12, qr_11, hf⟩ := bd_out hf
  refine rvI (As := []) (rest := [.int 1]) C hS ha0 rfl KX4_draw (cX4_draw_ ha0 qr_11) g_361 ⟨rfl, rfl⟩ ⟨(Nat.le_of_ble_eq_true rfl), (Nat.le_of_ble_eq_true rfl)⟩ hl.1 rfl rfl (Nat.le_of_ble_eq_true rfl) ⟨Nat.zero_le _, Nat.zero_le _⟩ dX4_drawBoy_28 (fun H locs hS => ?_)
  refine lv_bipush (v := 12) hx hb dX4_drawBoy_31 (by decide) ?_
  refine lv_irem hx hb dX4_drawBoy_33 (by decide) ?_
  obtain ⟨v_13, ev_13, hf⟩ := st_out hf
  refine topI ev_13 ?_
  refine lv_iadd hx hb dX4_drawBoy_34 ?_
  obtain ⟨v_14, ev_14, hf⟩ := st_out hf
  refine topI ev_14 ?_
  refine lv_istore (lv' := [(4, .int v_14), (3, .int v_10), (2, .int v_6), (1, .int v_3), (0, .ref (G.1 + a0))]) hx hb dX4_drawBoy_35 hl (by decide) rfl (fun ls hl => ?_)
  refine lv_aload_n hx hb dX4_drawBoy_37 rfl (lv_at hl 4 rfl) ?_
  refine lv_iload_n hx hb dX4_drawBoy_38 rfl (lv_at hl 3 rfl) ?_
  refine lv_iload_n hx hb dX4_drawBoy_39 rfl (lv_at hl 2 rfl) ?_
  refine lv_iload_n hx hb dX4_drawBoy_40 rfl (lv_at hl 1 rfl) ?_
  refine lv_iload hx hb dX4_drawBoy_41 (lv_at hl 0 rfl) ?_
  obtain ⟨r_15, x_16, qr_15, hf⟩ := bd_out hf
  refine rvV (As := [.int v_3, .int v_6, .int v_10, .int v_14]) (rest := []) C hS ha0 rfl KX4_addBoy (cX4_addBoy_ ha0 qr_15) g_366 ⟨rfl, rfl⟩ ⟨(Nat.le_of_ble_eq_true rfl), (Nat.le_of_ble_eq_true rfl)⟩ hl.1 rfl rfl (Nat.le_of_ble_eq_true rfl) ⟨Nat.zero_le _, Nat.zero_le _⟩ dX4_drawBoy_43 (fun H locs hS => ?_)
  exact rtV C hS (r := ()) hf dX4_drawBoy_46
abbrev rmX4_countText : Room := { frames := 0, cells := 0, slots := 0, locals := 0 }
set_option maxRecDepth 100000 in
set_option maxHeartbeats 4000000 in
theorem cX4_countText_ {G : GT} {l : Launch} {a0 : Nat} {a1 : Nat} (ha0 : tg a0 = 3) (ha1 : tg a1 = 5) {x z : XS} {r : Unit} (hf : fX4_countText a0 a1 x = some (r, z)) : Ct G l yX4_countText (.code yX4_countText cX4_countText 2 none) rmX4_countText [.ref (G.1 + a0), .ref (G.1 + a1)] x none z := by
  refine Ct.of (by decide +kernel) (Nat.le_of_ble_eq_true rfl) ?_
  intro p e s m args below meth c C ls hl hS
  have C : CX G p s m args meth c cX4_countText 2 none RX4 := C
  have hl : lv_has ls 2 [(0, .ref (G.1 + a0)), (1, .ref (G.1 + a1))] := hl
  have hx := C.1
  have hb := C.2.1
  have hown := C.2.2.2.2.2.1
  have hw := C.2.2.2.2.2.2.1
  unfold fX4_countText at hf
  refine lv_aload_n hx hb dX4_countText_0 rfl (lv_at hl 1 rfl) ?_
  refine gf5_1 C hS ha1 g_161 dX4_countText_1 ?_
  refine lv_if_lt (tgt := 39) hx hb dX4_countText_4 (by decide) (fun c_1 => ?_) (fun c_1 => ?_)
  · replace hf := if_p c_1 hf
    exact rtV C hS (r := ()) hf dX4_countText_39
  · replace hf := if_n c_1 hf
    refine lv_aload_n hx hb dX4_countText_7 rfl (lv_at hl 1 rfl) ?_
    refine gf5_1 C hS ha1 g_161 dX4_countText_8 ?_
    refine lv_aload_n hx hb dX4_countText_11 rfl (lv_at hl 0 rfl) ?_
    refine gf3_1 C hS ha0 g_103 dX4_countText_12 ?_
    refine alN C hS (st_l ha0) (by decide) (by decide) 8 rfl (ln16 (st_l ha0)) (v := 3) (by decide) dX4_countText_15 ?_
    refine lv_icmp_ge (tgt := 39) hx hb dX4_countText_16 (by decide) (fun c_2 => ?_) (fun c_2 => ?_)
    · replace hf := if_p c_2 hf
      exact rtV C hS (r := ()) hf dX4_countText_39
    · replace hf := if_n c_2 hf
      refine lv_aload_n hx hb dX4_countText_19 rfl (lv_at hl 0 rfl) ?_
      refine gf3_1 C hS ha0 g_103 dX4_countText_20 ?_
      refine lv_aload_n hx hb dX4_countText_23 rfl (lv_at hl 1 rfl) ?_
      refine gf5_1 C hS ha1 g_161 dX4_countText_24 ?_
      refine lv_aload_n hx hb dX4_countText_27 rfl (lv_at hl 1 rfl) ?_
      obtain ⟨gg_3, hf⟩ := gd_out hf
      obtain ⟨x_4, ex_4, hf⟩ := st_out hf
      refine asT C hS (st_l ha0) gg_3 ha1 ex_4 dX4_countText_28 (fun H locs hS => ?_)
      refine lv_aload_n hx hb dX4_countText_29 rfl (lv_at hl 0 rfl) ?_
      refine lv_dup hx hb dX4_countText_30 rfl ?_
      refine gf3_3 C hS ha0 g_106 dX4_countText_31 ?_
      refine lv_iconst (v := 1) hx hb dX4_countText_34 (by decide) ?_
      refine lv_iadd hx hb dX4_countText_35 ?_
      obtain ⟨x_5, ex_5, hf⟩ := st_out hf
      refine pf3_3 C hS ha0 g_106 ex_5 dX4_countText_36 (fun H locs hS => ?_)
      exact rtV C hS (r := ()) hf dX4_countText_39
abbrev rmX4_law : Room := { frames := 0, cells := 0, slots := 0, locals := 0 }
set_option maxRecDepth 100000 in
set_option maxHeartbeats 4000000 in
theorem cX4_law_ {G : GT} {l : Launch} {a0 : Nat} {v1 : Int32} (ha0 : tg a0 = 3) {x z : XS} {r : Int32} (hf : fX4_law a0 v1 x = some (r, z)) : Ct G l yX4_law (.code yX4_law cX4_law 2 (some (.object "ShoeCorner$Text"))) rmX4_law [.ref (G.1 + a0), .int v1] x (some (lwv G.1 r)) z := by
  refine Ct.of (by decide +kernel) (Nat.le_of_ble_eq_true rfl) ?_
  intro p e s m args below meth c C ls hl hS
  have C : CX G p s m args meth c cX4_law 2 (some (.object "ShoeCorner$Text")) RX4 := C
  have hl : lv_has ls 2 [(0, .ref (G.1 + a0)), (1, .int v1)] := hl
  have hx := C.1
  have hb := C.2.1
  have hown := C.2.2.2.2.2.1
  have hw := C.2.2.2.2.2.2.1
  unfold fX4_law at hf
  refine lv_iload_n hx hb dX4_law_0 rfl (lv_at hl 1 rfl) ?_
  refine lv_if_lt (tgt := 22) hx hb dX4_law_1 (by decide) (fun c_1 => ?_) (fun c_1 => ?_)
  · replace hf := if_p c_1 hf
    refine nulL (G := G) hx hb dX4_law_22 ?_
    exact rtL C hS hf dX4_law_23
  · replace hf := if_n c_1 hf
    refine lv_iload_n hx hb dX4_law_4 rfl (lv_at hl 1 rfl) ?_
    refine lv_aload_n hx hb dX4_law_5 rfl (lv_at hl 0 rfl) ?_
    refine gf3_1 C hS ha0 g_103 dX4_law_6 ?_
    refine alN C hS (st_l ha0) (by decide) (by decide) 8 rfl (ln16 (st_l ha0)) (v := 3) (by decide) dX4_law_9 ?_
    refine lv_icmp_ge (tgt := 22) hx hb dX4_law_10 (by decide) (fun c_2 => ?_) (fun c_2 => ?_)
    · replace hf := if_p c_2 hf
      refine nulL (G := G) hx hb dX4_law_22 ?_
      exact rtL C hS hf dX4_law_23
    · replace hf := if_n c_2 hf
      refine lv_aload_n hx hb dX4_law_13 rfl (lv_at hl 0 rfl) ?_
      refine gf3_1 C hS ha0 g_103 dX4_law_14 ?_
      refine lv_iload_n hx hb dX4_law_17 rfl (lv_at hl 1 rfl) ?_
      obtain ⟨gg_3, hf⟩ := gd_out hf
      refine alV C hS (st_l ha0) (by decide) (by decide) 8 rfl (ln16 (st_l ha0)) gg_3 (v := lwv G.1 (x (a0 + 2) (ix v1))) (vwL (st_l ha0)) dX4_law_18 ?_
      refine lv_goto (tgt := 23) hx hb dX4_law_19 (by decide) ?_
      exact rtL C hS hf dX4_law_23
abbrev rmX4_bareShine : Room := { frames := 0, cells := 0, slots := 0, locals := 0 }
set_option maxRecDepth 100000 in
set_option maxHeartbeats 4000000 in
theorem cX4_bareShine_ {G : GT} {l : Launch} {v0 : Int32} {v1 : Int32} {x z : XS} {r : Int32} (hf : fX4_bareShine v0 v1 x = some (r, z)) : Ct G l yX4_bareShine (.code yX4_bareShine cX4_bareShine 3 (some .int)) rmX4_bareShine [.int v0, .int v1] x (some (.int r)) z := by
  refine Ct.of (by decide +kernel) (Nat.le_of_ble_eq_true rfl) ?_
  intro p e s m args below meth c C ls hl hS
  have C : CX G p s m args meth c cX4_bareShine 3 (some .int) RX4 := C
  have hl : lv_has ls 3 [(0, .int v0), (1, .int v1)] := hl
  have hx := C.1
  have hb := C.2.1
  have hown := C.2.2.2.2.2.1
  have hw := C.2.2.2.2.2.2.1
  unfold fX4_bareShine at hf
  refine lv_iconst (v := 1) hx hb dX4_bareShine_0 (by decide) ?_
  refine lv_iload_n hx hb dX4_bareShine_1 rfl (lv_at hl 0 rfl) ?_
  refine lv_iadd hx hb dX4_bareShine_2 ?_
  obtain ⟨v_1, ev_1, hf⟩ := st_out hf
  refine topI ev_1 ?_
  refine lv_istore_n (lv' := [(2, .int v_1), (0, .int v0), (1, .int v1)]) hx hb dX4_bareShine_3 rfl hl (by decide) rfl (fun ls hl => ?_)
  refine lv_iload_n hx hb dX4_bareShine_4 rfl (lv_at hl 0 rfl) ?_
  refine lv_iconst (v := 1) hx hb dX4_bareShine_5 (by decide) ?_
  refine lv_icmp_ge (tgt := 13) hx hb dX4_bareShine_6 (by decide) (fun c_2 => ?_) (fun c_2 => ?_)
  · replace hf := if_p c_2 hf
    refine lv_bipush (v := 100) hx hb dX4_bareShine_13 (by decide) ?_
    refine lv_bipush (v := 60) hx hb dX4_bareShine_15 (by decide) ?_
    refine lv_iload_n hx hb dX4_bareShine_17 rfl (lv_at hl 0 rfl) ?_
    obtain ⟨gg_3, hf⟩ := gd_out hf
    refine lv_idiv hx hb dX4_bareShine_18 (of_decide_eq_true gg_3) ?_
    obtain ⟨v_4, ev_4, hf⟩ := st_out hf
    refine topI ev_4 ?_
    refine lv_isub hx hb dX4_bareShine_19 ?_
    refine lv_iconst (v := 3) hx hb dX4_bareShine_20 (by decide) ?_
    refine lv_iload_n hx hb dX4_bareShine_21 rfl (lv_at hl 2 rfl) ?_
    refine lv_imul hx hb dX4_bareShine_22 ?_
    refine lv_isub hx hb dX4_bareShine_23 ?_
    exact rtI C hS hf dX4_bareShine_24
  · replace hf := if_n c_2 hf
    refine lv_iconst (v := 0) hx hb dX4_bareShine_9 (by decide) ?_
    refine lv_goto (tgt := 24) hx hb dX4_bareShine_10 (by decide) ?_
    exact rtI C hS hf dX4_bareShine_24
abbrev rmX6_joined : Room := { frames := 0, cells := 0, slots := 0, locals := 0 }
set_option maxRecDepth 100000 in
set_option maxHeartbeats 4000000 in
theorem cX6_joined_ {G : GT} {l : Launch} {v0 : Int32} {v1 : Int32} {v2 : Int32} {x z : XS} {r : Int32} (hf : fX6_joined v0 v1 v2 x = some (r, z)) : Ct G l yX6_joined (.code yX6_joined cX6_joined 3 (some .int)) rmX6_joined [.int v0, .int v1, .int v2] x (some (.int r)) z := by
  refine Ct.of (by decide +kernel) (Nat.le_of_ble_eq_true rfl) ?_
  intro p e s m args below meth c C ls hl hS
  have C : CX G p s m args meth c cX6_joined 3 (some .int) RX6 := C
  have hl : lv_has ls 3 [(0, .int v0), (1, .int v1), (2, .int v2)] := hl
  have hx := C.1
  have hb := C.2.1
  have hown := C.2.2.2.2.2.1
  have hw := C.2.2.2.2.2.2.1
  unfold fX6_joined at hf
  refine lv_iload_n hx hb dX6_joined_0 rfl (lv_at hl 0 rfl) ?_
  by_cases c_1 : v0 = 38
  · replace hf := if_p c_1 hf
    refine lswI (k := 38) (off := 89) (tgt := 90) hx hb dX6_joined_1 (by decide) c_1 (by decide) (by decide) ?_
    refine lv_iload_n hx hb dX6_joined_90 rfl (lv_at hl 1 rfl) ?_
    refine lv_if_eq (tgt := 102) hx hb dX6_joined_91 (by decide) (fun c_2 => ?_) (fun c_2 => ?_)
    · replace hf := if_p c_2 hf
      refine lv_iconst (v := 0) hx hb dX6_joined_102 (by decide) ?_
      exact rtI C hS hf dX6_joined_103
    · replace hf := if_n c_2 hf
      refine lv_iload_n hx hb dX6_joined_94 rfl (lv_at hl 2 rfl) ?_
      refine lv_if_eq (tgt := 102) hx hb dX6_joined_95 (by decide) (fun c_3 => ?_) (fun c_3 => ?_)
      · replace hf := if_p c_3 hf
        refine lv_iconst (v := 0) hx hb dX6_joined_102 (by decide) ?_
        exact rtI C hS hf dX6_joined_103
      · replace hf := if_n c_3 hf
        refine lv_iconst (v := 1) hx hb dX6_joined_98 (by decide) ?_
        refine lv_goto (tgt := 103) hx hb dX6_joined_99 (by decide) ?_
        exact rtI C hS hf dX6_joined_103
  · replace hf := if_n c_1 hf
    by_cases c_4 : v0 = 42
    · replace hf := if_p c_4 hf
      refine lswI (k := 42) (off := 144) (tgt := 145) hx hb dX6_joined_1 (by decide) c_4 (by decide) (by decide) ?_
      refine lv_iload_n hx hb dX6_joined_145 rfl (lv_at hl 1 rfl) ?_
      refine lv_iload_n hx hb dX6_joined_146 rfl (lv_at hl 2 rfl) ?_
      refine lv_imul hx hb dX6_joined_147 ?_
      exact rtI C hS hf dX6_joined_148
    · replace hf := if_n c_4 hf
      by_cases c_5 : v0 = 43
      · replace hf := if_p c_5 hf
        refine lswI (k := 43) (off := 136) (tgt := 137) hx hb dX6_joined_1 (by decide) c_5 (by decide) (by decide) ?_
        refine lv_iload_n hx hb dX6_joined_137 rfl (lv_at hl 1 rfl) ?_
        refine lv_iload_n hx hb dX6_joined_138 rfl (lv_at hl 2 rfl) ?_
        refine lv_iadd hx hb dX6_joined_139 ?_
        exact rtI C hS hf dX6_joined_140
      · replace hf := if_n c_5 hf
        by_cases c_6 : v0 = 45
        · replace hf := if_p c_6 hf
          refine lswI (k := 45) (off := 140) (tgt := 141) hx hb dX6_joined_1 (by decide) c_6 (by decide) (by decide) ?_
          refine lv_iload_n hx hb dX6_joined_141 rfl (lv_at hl 1 rfl) ?_
          refine lv_iload_n hx hb dX6_joined_142 rfl (lv_at hl 2 rfl) ?_
          refine lv_isub hx hb dX6_joined_143 ?_
          exact rtI C hS hf dX6_joined_144
        · replace hf := if_n c_6 hf
          by_cases c_7 : v0 = 60
          · replace hf := if_p c_7 hf
            refine lswI (k := 60) (off := 103) (tgt := 104) hx hb dX6_joined_1 (by decide) c_7 (by decide) (by decide) ?_
            refine lv_iload_n hx hb dX6_joined_104 rfl (lv_at hl 1 rfl) ?_
            refine lv_iload_n hx hb dX6_joined_105 rfl (lv_at hl 2 rfl) ?_
            refine lv_icmp_ge (tgt := 113) hx hb dX6_joined_106 (by decide) (fun c_8 => ?_) (fun c_8 => ?_)
            · replace hf := if_p c_8 hf
              refine lv_iconst (v := 0) hx hb dX6_joined_113 (by decide) ?_
              exact rtI C hS hf dX6_joined_114
            · replace hf := if_n c_8 hf
              refine lv_iconst (v := 1) hx hb dX6_joined_109 (by decide) ?_
              refine lv_goto (tgt := 114) hx hb dX6_joined_110 (by decide) ?_
              exact rtI C hS hf dX6_joined_114
          · replace hf := if_n c_7 hf
            by_cases c_9 : v0 = 61
            · replace hf := if_p c_9 hf
              refine lswI (k := 61) (off := 114) (tgt := 115) hx hb dX6_joined_1 (by decide) c_9 (by decide) (by decide) ?_
              refine lv_iload_n hx hb dX6_joined_115 rfl (lv_at hl 1 rfl) ?_
              refine lv_iload_n hx hb dX6_joined_116 rfl (lv_at hl 2 rfl) ?_
              refine lv_icmp_ne (tgt := 124) hx hb dX6_joined_117 (by decide) (fun c_10 => ?_) (fun c_10 => ?_)
              · replace hf := if_n c_10 hf
                refine lv_iconst (v := 0) hx hb dX6_joined_124 (by decide) ?_
                exact rtI C hS hf dX6_joined_125
              · replace hf := if_p c_10 hf
                refine lv_iconst (v := 1) hx hb dX6_joined_120 (by decide) ?_
                refine lv_goto (tgt := 125) hx hb dX6_joined_121 (by decide) ?_
                exact rtI C hS hf dX6_joined_125
            · replace hf := if_n c_9 hf
              by_cases c_11 : v0 = 62
              · replace hf := if_p c_11 hf
                refine lswI (k := 62) (off := 125) (tgt := 126) hx hb dX6_joined_1 (by decide) c_11 (by decide) (by decide) ?_
                refine lv_iload_n hx hb dX6_joined_126 rfl (lv_at hl 1 rfl) ?_
                refine lv_iload_n hx hb dX6_joined_127 rfl (lv_at hl 2 rfl) ?_
                refine lv_icmp_le (tgt := 135) hx hb dX6_joined_128 (by decide) (fun c_12 => ?_) (fun c_12 => ?_)
                · replace hf := if_p c_12 hf
                  refine lv_iconst (v := 0) hx hb dX6_joined_135 (by decide) ?_
                  exact rtI C hS hf dX6_joined_136
                · replace hf := if_n c_12 hf
                  refine lv_iconst (v := 1) hx hb dX6_joined_131 (by decide) ?_
                  refine lv_goto (tgt := 136) hx hb dX6_joined_132 (by decide) ?_
                  exact rtI C hS hf dX6_joined_136
              · replace hf := if_n c_11 hf
                by_cases c_13 : v0 = 124
                · replace hf := if_p c_13 hf
                  refine lswI (k := 124) (off := 75) (tgt := 76) hx hb dX6_joined_1 (by decide) c_13 (by decide) (by decide) ?_
                  refine lv_iload_n hx hb dX6_joined_76 rfl (lv_at hl 1 rfl) ?_
                  refine lv_if_ne (tgt := 84) hx hb dX6_joined_77 (by decide) (fun c_14 => ?_) (fun c_14 => ?_)
                  · replace hf := if_n c_14 hf
                    refine lv_iconst (v := 1) hx hb dX6_joined_84 (by decide) ?_
                    refine lv_goto (tgt := 89) hx hb dX6_joined_85 (by decide) ?_
                    exact rtI C hS hf dX6_joined_89
                  · replace hf := if_p c_14 hf
                    refine lv_iload_n hx hb dX6_joined_80 rfl (lv_at hl 2 rfl) ?_
                    refine lv_if_eq (tgt := 88) hx hb dX6_joined_81 (by decide) (fun c_15 => ?_) (fun c_15 => ?_)
                    · replace hf := if_p c_15 hf
                      refine lv_iconst (v := 0) hx hb dX6_joined_88 (by decide) ?_
                      exact rtI C hS hf dX6_joined_89
                    · replace hf := if_n c_15 hf
                      refine lv_iconst (v := 1) hx hb dX6_joined_84 (by decide) ?_
                      refine lv_goto (tgt := 89) hx hb dX6_joined_85 (by decide) ?_
                      exact rtI C hS hf dX6_joined_89
                · replace hf := if_n c_13 hf
                  refine lv_lookup (off := 148) (tgt := 149) hx hb dX6_joined_1 (by decide) ((lv_osw c_1 (by decide)).trans ((lv_osw c_4 (by decide)).trans ((lv_osw c_5 (by decide)).trans ((lv_osw c_6 (by decide)).trans ((lv_osw c_7 (by decide)).trans ((lv_osw c_9 (by decide)).trans ((lv_osw c_11 (by decide)).trans ((lv_osw c_13 (by decide)).trans rfl)))))))) (by decide) ?_
                  refine lv_iload_n hx hb dX6_joined_149 rfl (lv_at hl 2 rfl) ?_
                  refine lv_if_ne (tgt := 157) hx hb dX6_joined_150 (by decide) (fun c_16 => ?_) (fun c_16 => ?_)
                  · replace hf := if_n c_16 hf
                    refine lv_iload_n hx hb dX6_joined_157 rfl (lv_at hl 1 rfl) ?_
                    refine lv_iload_n hx hb dX6_joined_158 rfl (lv_at hl 2 rfl) ?_
                    obtain ⟨gg_17, hf⟩ := gd_out hf
                    refine lv_idiv hx hb dX6_joined_159 (of_decide_eq_true gg_17) ?_
                    obtain ⟨v_18, ev_18, hf⟩ := st_out hf
                    refine topI ev_18 ?_
                    exact rtI C hS hf dX6_joined_160
                  · replace hf := if_p c_16 hf
                    refine lv_iconst (v := 0) hx hb dX6_joined_153 (by decide) ?_
                    refine lv_goto (tgt := 160) hx hb dX6_joined_154 (by decide) ?_
                    exact rtI C hS hf dX6_joined_160
abbrev rmX6_value : Room := { frames := 1, cells := 0, slots := 0, locals := 22 }
set_option maxRecDepth 100000 in
set_option maxHeartbeats 4000000 in
theorem wX6_value_h175 {p : Program} {l : Launch} {e : Env} {s : State} {m : MethodId} {args : Array Value} {below : List Frame} {meth : Method} {c : Code} {G : GT} {a0 : Nat} {r : Int32} {z : XS} (ha0 : tg a0 = 5) (C : CX G p s m args meth c cX6_value 7 (some .int) RX6) {k6 : Int32 → Int32 → Int32 → Int32 → Int32 → XS → Option (Int32 × XS)} (hk6 : ∀ (u1 : Int32) (u2 : Int32) (u3 : Int32) (u4 : Int32) (u5 : Int32) (x : XS), k6 u1 u2 u3 u4 u5 x = some (r, z) → ∀ (H : Heap) (locs : List Loc) (ls : Array Slot), SR G x H locs → lv_has ls 7 [(0, .ref (G.1 + a0)), (1, .int u1), (2, .int u2), (3, .int u3), (4, .int u4), (5, .int u5)] → W p l e rmX6_value s m args below meth c H locs 0 0 (MQ below (QC G (some (.int r)) z) args s 0 0 (AB G)) (F0 m 6 ls [])) : ∀ (u1 : Int32) (u2 : Int32) (u3 : Int32) (u4 : Int32) (u5 : Int32) (x : XS), fX6_value_h175 a0 k6 u1 u2 u3 u4 u5 x = some (r, z) → ∀ (H : Heap) (locs : List Loc) (ls : Array Slot), SR G x H locs → lv_has ls 7 [(0, .ref (G.1 + a0)), (1, .int u1), (2, .int u2), (3, .int u3), (4, .int u4), (5, .int u5)] → W p l e rmX6_value s m args below meth c H locs 0 0 (MQ below (QC G (some (.int r)) z) args s 0 0 (AB G)) (F0 m 175 ls []) := by
  intro u1 u2 u3 u4 u5 x hf H locs ls hS hl
  have hx := C.1
  have hb := C.2.1
  have hown := C.2.2.2.2.2.1
  have hw := C.2.2.2.2.2.2.1
  unfold fX6_value_h175 at hf
  obtain ⟨v_39, ev_39, hf⟩ := st_out hf
  refine lv_iinc (v := v_39) (lv' := [(5, .int v_39), (0, .ref (G.1 + a0)), (1, .int u1), (2, .int u2), (3, .int u3), (4, .int u4)]) hx hb dX6_value_175 hl (k := 5) rfl (by rw [ev_39]; rfl) (by decide) rfl (fun ls hl => ?_)
  refine lv_goto (tgt := 6) hx hb dX6_value_178 (by decide) ?_
  exact hk6 u1 u2 u3 u4 v_39 x hf _ _ _ hS (lv_sub hl [1, 2, 3, 4, 5, 0] rfl)
set_option maxRecDepth 100000 in
set_option maxHeartbeats 4000000 in
theorem wbX6_value_h6 {p : Program} {l : Launch} {e : Env} {s : State} {m : MethodId} {args : Array Value} {below : List Frame} {meth : Method} {c : Code} {G : GT} {a0 : Nat} {r : Int32} {z : XS} (ha0 : tg a0 = 5) (C : CX G p s m args meth c cX6_value 7 (some .int) RX6) {k6 : Int32 → Int32 → Int32 → Int32 → Int32 → XS → Option (Int32 × XS)} (hk6 : ∀ (u1 : Int32) (u2 : Int32) (u3 : Int32) (u4 : Int32) (u5 : Int32) (x : XS), k6 u1 u2 u3 u4 u5 x = some (r, z) → ∀ (H : Heap) (locs : List Loc) (ls : Array Slot), SR G x H locs → lv_has ls 7 [(0, .ref (G.1 + a0)), (1, .int u1), (2, .int u2), (3, .int u3), (4, .int u4), (5, .int u5)] → W p l e rmX6_value s m args below meth c H locs 0 0 (MQ below (QC G (some (.int r)) z) args s 0 0 (AB G)) (F0 m 6 ls [])) : ∀ (u1 : Int32) (u2 : Int32) (u3 : Int32) (u4 : Int32) (u5 : Int32) (x : XS), bX6_value_h6 a0 k6 u1 u2 u3 u4 u5 x = some (r, z) → ∀ (H : Heap) (locs : List Loc) (ls : Array Slot), SR G x H locs → lv_has ls 7 [(0, .ref (G.1 + a0)), (1, .int u1), (2, .int u2), (3, .int u3), (4, .int u4), (5, .int u5)] → W p l e rmX6_value s m args below meth c H locs 0 0 (MQ below (QC G (some (.int r)) z) args s 0 0 (AB G)) (F0 m 6 ls []) := by
  intro u1 u2 u3 u4 u5 x hf H locs ls hS hl
  have hx := C.1
  have hb := C.2.1
  have hown := C.2.2.2.2.2.1
  have hw := C.2.2.2.2.2.2.1
  unfold bX6_value_h6 at hf
  refine lv_iload hx hb dX6_value_6 (lv_at hl 5 rfl) ?_
  refine lv_aload_n hx hb dX6_value_8 rfl (lv_at hl 0 rfl) ?_
  refine gf5_3 C hS ha0 g_165 dX6_value_9 ?_
  refine lv_icmp_ge (tgt := 181) hx hb dX6_value_12 (by decide) (fun c_1 => ?_) (fun c_1 => ?_)
  · replace hf := if_p c_1 hf
    refine lv_iload hx hb dX6_value_181 (lv_at hl 4 rfl) ?_
    refine lv_if_le (tgt := 195) hx hb dX6_value_183 (by decide) (fun c_2 => ?_) (fun c_2 => ?_)
    · replace hf := if_p c_2 hf
      refine lv_iconst (v := 0) hx hb dX6_value_195 (by decide) ?_
      exact rtI C hS hf dX6_value_196
    · replace hf := if_n c_2 hf
      refine lv_aload_n hx hb dX6_value_186 rfl (lv_at hl 0 rfl) ?_
      refine gf5_5 C hS ha0 g_167 dX6_value_187 ?_
      refine lv_iconst (v := 0) hx hb dX6_value_190 (by decide) ?_
      obtain ⟨gg_3, hf⟩ := gd_out hf
      refine alI C hS (rfl) rfl gg_3 dX6_value_191 ?_
      refine lv_goto (tgt := 196) hx hb dX6_value_192 (by decide) ?_
      exact rtI C hS hf dX6_value_196
  · replace hf := if_n c_1 hf
    refine lv_aload_n hx hb dX6_value_15 rfl (lv_at hl 0 rfl) ?_
    refine gf5_4 C hS ha0 g_166 dX6_value_16 ?_
    refine lv_iload hx hb dX6_value_19 (lv_at hl 5 rfl) ?_
    obtain ⟨gg_4, hf⟩ := gd_out hf
    refine alI C hS (tx_i ha0) (tx_n ha0) gg_4 dX6_value_21 ?_
    obtain ⟨v_5, ev_5, hf⟩ := st_out hf
    refine topI ev_5 ?_
    refine lv_istore (lv' := [(6, .int v_5), (0, .ref (G.1 + a0)), (1, .int u1), (2, .int u2), (3, .int u3), (4, .int u4), (5, .int u5)]) hx hb dX6_value_22 hl (by decide) rfl (fun ls hl => ?_)
    refine lv_iload hx hb dX6_value_24 (lv_at hl 0 rfl) ?_
    refine lv_sipush (v := 10033) hx hb dX6_value_26 (by decide) ?_
    refine lv_icmp_ne (tgt := 67) hx hb dX6_value_29 (by decide) (fun c_6 => ?_) (fun c_6 => ?_)
    · replace hf := if_n c_6 hf
      refine lv_iload hx hb dX6_value_67 (lv_at hl 0 rfl) ?_
      refine lv_sipush (v := 10000) hx hb dX6_value_69 (by decide) ?_
      refine lv_icmp_lt (tgt := 123) hx hb dX6_value_72 (by decide) (fun c_7 => ?_) (fun c_7 => ?_)
      · replace hf := if_p c_7 hf
        refine lv_iload hx hb dX6_value_123 (lv_at hl 5 rfl) ?_
        refine lv_aload_n hx hb dX6_value_125 rfl (lv_at hl 1 rfl) ?_
        refine gf5_5 C hS ha0 g_167 dX6_value_126 ?_
        refine alN C hS (rfl) (by decide) (by decide) 0 rfl rfl (v := 96) (by decide) dX6_value_129 ?_
        refine lv_icmp_ge (tgt := 175) hx hb dX6_value_130 (by decide) (fun c_8 => ?_) (fun c_8 => ?_)
        · replace hf := if_p c_8 hf
          exact wX6_value_h175  ha0 C hk6 u1 u2 u3 u4 u5 x hf _ _ _ hS (lv_sub hl [1, 2, 3, 4, 5, 6] rfl)
        · replace hf := if_n c_8 hf
          refine lv_aload_n hx hb dX6_value_133 rfl (lv_at hl 1 rfl) ?_
          refine gf5_5 C hS ha0 g_167 dX6_value_134 ?_
          refine lv_iload hx hb dX6_value_137 (lv_at hl 5 rfl) ?_
          refine lv_iload hx hb dX6_value_139 (lv_at hl 0 rfl) ?_
          refine lv_if_lt (tgt := 149) hx hb dX6_value_141 (by decide) (fun c_9 => ?_) (fun c_9 => ?_)
          · replace hf := if_p c_9 hf
            refine lv_iload hx hb dX6_value_149 (lv_at hl 0 rfl) ?_
            refine lv_iconst (v := (-1)) hx hb dX6_value_151 (by decide) ?_
            refine lv_icmp_ne (tgt := 159) hx hb dX6_value_152 (by decide) (fun c_10 => ?_) (fun c_10 => ?_)
            · replace hf := if_n c_10 hf
              refine lv_iload hx hb dX6_value_159 (lv_at hl 0 rfl) ?_
              refine lv_bipush (v := (-2)) hx hb dX6_value_161 (by decide) ?_
              refine lv_icmp_ne (tgt := 170) hx hb dX6_value_163 (by decide) (fun c_11 => ?_) (fun c_11 => ?_)
              · replace hf := if_n c_11 hf
                refine lv_iload_n hx hb dX6_value_170 rfl (lv_at hl 4 rfl) ?_
                obtain ⟨gg_12, hf⟩ := gd_out hf
                obtain ⟨x_13, ex_13, hf⟩ := st_out hf
                refine asI C hS (rfl) rfl gg_12 ex_13 dX6_value_171 (fun H locs hS => ?_)
                obtain ⟨v_14, ev_14, hf⟩ := st_out hf
                refine lv_iinc (v := v_14) (lv' := [(4, .int v_14), (6, .int v_5), (0, .ref (G.1 + a0)), (1, .int u1), (2, .int u2), (3, .int u3), (5, .int u5)]) hx hb dX6_value_172 hl (k := 5) rfl (by rw [ev_14]; rfl) (by decide) rfl (fun ls hl => ?_)
                exact wX6_value_h175  ha0 C hk6 u1 u2 u3 v_14 u5 x_13 hf _ _ _ hS (lv_sub hl [2, 3, 4, 5, 0, 6] rfl)
              · replace hf := if_p c_11 hf
                refine lv_iload_n hx hb dX6_value_166 rfl (lv_at hl 3 rfl) ?_
                refine lv_goto (tgt := 171) hx hb dX6_value_167 (by decide) ?_
                obtain ⟨gg_15, hf⟩ := gd_out hf
                obtain ⟨x_16, ex_16, hf⟩ := st_out hf
                refine asI C hS (rfl) rfl gg_15 ex_16 dX6_value_171 (fun H locs hS => ?_)
                obtain ⟨v_17, ev_17, hf⟩ := st_out hf
                refine lv_iinc (v := v_17) (lv' := [(4, .int v_17), (6, .int v_5), (0, .ref (G.1 + a0)), (1, .int u1), (2, .int u2), (3, .int u3), (5, .int u5)]) hx hb dX6_value_172 hl (k := 5) rfl (by rw [ev_17]; rfl) (by decide) rfl (fun ls hl => ?_)
                exact wX6_value_h175  ha0 C hk6 u1 u2 u3 v_17 u5 x_16 hf _ _ _ hS (lv_sub hl [2, 3, 4, 5, 0, 6] rfl)
            · replace hf := if_p c_10 hf
              refine lv_iload_n hx hb dX6_value_155 rfl (lv_at hl 2 rfl) ?_
              refine lv_goto (tgt := 171) hx hb dX6_value_156 (by decide) ?_
              obtain ⟨gg_18, hf⟩ := gd_out hf
              obtain ⟨x_19, ex_19, hf⟩ := st_out hf
              refine asI C hS (rfl) rfl gg_18 ex_19 dX6_value_171 (fun H locs hS => ?_)
              obtain ⟨v_20, ev_20, hf⟩ := st_out hf
              refine lv_iinc (v := v_20) (lv' := [(4, .int v_20), (6, .int v_5), (0, .ref (G.1 + a0)), (1, .int u1), (2, .int u2), (3, .int u3), (5, .int u5)]) hx hb dX6_value_172 hl (k := 5) rfl (by rw [ev_20]; rfl) (by decide) rfl (fun ls hl => ?_)
              exact wX6_value_h175  ha0 C hk6 u1 u2 u3 v_20 u5 x_19 hf _ _ _ hS (lv_sub hl [2, 3, 4, 5, 0, 6] rfl)
          · replace hf := if_n c_9 hf
            refine lv_iload hx hb dX6_value_144 (lv_at hl 0 rfl) ?_
            refine lv_goto (tgt := 171) hx hb dX6_value_146 (by decide) ?_
            obtain ⟨gg_21, hf⟩ := gd_out hf
            obtain ⟨x_22, ex_22, hf⟩ := st_out hf
            refine asI C hS (rfl) rfl gg_21 ex_22 dX6_value_171 (fun H locs hS => ?_)
            obtain ⟨v_23, ev_23, hf⟩ := st_out hf
            refine lv_iinc (v := v_23) (lv' := [(4, .int v_23), (6, .int v_5), (0, .ref (G.1 + a0)), (1, .int u1), (2, .int u2), (3, .int u3), (5, .int u5)]) hx hb dX6_value_172 hl (k := 5) rfl (by rw [ev_23]; rfl) (by decide) rfl (fun ls hl => ?_)
            exact wX6_value_h175  ha0 C hk6 u1 u2 u3 v_23 u5 x_22 hf _ _ _ hS (lv_sub hl [2, 3, 4, 5, 0, 6] rfl)
      · replace hf := if_n c_7 hf
        refine lv_iload hx hb dX6_value_75 (lv_at hl 5 rfl) ?_
        refine lv_iconst (v := 2) hx hb dX6_value_77 (by decide) ?_
        refine lv_icmp_lt (tgt := 175) hx hb dX6_value_78 (by decide) (fun c_24 => ?_) (fun c_24 => ?_)
        · replace hf := if_p c_24 hf
          exact wX6_value_h175  ha0 C hk6 u1 u2 u3 u4 u5 x hf _ _ _ hS (lv_sub hl [1, 2, 3, 4, 5, 6] rfl)
        · replace hf := if_n c_24 hf
          refine lv_aload_n hx hb dX6_value_81 rfl (lv_at hl 1 rfl) ?_
          refine gf5_5 C hS ha0 g_167 dX6_value_82 ?_
          refine lv_iload hx hb dX6_value_85 (lv_at hl 5 rfl) ?_
          refine lv_iconst (v := 2) hx hb dX6_value_87 (by decide) ?_
          refine lv_isub hx hb dX6_value_88 ?_
          refine lv_iload hx hb dX6_value_89 (lv_at hl 0 rfl) ?_
          refine lv_sipush (v := 10000) hx hb dX6_value_91 (by decide) ?_
          refine lv_isub hx hb dX6_value_94 ?_
          refine lv_aload_n hx hb dX6_value_95 rfl (lv_at hl 1 rfl) ?_
          refine gf5_5 C hS ha0 g_167 dX6_value_96 ?_
          refine lv_iload hx hb dX6_value_99 (lv_at hl 5 rfl) ?_
          refine lv_iconst (v := 2) hx hb dX6_value_101 (by decide) ?_
          refine lv_isub hx hb dX6_value_102 ?_
          obtain ⟨gg_25, hf⟩ := gd_out hf
          refine alI C hS (rfl) rfl gg_25 dX6_value_103 ?_
          refine lv_aload_n hx hb dX6_value_104 rfl (lv_at hl 1 rfl) ?_
          refine gf5_5 C hS ha0 g_167 dX6_value_105 ?_
          refine lv_iload hx hb dX6_value_108 (lv_at hl 5 rfl) ?_
          refine lv_iconst (v := 1) hx hb dX6_value_110 (by decide) ?_
          refine lv_isub hx hb dX6_value_111 ?_
          obtain ⟨gg_26, hf⟩ := gd_out hf
          refine alI C hS (rfl) rfl gg_26 dX6_value_112 ?_
          obtain ⟨r_27, x_28, qr_27, hf⟩ := bd_out hf
          refine rsI (As := [.int (v_5 - 10000), .int (x 40 (ix (u4 - 2))), .int (x 40 (ix (u4 - 1)))]) (rest := [.int (u4 - 2), .ref (G.1 + 40)]) C hS KX6_joined (cX6_joined_ qr_27) g_320 ⟨rfl, rfl⟩ ⟨(Nat.le_of_ble_eq_true rfl), (Nat.le_of_ble_eq_true rfl)⟩ hl.1 rfl rfl (Nat.le_of_ble_eq_true rfl) ⟨Nat.zero_le _, Nat.zero_le _⟩ dX6_value_113 (fun H locs hS => ?_)
          obtain ⟨gg_29, hf⟩ := gd_out hf
          obtain ⟨x_30, ex_30, hf⟩ := st_out hf
          refine asI C hS (rfl) rfl gg_29 ex_30 dX6_value_116 (fun H locs hS => ?_)
          obtain ⟨v_31, ev_31, hf⟩ := st_out hf
          refine lv_iinc (v := v_31) (lv' := [(4, .int v_31), (6, .int v_5), (0, .ref (G.1 + a0)), (1, .int u1), (2, .int u2), (3, .int u3), (5, .int u5)]) hx hb dX6_value_117 hl (k := 5) rfl (by rw [ev_31]; rfl) (by decide) rfl (fun ls hl => ?_)
          refine lv_goto (tgt := 175) hx hb dX6_value_120 (by decide) ?_
          exact wX6_value_h175  ha0 C hk6 u1 u2 u3 v_31 u5 x_30 hf _ _ _ hS (lv_sub hl [2, 3, 4, 5, 0, 6] rfl)
    · replace hf := if_p c_6 hf
      refine lv_iload hx hb dX6_value_32 (lv_at hl 5 rfl) ?_
      refine lv_iconst (v := 1) hx hb dX6_value_34 (by decide) ?_
      refine lv_icmp_lt (tgt := 175) hx hb dX6_value_35 (by decide) (fun c_32 => ?_) (fun c_32 => ?_)
      · replace hf := if_p c_32 hf
        exact wX6_value_h175  ha0 C hk6 u1 u2 u3 u4 u5 x hf _ _ _ hS (lv_sub hl [1, 2, 3, 4, 5, 6] rfl)
      · replace hf := if_n c_32 hf
        refine lv_aload_n hx hb dX6_value_38 rfl (lv_at hl 1 rfl) ?_
        refine gf5_5 C hS ha0 g_167 dX6_value_39 ?_
        refine lv_iload hx hb dX6_value_42 (lv_at hl 5 rfl) ?_
        refine lv_iconst (v := 1) hx hb dX6_value_44 (by decide) ?_
        refine lv_isub hx hb dX6_value_45 ?_
        refine lv_aload_n hx hb dX6_value_46 rfl (lv_at hl 1 rfl) ?_
        refine gf5_5 C hS ha0 g_167 dX6_value_47 ?_
        refine lv_iload hx hb dX6_value_50 (lv_at hl 5 rfl) ?_
        refine lv_iconst (v := 1) hx hb dX6_value_52 (by decide) ?_
        refine lv_isub hx hb dX6_value_53 ?_
        obtain ⟨gg_33, hf⟩ := gd_out hf
        refine alI C hS (rfl) rfl gg_33 dX6_value_54 ?_
        refine lv_if_ne (tgt := 62) hx hb dX6_value_55 (by decide) (fun c_34 => ?_) (fun c_34 => ?_)
        · replace hf := if_n c_34 hf
          refine lv_iconst (v := 0) hx hb dX6_value_62 (by decide) ?_
          obtain ⟨gg_35, hf⟩ := gd_out hf
          obtain ⟨x_36, ex_36, hf⟩ := st_out hf
          refine asI C hS (rfl) rfl gg_35 ex_36 dX6_value_63 (fun H locs hS => ?_)
          refine lv_goto (tgt := 175) hx hb dX6_value_64 (by decide) ?_
          exact wX6_value_h175  ha0 C hk6 u1 u2 u3 u4 u5 x_36 hf _ _ _ hS (lv_sub hl [1, 2, 3, 4, 5, 6] rfl)
        · replace hf := if_p c_34 hf
          refine lv_iconst (v := 1) hx hb dX6_value_58 (by decide) ?_
          refine lv_goto (tgt := 63) hx hb dX6_value_59 (by decide) ?_
          obtain ⟨gg_37, hf⟩ := gd_out hf
          obtain ⟨x_38, ex_38, hf⟩ := st_out hf
          refine asI C hS (rfl) rfl gg_37 ex_38 dX6_value_63 (fun H locs hS => ?_)
          refine lv_goto (tgt := 175) hx hb dX6_value_64 (by decide) ?_
          exact wX6_value_h175  ha0 C hk6 u1 u2 u3 u4 u5 x_38 hf _ _ _ hS (lv_sub hl [1, 2, 3, 4, 5, 6] rfl)
theorem wlX6_value_h6 {p : Program} {l : Launch} {e : Env} {s : State} {m : MethodId} {args : Array Value} {below : List Frame} {meth : Method} {c : Code} {G : GT} {a0 : Nat} {r : Int32} {z : XS} (ha0 : tg a0 = 5) (C : CX G p s m args meth c cX6_value 7 (some .int) RX6) (n : Nat) : ∀ (u1 : Int32) (u2 : Int32) (u3 : Int32) (u4 : Int32) (u5 : Int32) (x : XS), lX6_value_h6 a0 n u1 u2 u3 u4 u5 x = some (r, z) → ∀ (H : Heap) (locs : List Loc) (ls : Array Slot), SR G x H locs → lv_has ls 7 [(0, .ref (G.1 + a0)), (1, .int u1), (2, .int u2), (3, .int u3), (4, .int u4), (5, .int u5)] → W p l e rmX6_value s m args below meth c H locs 0 0 (MQ below (QC G (some (.int r)) z) args s 0 0 (AB G)) (F0 m 6 ls []) := by
  induction n with
  | zero => intro u1 u2 u3 u4 u5 x hf H locs ls hS hl; exact absurd hf (by intro q; cases q)
  | succ n ih => exact wbX6_value_h6 ha0 C ih
theorem wX6_value_h6 {p : Program} {l : Launch} {e : Env} {s : State} {m : MethodId} {args : Array Value} {below : List Frame} {meth : Method} {c : Code} {G : GT} {a0 : Nat} {r : Int32} {z : XS} (ha0 : tg a0 = 5) (C : CX G p s m args meth c cX6_value 7 (some .int) RX6) : ∀ (u1 : Int32) (u2 : Int32) (u3 : Int32) (u4 : Int32) (u5 : Int32) (x : XS), fX6_value_h6 a0 u1 u2 u3 u4 u5 x = some (r, z) → ∀ (H : Heap) (locs : List Loc) (ls : Array Slot), SR G x H locs → lv_has ls 7 [(0, .ref (G.1 + a0)), (1, .int u1), (2, .int u2), (3, .int u3), (4, .int u4), (5, .int u5)] → W p l e rmX6_value s m args below meth c H locs 0 0 (MQ below (QC G (some (.int r)) z) args s 0 0 (AB G)) (F0 m 6 ls []) := wlX6_value_h6 ha0 C FU
set_option maxRecDepth 100000 in
set_option maxHeartbeats 4000000 in
theorem cX6_value_ {G : GT} {l : Launch} {a0 : Nat} {v1 : Int32} {v2 : Int32} {v3 : Int32} (ha0 : tg a0 = 5) {x z : XS} {r : Int32} (hf : fX6_value a0 v1 v2 v3 x = some (r, z)) : Ct G l yX6_value (.code yX6_value cX6_value 7 (some .int)) rmX6_value [.ref (G.1 + a0), .int v1, .int v2, .int v3] x (some (.int r)) z := by
  refine Ct.of (by decide +kernel) (Nat.le_of_ble_eq_true rfl) ?_
  intro p e s m args below meth c C ls hl hS
  have C : CX G p s m args meth c cX6_value 7 (some .int) RX6 := C
  have hl : lv_has ls 7 [(0, .ref (G.1 + a0)), (1, .int v1), (2, .int v2), (3, .int v3)] := hl
  have hx := C.1
  have hb := C.2.1
  have hown := C.2.2.2.2.2.1
  have hw := C.2.2.2.2.2.2.1
  unfold fX6_value at hf
  refine lv_iconst (v := 0) hx hb dX6_value_0 (by decide) ?_
  refine lv_istore (lv' := [(4, .int 0), (0, .ref (G.1 + a0)), (1, .int v1), (2, .int v2), (3, .int v3)]) hx hb dX6_value_1 hl (by decide) rfl (fun ls hl => ?_)
  refine lv_iconst (v := 0) hx hb dX6_value_3 (by decide) ?_
  refine lv_istore (lv' := [(5, .int 0), (4, .int 0), (0, .ref (G.1 + a0)), (1, .int v1), (2, .int v2), (3, .int v3)]) hx hb dX6_value_4 hl (by decide) rfl (fun ls hl => ?_)
  exact wX6_value_h6  ha0 C v1 v2 v3 0 0 x hf _ _ _ hS (lv_sub hl [2, 3, 4, 5, 1, 0] rfl)
abbrev rmX4_shineOf : Room := { frames := 2, cells := 0, slots := 0, locals := 82 }
set_option maxRecDepth 100000 in
set_option maxHeartbeats 4000000 in
theorem wX4_shineOf_h67 {p : Program} {l : Launch} {e : Env} {s : State} {m : MethodId} {args : Array Value} {below : List Frame} {meth : Method} {c : Code} {G : GT} {a0 : Nat} {a1 : Nat} {r : Int32} {z : XS} (ha0 : tg a0 = 3) (ha1 : tg a1 = 0) (C : CX G p s m args meth c cX4_shineOf 8 (some .int) RX4) : ∀ (u2 : Int32) (s0 : Int32) (x : XS), fX4_shineOf_h67 a0 a1 u2 s0 x = some (r, z) → ∀ (H : Heap) (locs : List Loc) (ls : Array Slot), SR G x H locs → lv_has ls 8 [(1, .ref (G.1 + a1)), (2, .int u2)] → W p l e rmX4_shineOf s m args below meth c H locs 0 0 (MQ below (QC G (some (.int r)) z) args s 0 0 (AB G)) (F0 m 67 ls [.int s0]) := by
  intro u2 s0 x hf H locs ls hS hl
  have hx := C.1
  have hb := C.2.1
  have hown := C.2.2.2.2.2.1
  have hw := C.2.2.2.2.2.2.1
  unfold fX4_shineOf_h67 at hf
  refine lv_istore (lv' := [(7, .int s0), (1, .ref (G.1 + a1)), (2, .int u2)]) hx hb dX4_shineOf_67 hl (by decide) rfl (fun ls hl => ?_)
  refine lv_aload_n hx hb dX4_shineOf_69 rfl (lv_at hl 1 rfl) ?_
  refine gf0_0 C hS ha1 g_70 dX4_shineOf_70 ?_
  refine lv_iload_n hx hb dX4_shineOf_73 rfl (lv_at hl 2 rfl) ?_
  refine lv_iconst (v := 0) hx hb dX4_shineOf_74 (by decide) ?_
  refine lv_sipush (v := 999) hx hb dX4_shineOf_75 (by decide) ?_
  refine lv_iload hx hb dX4_shineOf_78 (lv_at hl 0 rfl) ?_
  refine va_mmin hx hb (C.2.2.1.trans hl.1.symm) hown (hw _ g_323) (hw _ g_324) (hw _ g_10) (hw _ g_325) (Nat.le_of_ble_eq_true rfl) (Nat.le_of_ble_eq_true rfl) (Nat.zero_le _) (Nat.zero_le _) dX4_shineOf_80 ?_
  obtain ⟨v_10, ev_10, hf⟩ := st_out hf
  refine topI ev_10 ?_
  refine va_mmax hx hb (C.2.2.1.trans hl.1.symm) hown (hw _ g_326) (hw _ g_296) (hw _ g_10) (hw _ g_297) (Nat.le_of_ble_eq_true rfl) (Nat.le_of_ble_eq_true rfl) (Nat.zero_le _) (Nat.zero_le _) dX4_shineOf_83 ?_
  obtain ⟨v_11, ev_11, hf⟩ := st_out hf
  refine topI ev_11 ?_
  obtain ⟨r_12, x_13, qr_12, hf⟩ := bd_out hf
  refine rsI (As := [.int (x a1 0), .int u2, .int v_11]) (rest := []) C hS KX1_shineFrom (cX1_shineFrom_ qr_12) g_327 ⟨rfl, rfl⟩ ⟨(Nat.le_of_ble_eq_true rfl), (Nat.le_of_ble_eq_true rfl)⟩ hl.1 rfl rfl (Nat.le_of_ble_eq_true rfl) ⟨Nat.zero_le _, Nat.zero_le _⟩ dX4_shineOf_86 (fun H locs hS => ?_)
  exact rtI C hS hf dX4_shineOf_89
set_option maxRecDepth 100000 in
set_option maxHeartbeats 4000000 in
theorem wX4_shineOf_h30 {p : Program} {l : Launch} {e : Env} {s : State} {m : MethodId} {args : Array Value} {below : List Frame} {meth : Method} {c : Code} {G : GT} {a0 : Nat} {a1 : Nat} {r : Int32} {z : XS} (ha0 : tg a0 = 3) (ha1 : tg a1 = 0) (C : CX G p s m args meth c cX4_shineOf 8 (some .int) RX4) : ∀ (u2 : Int32) (u4 : Int32) (s0 : Int32) (x : XS), fX4_shineOf_h30 a0 a1 u2 u4 s0 x = some (r, z) → ∀ (H : Heap) (locs : List Loc) (ls : Array Slot), SR G x H locs → lv_has ls 8 [(0, .ref (G.1 + a0)), (1, .ref (G.1 + a1)), (2, .int u2), (4, .int u4)] → W p l e rmX4_shineOf s m args below meth c H locs 0 0 (MQ below (QC G (some (.int r)) z) args s 0 0 (AB G)) (F0 m 30 ls [.int s0]) := by
  intro u2 u4 s0 x hf H locs ls hS hl
  have hx := C.1
  have hb := C.2.1
  have hown := C.2.2.2.2.2.1
  have hw := C.2.2.2.2.2.2.1
  unfold fX4_shineOf_h30 at hf
  refine lv_istore (lv' := [(5, .int s0), (0, .ref (G.1 + a0)), (1, .ref (G.1 + a1)), (2, .int u2), (4, .int u4)]) hx hb dX4_shineOf_30 hl (by decide) rfl (fun ls hl => ?_)
  refine lv_aload_n hx hb dX4_shineOf_32 rfl (lv_at hl 1 rfl) ?_
  refine lv_iconst (v := 0) hx hb dX4_shineOf_33 (by decide) ?_
  obtain ⟨r_3, x_4, qr_3, hf⟩ := bd_out hf
  refine rvL (As := [.int 0]) (rest := []) C hS ha0 rfl KX4_law (cX4_law_ ha0 qr_3) g_309 ⟨rfl, rfl⟩ ⟨(Nat.le_of_ble_eq_true rfl), (Nat.le_of_ble_eq_true rfl)⟩ hl.1 rfl rfl (Nat.le_of_ble_eq_true rfl) ⟨Nat.zero_le _, Nat.zero_le _⟩ dX4_shineOf_34 (fun H locs hS => ?_)
  refine stL (lv' := [(6, lwv G.1 r_3), (5, .int s0), (0, .ref (G.1 + a0)), (1, .ref (G.1 + a1)), (2, .int u2), (4, .int u4)]) hx hb dX4_shineOf_37 hl (by decide) rfl (fun ls hl => ?_)
  refine ldL hx hb dX4_shineOf_39 (lv_at hl 0 rfl) ?_
  refine nnulL hx hb dX4_shineOf_41 (tgt := 54) (by decide) (fun c_5 => ?_) (fun c_5 => ?_)
  · replace hf := if_n c_5 hf
    obtain ⟨glc_5, hf⟩ := gd_out hf
    rw [lwv_ref c_5] at hl
    refine lv_aload hx hb dX4_shineOf_54 (lv_at hl 0 rfl) ?_
    refine lv_iload hx hb dX4_shineOf_56 (lv_at hl 5 rfl) ?_
    refine lv_iload hx hb dX4_shineOf_58 (lv_at hl 1 rfl) ?_
    refine lv_aload_n hx hb dX4_shineOf_60 rfl (lv_at hl 3 rfl) ?_
    refine gf0_1 C hS ha1 g_72 dX4_shineOf_61 ?_
    obtain ⟨r_6, x_7, qr_6, hf⟩ := bd_out hf
    refine rvI (As := [.int u4, .int s0, .int (x_4 a1 1)]) (rest := []) C hS (of_decide_eq_true glc_5) rfl KX6_value (cX6_value_ (of_decide_eq_true glc_5) qr_6) g_316 ⟨rfl, rfl⟩ ⟨(Nat.le_of_ble_eq_true rfl), (Nat.le_of_ble_eq_true rfl)⟩ hl.1 rfl rfl (Nat.le_of_ble_eq_true rfl) ⟨Nat.zero_le _, Nat.zero_le _⟩ dX4_shineOf_64 (fun H locs hS => ?_)
    exact wX4_shineOf_h67  ha0 ha1 C u2 r_6 x_7 hf _ _ _ hS (lv_sub hl [3, 4] rfl)
  · replace hf := if_p c_5 hf
    refine lv_iload hx hb dX4_shineOf_44 (lv_at hl 5 rfl) ?_
    refine lv_iload hx hb dX4_shineOf_46 (lv_at hl 1 rfl) ?_
    obtain ⟨r_8, x_9, qr_8, hf⟩ := bd_out hf
    refine rsI (As := [.int u4, .int s0]) (rest := []) C hS KX4_bareShine (cX4_bareShine_ qr_8) g_313 ⟨rfl, rfl⟩ ⟨(Nat.le_of_ble_eq_true rfl), (Nat.le_of_ble_eq_true rfl)⟩ hl.1 rfl rfl (Nat.le_of_ble_eq_true rfl) ⟨Nat.zero_le _, Nat.zero_le _⟩ dX4_shineOf_48 (fun H locs hS => ?_)
    refine lv_goto (tgt := 67) hx hb dX4_shineOf_51 (by decide) ?_
    exact wX4_shineOf_h67  ha0 ha1 C u2 r_8 x_9 hf _ _ _ hS (lv_sub hl [3, 4] rfl)
set_option maxRecDepth 100000 in
set_option maxHeartbeats 4000000 in
theorem wX4_shineOf_h15 {p : Program} {l : Launch} {e : Env} {s : State} {m : MethodId} {args : Array Value} {below : List Frame} {meth : Method} {c : Code} {G : GT} {a0 : Nat} {a1 : Nat} {r : Int32} {z : XS} (ha0 : tg a0 = 3) (ha1 : tg a1 = 0) (C : CX G p s m args meth c cX4_shineOf 8 (some .int) RX4) : ∀ (u2 : Int32) (u3 : Int32) (s0 : Int32) (x : XS), fX4_shineOf_h15 a0 a1 u2 u3 s0 x = some (r, z) → ∀ (H : Heap) (locs : List Loc) (ls : Array Slot), SR G x H locs → lv_has ls 8 [(0, .ref (G.1 + a0)), (1, .ref (G.1 + a1)), (2, .int u2), (3, .int u3)] → W p l e rmX4_shineOf s m args below meth c H locs 0 0 (MQ below (QC G (some (.int r)) z) args s 0 0 (AB G)) (F0 m 15 ls [.int s0]) := by
  intro u2 u3 s0 x hf H locs ls hS hl
  have hx := C.1
  have hb := C.2.1
  have hown := C.2.2.2.2.2.1
  have hw := C.2.2.2.2.2.2.1
  unfold fX4_shineOf_h15 at hf
  refine lv_istore (lv' := [(4, .int s0), (0, .ref (G.1 + a0)), (1, .ref (G.1 + a1)), (2, .int u2), (3, .int u3)]) hx hb dX4_shineOf_15 hl (by decide) rfl (fun ls hl => ?_)
  refine lv_aload_n hx hb dX4_shineOf_17 rfl (lv_at hl 2 rfl) ?_
  refine gf0_0 C hS ha1 g_70 dX4_shineOf_18 ?_
  refine lv_iconst (v := 5) hx hb dX4_shineOf_21 (by decide) ?_
  refine lv_icmp_ne (tgt := 29) hx hb dX4_shineOf_22 (by decide) (fun c_2 => ?_) (fun c_2 => ?_)
  · replace hf := if_n c_2 hf
    refine lv_iload_n hx hb dX4_shineOf_29 rfl (lv_at hl 4 rfl) ?_
    exact wX4_shineOf_h30  ha0 ha1 C u2 s0 u3 x hf _ _ _ hS (lv_sub hl [1, 2, 3, 0] rfl)
  · replace hf := if_p c_2 hf
    refine lv_iconst (v := 0) hx hb dX4_shineOf_25 (by decide) ?_
    refine lv_goto (tgt := 30) hx hb dX4_shineOf_26 (by decide) ?_
    exact wX4_shineOf_h30  ha0 ha1 C u2 s0 0 x hf _ _ _ hS (lv_sub hl [1, 2, 3, 0] rfl)
set_option maxRecDepth 100000 in
set_option maxHeartbeats 4000000 in
theorem cX4_shineOf_ {G : GT} {l : Launch} {a0 : Nat} {a1 : Nat} {v2 : Int32} {v3 : Int32} (ha0 : tg a0 = 3) (ha1 : tg a1 = 0) {x z : XS} {r : Int32} (hf : fX4_shineOf a0 a1 v2 v3 x = some (r, z)) : Ct G l yX4_shineOf (.code yX4_shineOf cX4_shineOf 8 (some .int)) rmX4_shineOf [.ref (G.1 + a0), .ref (G.1 + a1), .int v2, .int v3] x (some (.int r)) z := by
  refine Ct.of (by decide +kernel) (Nat.le_of_ble_eq_true rfl) ?_
  intro p e s m args below meth c C ls hl hS
  have C : CX G p s m args meth c cX4_shineOf 8 (some .int) RX4 := C
  have hl : lv_has ls 8 [(0, .ref (G.1 + a0)), (1, .ref (G.1 + a1)), (2, .int v2), (3, .int v3)] := hl
  have hx := C.1
  have hb := C.2.1
  have hown := C.2.2.2.2.2.1
  have hw := C.2.2.2.2.2.2.1
  unfold fX4_shineOf at hf
  refine lv_aload_n hx hb dX4_shineOf_0 rfl (lv_at hl 1 rfl) ?_
  refine gf0_0 C hS ha1 g_70 dX4_shineOf_1 ?_
  refine lv_iconst (v := 3) hx hb dX4_shineOf_4 (by decide) ?_
  refine lv_icmp_ne (tgt := 14) hx hb dX4_shineOf_5 (by decide) (fun c_1 => ?_) (fun c_1 => ?_)
  · replace hf := if_n c_1 hf
    refine lv_iload_n hx hb dX4_shineOf_14 rfl (lv_at hl 2 rfl) ?_
    exact wX4_shineOf_h15  ha0 ha1 C v2 v3 v2 x hf _ _ _ hS (lv_sub hl [0, 1, 2, 3] rfl)
  · replace hf := if_p c_1 hf
    refine lv_iconst (v := 2) hx hb dX4_shineOf_8 (by decide) ?_
    refine lv_iload_n hx hb dX4_shineOf_9 rfl (lv_at hl 2 rfl) ?_
    refine lv_imul hx hb dX4_shineOf_10 ?_
    refine lv_goto (tgt := 15) hx hb dX4_shineOf_11 (by decide) ?_
    exact wX4_shineOf_h15  ha0 ha1 C v2 v3 (2 * v2) x hf _ _ _ hS (lv_sub hl [0, 1, 2, 3] rfl)
abbrev rmX4_chosenBoy : Room := { frames := 2, cells := 0, slots := 0, locals := 81 }
set_option maxRecDepth 100000 in
set_option maxHeartbeats 4000000 in
theorem wX4_chosenBoy_h107 {p : Program} {l : Launch} {e : Env} {s : State} {m : MethodId} {args : Array Value} {below : List Frame} {meth : Method} {c : Code} {G : GT} {a0 : Nat} {r : Int32} {z : XS} (ha0 : tg a0 = 3) (C : CX G p s m args meth c cX4_chosenBoy 8 (some .int) RX4) {k8 : Int32 → Int32 → Int32 → Int32 → Int32 → XS → Option (Int32 × XS)} (hk8 : ∀ (u1 : Int32) (u2 : Int32) (u3 : Int32) (u4 : Int32) (u5 : Int32) (x : XS), k8 u1 u2 u3 u4 u5 x = some (r, z) → ∀ (H : Heap) (locs : List Loc) (ls : Array Slot), SR G x H locs → lv_has ls 8 [(0, .ref (G.1 + a0)), (1, .int u1), (2, .int u2), (3, .int u3), (4, .int u4), (5, .int u5)] → W p l e rmX4_chosenBoy s m args below meth c H locs 0 0 (MQ below (QC G (some (.int r)) z) args s 0 0 (AB G)) (F0 m 8 ls [])) : ∀ (u1 : Int32) (u2 : Int32) (u3 : Int32) (u4 : Int32) (u5 : Int32) (x : XS), fX4_chosenBoy_h107 a0 k8 u1 u2 u3 u4 u5 x = some (r, z) → ∀ (H : Heap) (locs : List Loc) (ls : Array Slot), SR G x H locs → lv_has ls 8 [(0, .ref (G.1 + a0)), (1, .int u1), (2, .int u2), (3, .int u3), (4, .int u4), (5, .int u5)] → W p l e rmX4_chosenBoy s m args below meth c H locs 0 0 (MQ below (QC G (some (.int r)) z) args s 0 0 (AB G)) (F0 m 107 ls []) := by
  intro u1 u2 u3 u4 u5 x hf H locs ls hS hl
  have hx := C.1
  have hb := C.2.1
  have hown := C.2.2.2.2.2.1
  have hw := C.2.2.2.2.2.2.1
  unfold fX4_chosenBoy_h107 at hf
  obtain ⟨v_14, ev_14, hf⟩ := st_out hf
  refine lv_iinc (v := v_14) (lv' := [(5, .int v_14), (0, .ref (G.1 + a0)), (1, .int u1), (2, .int u2), (3, .int u3), (4, .int u4)]) hx hb dX4_chosenBoy_107 hl (k := 5) rfl (by rw [ev_14]; rfl) (by decide) rfl (fun ls hl => ?_)
  refine lv_goto (tgt := 8) hx hb dX4_chosenBoy_110 (by decide) ?_
  exact hk8 u1 u2 u3 u4 v_14 x hf _ _ _ hS (lv_sub hl [1, 2, 3, 4, 5, 0] rfl)
set_option maxRecDepth 100000 in
set_option maxHeartbeats 4000000 in
theorem wbX4_chosenBoy_h8 {p : Program} {l : Launch} {e : Env} {s : State} {m : MethodId} {args : Array Value} {below : List Frame} {meth : Method} {c : Code} {G : GT} {a0 : Nat} {r : Int32} {z : XS} (ha0 : tg a0 = 3) (C : CX G p s m args meth c cX4_chosenBoy 8 (some .int) RX4) {k8 : Int32 → Int32 → Int32 → Int32 → Int32 → XS → Option (Int32 × XS)} (hk8 : ∀ (u1 : Int32) (u2 : Int32) (u3 : Int32) (u4 : Int32) (u5 : Int32) (x : XS), k8 u1 u2 u3 u4 u5 x = some (r, z) → ∀ (H : Heap) (locs : List Loc) (ls : Array Slot), SR G x H locs → lv_has ls 8 [(0, .ref (G.1 + a0)), (1, .int u1), (2, .int u2), (3, .int u3), (4, .int u4), (5, .int u5)] → W p l e rmX4_chosenBoy s m args below meth c H locs 0 0 (MQ below (QC G (some (.int r)) z) args s 0 0 (AB G)) (F0 m 8 ls [])) : ∀ (u1 : Int32) (u2 : Int32) (u3 : Int32) (u4 : Int32) (u5 : Int32) (x : XS), bX4_chosenBoy_h8 a0 k8 u1 u2 u3 u4 u5 x = some (r, z) → ∀ (H : Heap) (locs : List Loc) (ls : Array Slot), SR G x H locs → lv_has ls 8 [(0, .ref (G.1 + a0)), (1, .int u1), (2, .int u2), (3, .int u3), (4, .int u4), (5, .int u5)] → W p l e rmX4_chosenBoy s m args below meth c H locs 0 0 (MQ below (QC G (some (.int r)) z) args s 0 0 (AB G)) (F0 m 8 ls []) := by
  intro u1 u2 u3 u4 u5 x hf H locs ls hS hl
  have hx := C.1
  have hb := C.2.1
  have hown := C.2.2.2.2.2.1
  have hw := C.2.2.2.2.2.2.1
  unfold bX4_chosenBoy_h8 at hf
  refine lv_iload hx hb dX4_chosenBoy_8 (lv_at hl 5 rfl) ?_
  refine lv_aload_n hx hb dX4_chosenBoy_10 rfl (lv_at hl 0 rfl) ?_
  refine gf3_2 C hS ha0 g_104 dX4_chosenBoy_11 ?_
  refine lv_icmp_ge (tgt := 113) hx hb dX4_chosenBoy_14 (by decide) (fun c_1 => ?_) (fun c_1 => ?_)
  · replace hf := if_p c_1 hf
    refine lv_iload_n hx hb dX4_chosenBoy_113 rfl (lv_at hl 3 rfl) ?_
    exact rtI C hS hf dX4_chosenBoy_114
  · replace hf := if_n c_1 hf
    refine lv_aload_n hx hb dX4_chosenBoy_17 rfl (lv_at hl 0 rfl) ?_
    refine gf3_0 C hS ha0 g_101 dX4_chosenBoy_18 ?_
    refine lv_iload hx hb dX4_chosenBoy_21 (lv_at hl 5 rfl) ?_
    obtain ⟨gg_2, hf⟩ := gd_out hf
    refine alV C hS (st_b ha0) (by decide) (by decide) 4 rfl (ln12 (st_b ha0)) gg_2 (v := .ref (G.1 + (a0 + 3 + (ix u5)))) (vwR (st_b ha0) (by decide) rfl) dX4_chosenBoy_23 ?_
    refine lv_astore (lv' := [(6, .ref (G.1 + (a0 + 3 + (ix u5)))), (0, .ref (G.1 + a0)), (1, .int u1), (2, .int u2), (3, .int u3), (4, .int u4), (5, .int u5)]) hx hb dX4_chosenBoy_24 hl (by decide) rfl (fun ls hl => ?_)
    refine lv_iload hx hb dX4_chosenBoy_26 (lv_at hl 6 rfl) ?_
    refine lv_aload_n hx hb dX4_chosenBoy_28 rfl (lv_at hl 1 rfl) ?_
    refine gf3_11 C hS ha0 g_122 dX4_chosenBoy_29 ?_
    refine lv_icmp_eq (tgt := 107) hx hb dX4_chosenBoy_32 (by decide) (fun c_3 => ?_) (fun c_3 => ?_)
    · replace hf := if_p c_3 hf
      exact wX4_chosenBoy_h107  ha0 C hk8 u1 u2 u3 u4 u5 x hf _ _ _ hS (lv_sub hl [1, 2, 3, 4, 5, 6] rfl)
    · replace hf := if_n c_3 hf
      refine lv_aload hx hb dX4_chosenBoy_35 (lv_at hl 0 rfl) ?_
      refine gf0_5 C hS (el12 (st_b ha0) gg_2) g_82 dX4_chosenBoy_37 ?_
      refine lv_if_gt (tgt := 107) hx hb dX4_chosenBoy_40 (by decide) (fun c_4 => ?_) (fun c_4 => ?_)
      · replace hf := if_p c_4 hf
        exact wX4_chosenBoy_h107  ha0 C hk8 u1 u2 u3 u4 u5 x hf _ _ _ hS (lv_sub hl [1, 2, 3, 4, 5, 6] rfl)
      · replace hf := if_n c_4 hf
        refine lv_aload hx hb dX4_chosenBoy_43 (lv_at hl 0 rfl) ?_
        refine gf0_0 C hS (el12 (st_b ha0) gg_2) g_70 dX4_chosenBoy_45 ?_
        refine lv_aload hx hb dX4_chosenBoy_48 (lv_at hl 0 rfl) ?_
        refine gf0_3 C hS (el12 (st_b ha0) gg_2) g_77 dX4_chosenBoy_50 ?_
        obtain ⟨r_5, x_6, qr_5, hf⟩ := bd_out hf
        refine rsI (As := [.int (x (a0 + 3 + (ix u5)) 0), .int (x (a0 + 3 + (ix u5)) 3)]) (rest := []) C hS KX1_takes (cX1_takes_ qr_5) g_395 ⟨rfl, rfl⟩ ⟨(Nat.le_of_ble_eq_true rfl), (Nat.le_of_ble_eq_true rfl)⟩ hl.1 rfl rfl (Nat.le_of_ble_eq_true rfl) ⟨Nat.zero_le _, Nat.zero_le _⟩ dX4_chosenBoy_53 (fun H locs hS => ?_)
        refine lv_iload_n hx hb dX4_chosenBoy_56 rfl (lv_at hl 3 rfl) ?_
        refine lv_icmp_le (tgt := 63) hx hb dX4_chosenBoy_57 (by decide) (fun c_7 => ?_) (fun c_7 => ?_)
        · replace hf := if_p c_7 hf
          refine lv_aload hx hb dX4_chosenBoy_63 (lv_at hl 0 rfl) ?_
          refine gf0_0 C hS (el12 (st_b ha0) gg_2) g_70 dX4_chosenBoy_65 ?_
          refine lv_aload hx hb dX4_chosenBoy_68 (lv_at hl 0 rfl) ?_
          refine gf0_2 C hS (el12 (st_b ha0) gg_2) g_75 dX4_chosenBoy_70 ?_
          obtain ⟨r_8, x_9, qr_8, hf⟩ := bd_out hf
          refine rsI (As := [.int (x_6 (a0 + 3 + (ix u5)) 0), .int (x_6 (a0 + 3 + (ix u5)) 2)]) (rest := []) C hS KX1_asks (cX1_asks_ qr_8) g_396 ⟨rfl, rfl⟩ ⟨(Nat.le_of_ble_eq_true rfl), (Nat.le_of_ble_eq_true rfl)⟩ hl.1 rfl rfl (Nat.le_of_ble_eq_true rfl) ⟨Nat.zero_le _, Nat.zero_le _⟩ dX4_chosenBoy_73 (fun H locs hS => ?_)
          refine lv_aload hx hb dX4_chosenBoy_76 (lv_at hl 0 rfl) ?_
          refine gf0_1 C hS (el12 (st_b ha0) gg_2) g_72 dX4_chosenBoy_78 ?_
          refine lv_iload_n hx hb dX4_chosenBoy_81 rfl (lv_at hl 2 rfl) ?_
          refine lv_isub hx hb dX4_chosenBoy_82 ?_
          refine va_mabs hx hb (C.2.2.1.trans hl.1.symm) hown (hw _ g_397) (hw _ g_398) (hw _ g_10) (hw _ g_399) (Nat.le_of_ble_eq_true rfl) (Nat.le_of_ble_eq_true rfl) (Nat.zero_le _) (Nat.zero_le _) dX4_chosenBoy_83 ?_
          obtain ⟨v_10, ev_10, hf⟩ := st_out hf
          refine topI ev_10 ?_
          refine lv_iadd hx hb dX4_chosenBoy_86 ?_
          obtain ⟨v_11, ev_11, hf⟩ := st_out hf
          refine topI ev_11 ?_
          refine lv_istore (lv' := [(7, .int v_11), (6, .ref (G.1 + (a0 + 3 + (ix u5)))), (0, .ref (G.1 + a0)), (1, .int u1), (2, .int u2), (3, .int u3), (4, .int u4), (5, .int u5)]) hx hb dX4_chosenBoy_87 hl (by decide) rfl (fun ls hl => ?_)
          refine lv_iload_n hx hb dX4_chosenBoy_89 rfl (lv_at hl 5 rfl) ?_
          refine lv_if_lt (tgt := 100) hx hb dX4_chosenBoy_90 (by decide) (fun c_12 => ?_) (fun c_12 => ?_)
          · replace hf := if_p c_12 hf
            refine lv_iload hx hb dX4_chosenBoy_100 (lv_at hl 7 rfl) ?_
            refine lv_istore_n (lv' := [(3, .int u5), (7, .int v_11), (6, .ref (G.1 + (a0 + 3 + (ix u5)))), (0, .ref (G.1 + a0)), (1, .int u1), (2, .int u2), (4, .int u4), (5, .int u5)]) hx hb dX4_chosenBoy_102 rfl hl (by decide) rfl (fun ls hl => ?_)
            refine lv_iload hx hb dX4_chosenBoy_103 (lv_at hl 1 rfl) ?_
            refine lv_istore (lv' := [(4, .int v_11), (3, .int u5), (7, .int v_11), (6, .ref (G.1 + (a0 + 3 + (ix u5)))), (0, .ref (G.1 + a0)), (1, .int u1), (2, .int u2), (5, .int u5)]) hx hb dX4_chosenBoy_105 hl (by decide) rfl (fun ls hl => ?_)
            exact wX4_chosenBoy_h107  ha0 C hk8 u1 u2 u5 v_11 u5 x_9 hf _ _ _ hS (lv_sub hl [4, 5, 6, 1, 0, 7] rfl)
          · replace hf := if_n c_12 hf
            refine lv_iload hx hb dX4_chosenBoy_93 (lv_at hl 0 rfl) ?_
            refine lv_iload hx hb dX4_chosenBoy_95 (lv_at hl 6 rfl) ?_
            refine lv_icmp_ge (tgt := 107) hx hb dX4_chosenBoy_97 (by decide) (fun c_13 => ?_) (fun c_13 => ?_)
            · replace hf := if_p c_13 hf
              exact wX4_chosenBoy_h107  ha0 C hk8 u1 u2 u3 u4 u5 x_9 hf _ _ _ hS (lv_sub hl [2, 3, 4, 5, 6, 7] rfl)
            · replace hf := if_n c_13 hf
              refine lv_iload hx hb dX4_chosenBoy_100 (lv_at hl 7 rfl) ?_
              refine lv_istore_n (lv' := [(3, .int u5), (7, .int v_11), (6, .ref (G.1 + (a0 + 3 + (ix u5)))), (0, .ref (G.1 + a0)), (1, .int u1), (2, .int u2), (4, .int u4), (5, .int u5)]) hx hb dX4_chosenBoy_102 rfl hl (by decide) rfl (fun ls hl => ?_)
              refine lv_iload hx hb dX4_chosenBoy_103 (lv_at hl 1 rfl) ?_
              refine lv_istore (lv' := [(4, .int v_11), (3, .int u5), (7, .int v_11), (6, .ref (G.1 + (a0 + 3 + (ix u5)))), (0, .ref (G.1 + a0)), (1, .int u1), (2, .int u2), (5, .int u5)]) hx hb dX4_chosenBoy_105 hl (by decide) rfl (fun ls hl => ?_)
              exact wX4_chosenBoy_h107  ha0 C hk8 u1 u2 u5 v_11 u5 x_9 hf _ _ _ hS (lv_sub hl [4, 5, 6, 1, 0, 7] rfl)
        · replace hf := if_n c_7 hf
          refine lv_goto (tgt := 107) hx hb dX4_chosenBoy_60 (by decide) ?_
          exact wX4_chosenBoy_h107  ha0 C hk8 u1 u2 u3 u4 u5 x_6 hf _ _ _ hS (lv_sub hl [1, 2, 3, 4, 5, 6] rfl)
theorem wlX4_chosenBoy_h8 {p : Program} {l : Launch} {e : Env} {s : State} {m : MethodId} {args : Array Value} {below : List Frame} {meth : Method} {c : Code} {G : GT} {a0 : Nat} {r : Int32} {z : XS} (ha0 : tg a0 = 3) (C : CX G p s m args meth c cX4_chosenBoy 8 (some .int) RX4) (n : Nat) : ∀ (u1 : Int32) (u2 : Int32) (u3 : Int32) (u4 : Int32) (u5 : Int32) (x : XS), lX4_chosenBoy_h8 a0 n u1 u2 u3 u4 u5 x = some (r, z) → ∀ (H : Heap) (locs : List Loc) (ls : Array Slot), SR G x H locs → lv_has ls 8 [(0, .ref (G.1 + a0)), (1, .int u1), (2, .int u2), (3, .int u3), (4, .int u4), (5, .int u5)] → W p l e rmX4_chosenBoy s m args below meth c H locs 0 0 (MQ below (QC G (some (.int r)) z) args s 0 0 (AB G)) (F0 m 8 ls []) := by
  induction n with
  | zero => intro u1 u2 u3 u4 u5 x hf H locs ls hS hl; exact absurd hf (by intro q; cases q)
  | succ n ih => exact wbX4_chosenBoy_h8 ha0 C ih
theorem wX4_chosenBoy_h8 {p : Program} {l : Launch} {e : Env} {s : State} {m : MethodId} {args : Array Value} {below : List Frame} {meth : Method} {c : Code} {G : GT} {a0 : Nat} {r : Int32} {z : XS} (ha0 : tg a0 = 3) (C : CX G p s m args meth c cX4_chosenBoy 8 (some .int) RX4) : ∀ (u1 : Int32) (u2 : Int32) (u3 : Int32) (u4 : Int32) (u5 : Int32) (x : XS), fX4_chosenBoy_h8 a0 u1 u2 u3 u4 u5 x = some (r, z) → ∀ (H : Heap) (locs : List Loc) (ls : Array Slot), SR G x H locs → lv_has ls 8 [(0, .ref (G.1 + a0)), (1, .int u1), (2, .int u2), (3, .int u3), (4, .int u4), (5, .int u5)] → W p l e rmX4_chosenBoy s m args below meth c H locs 0 0 (MQ below (QC G (some (.int r)) z) args s 0 0 (AB G)) (F0 m 8 ls []) := wlX4_chosenBoy_h8 ha0 C FU
set_option maxRecDepth 100000 in
set_option maxHeartbeats 4000000 in
theorem cX4_chosenBoy_ {G : GT} {l : Launch} {a0 : Nat} {v1 : Int32} {v2 : Int32} (ha0 : tg a0 = 3) {x z : XS} {r : Int32} (hf : fX4_chosenBoy a0 v1 v2 x = some (r, z)) : Ct G l yX4_chosenBoy (.code yX4_chosenBoy cX4_chosenBoy 8 (some .int)) rmX4_chosenBoy [.ref (G.1 + a0), .int v1, .int v2] x (some (.int r)) z := by
  refine Ct.of (by decide +kernel) (Nat.le_of_ble_eq_true rfl) ?_
  intro p e s m args below meth c C ls hl hS
  have C : CX G p s m args meth c cX4_chosenBoy 8 (some .int) RX4 := C
  have hl : lv_has ls 8 [(0, .ref (G.1 + a0)), (1, .int v1), (2, .int v2)] := hl
  have hx := C.1
  have hb := C.2.1
  have hown := C.2.2.2.2.2.1
  have hw := C.2.2.2.2.2.2.1
  unfold fX4_chosenBoy at hf
  refine lv_iconst (v := (-1)) hx hb dX4_chosenBoy_0 (by decide) ?_
  refine lv_istore_n (lv' := [(3, .int (-1)), (0, .ref (G.1 + a0)), (1, .int v1), (2, .int v2)]) hx hb dX4_chosenBoy_1 rfl hl (by decide) rfl (fun ls hl => ?_)
  refine lv_iconst (v := 0) hx hb dX4_chosenBoy_2 (by decide) ?_
  refine lv_istore (lv' := [(4, .int 0), (3, .int (-1)), (0, .ref (G.1 + a0)), (1, .int v1), (2, .int v2)]) hx hb dX4_chosenBoy_3 hl (by decide) rfl (fun ls hl => ?_)
  refine lv_iconst (v := 0) hx hb dX4_chosenBoy_5 (by decide) ?_
  refine lv_istore (lv' := [(5, .int 0), (4, .int 0), (3, .int (-1)), (0, .ref (G.1 + a0)), (1, .int v1), (2, .int v2)]) hx hb dX4_chosenBoy_6 hl (by decide) rfl (fun ls hl => ?_)
  exact wX4_chosenBoy_h8  ha0 C v1 v2 (-1) 0 0 x hf _ _ _ hS (lv_sub hl [3, 4, 5, 2, 1, 0] rfl)
abbrev rmX4_paidTo : Room := { frames := 2, cells := 0, slots := 0, locals := 81 }
set_option maxRecDepth 100000 in
set_option maxHeartbeats 4000000 in
theorem cX4_paidTo_ {G : GT} {l : Launch} {a0 : Nat} {v1 : Int32} (ha0 : tg a0 = 0) {x z : XS} {r : Int32} (hf : fX4_paidTo a0 v1 x = some (r, z)) : Ct G l yX4_paidTo (.code yX4_paidTo cX4_paidTo 3 (some .int)) rmX4_paidTo [.ref (G.1 + a0), .int v1] x (some (.int r)) z := by
  refine Ct.of (by decide +kernel) (Nat.le_of_ble_eq_true rfl) ?_
  intro p e s m args below meth c C ls hl hS
  have C : CX G p s m args meth c cX4_paidTo 3 (some .int) RX4 := C
  have hl : lv_has ls 3 [(0, .ref (G.1 + a0)), (1, .int v1)] := hl
  have hx := C.1
  have hb := C.2.1
  have hown := C.2.2.2.2.2.1
  have hw := C.2.2.2.2.2.2.1
  unfold fX4_paidTo at hf
  refine lv_iload_n hx hb dX4_paidTo_0 rfl (lv_at hl 1 rfl) ?_
  refine lv_bipush (v := 30) hx hb dX4_paidTo_1 (by decide) ?_
  refine lv_icmp_ge (tgt := 8) hx hb dX4_paidTo_3 (by decide) (fun c_1 => ?_) (fun c_1 => ?_)
  · replace hf := if_p c_1 hf
    refine lv_aload_n hx hb dX4_paidTo_8 rfl (lv_at hl 0 rfl) ?_
    refine gf0_0 C hS ha0 g_70 dX4_paidTo_9 ?_
    refine lv_aload_n hx hb dX4_paidTo_12 rfl (lv_at hl 0 rfl) ?_
    refine gf0_2 C hS ha0 g_75 dX4_paidTo_13 ?_
    obtain ⟨r_2, x_3, qr_2, hf⟩ := bd_out hf
    refine rsI (As := [.int (x a0 0), .int (x a0 2)]) (rest := []) C hS KX1_asks (cX1_asks_ qr_2) g_396 ⟨rfl, rfl⟩ ⟨(Nat.le_of_ble_eq_true rfl), (Nat.le_of_ble_eq_true rfl)⟩ hl.1 rfl rfl (Nat.le_of_ble_eq_true rfl) ⟨Nat.zero_le _, Nat.zero_le _⟩ dX4_paidTo_16 (fun H locs hS => ?_)
    refine lv_istore_n (lv' := [(2, .int r_2), (0, .ref (G.1 + a0)), (1, .int v1)]) hx hb dX4_paidTo_19 rfl hl (by decide) rfl (fun ls hl => ?_)
    refine lv_iload_n hx hb dX4_paidTo_20 rfl (lv_at hl 2 rfl) ?_
    refine lv_bipush (v := 90) hx hb dX4_paidTo_21 (by decide) ?_
    refine lv_icmp_lt (tgt := 32) hx hb dX4_paidTo_23 (by decide) (fun c_4 => ?_) (fun c_4 => ?_)
    · replace hf := if_p c_4 hf
      refine lv_iload_n hx hb dX4_paidTo_32 rfl (lv_at hl 0 rfl) ?_
      exact rtI C hS hf dX4_paidTo_33
    · replace hf := if_n c_4 hf
      refine lv_iload_n hx hb dX4_paidTo_26 rfl (lv_at hl 0 rfl) ?_
      refine lv_iconst (v := 1) hx hb dX4_paidTo_27 (by decide) ?_
      refine lv_iadd hx hb dX4_paidTo_28 ?_
      refine lv_goto (tgt := 33) hx hb dX4_paidTo_29 (by decide) ?_
      exact rtI C hS hf dX4_paidTo_33
  · replace hf := if_n c_1 hf
    refine lv_iconst (v := 0) hx hb dX4_paidTo_6 (by decide) ?_
    exact rtI C hS hf dX4_paidTo_7
abbrev rmX4_receiveMan : Room := { frames := 3, cells := 0, slots := 0, locals := 109 }
set_option maxRecDepth 100000 in
set_option maxHeartbeats 4000000 in
theorem cX4_receiveMan_ {G : GT} {l : Launch} {a0 : Nat} (ha0 : tg a0 = 3) {x z : XS} {r : Int32} (hf : fX4_receiveMan a0 x = some (r, z)) : Ct G l yX4_receiveMan (.code yX4_receiveMan cX4_receiveMan 8 (some .int)) rmX4_receiveMan [.ref (G.1 + a0)] x (some (.int r)) z := by
  refine Ct.of (by decide +kernel) (Nat.le_of_ble_eq_true rfl) ?_
  intro p e s m args below meth c C ls hl hS
  have C : CX G p s m args meth c cX4_receiveMan 8 (some .int) RX4 := C
  have hl : lv_has ls 8 [(0, .ref (G.1 + a0))] := hl
  have hx := C.1
  have hb := C.2.1
  have hown := C.2.2.2.2.2.1
  have hw := C.2.2.2.2.2.2.1
  unfold fX4_receiveMan at hf
  refine lv_aload_n hx hb dX4_receiveMan_0 rfl (lv_at hl 0 rfl) ?_
  obtain ⟨r_1, x_2, qr_1, hf⟩ := bd_out hf
  refine rvI (As := []) (rest := []) C hS ha0 rfl KX4_draw (cX4_draw_ ha0 qr_1) g_361 ⟨rfl, rfl⟩ ⟨(Nat.le_of_ble_eq_true rfl), (Nat.le_of_ble_eq_true rfl)⟩ hl.1 rfl rfl (Nat.le_of_ble_eq_true rfl) ⟨Nat.zero_le _, Nat.zero_le _⟩ dX4_receiveMan_1 (fun H locs hS => ?_)
  refine lv_bipush (v := 10) hx hb dX4_receiveMan_4 (by decide) ?_
  refine lv_irem hx hb dX4_receiveMan_6 (by decide) ?_
  obtain ⟨v_3, ev_3, hf⟩ := st_out hf
  refine topI ev_3 ?_
  refine lv_istore_n (lv' := [(1, .int v_3), (0, .ref (G.1 + a0))]) hx hb dX4_receiveMan_7 rfl hl (by decide) rfl (fun ls hl => ?_)
  refine lv_aload_n hx hb dX4_receiveMan_8 rfl (lv_at hl 1 rfl) ?_
  obtain ⟨r_4, x_5, qr_4, hf⟩ := bd_out hf
  refine rvI (As := []) (rest := []) C hS ha0 rfl KX4_draw (cX4_draw_ ha0 qr_4) g_361 ⟨rfl, rfl⟩ ⟨(Nat.le_of_ble_eq_true rfl), (Nat.le_of_ble_eq_true rfl)⟩ hl.1 rfl rfl (Nat.le_of_ble_eq_true rfl) ⟨Nat.zero_le _, Nat.zero_le _⟩ dX4_receiveMan_9 (fun H locs hS => ?_)
  refine lv_bipush (v := 10) hx hb dX4_receiveMan_12 (by decide) ?_
  refine lv_irem hx hb dX4_receiveMan_14 (by decide) ?_
  obtain ⟨v_6, ev_6, hf⟩ := st_out hf
  refine topI ev_6 ?_
  refine lv_istore_n (lv' := [(2, .int v_6), (1, .int v_3), (0, .ref (G.1 + a0))]) hx hb dX4_receiveMan_15 rfl hl (by decide) rfl (fun ls hl => ?_)
  refine lv_iconst (v := 1) hx hb dX4_receiveMan_16 (by decide) ?_
  refine lv_aload_n hx hb dX4_receiveMan_17 rfl (lv_at hl 2 rfl) ?_
  obtain ⟨r_7, x_8, qr_7, hf⟩ := bd_out hf
  refine rvI (As := []) (rest := [.int 1]) C hS ha0 rfl KX4_draw (cX4_draw_ ha0 qr_7) g_361 ⟨rfl, rfl⟩ ⟨(Nat.le_of_ble_eq_true rfl), (Nat.le_of_ble_eq_true rfl)⟩ hl.1 rfl rfl (Nat.le_of_ble_eq_true rfl) ⟨Nat.zero_le _, Nat.zero_le _⟩ dX4_receiveMan_18 (fun H locs hS => ?_)
  refine lv_bipush (v := 9) hx hb dX4_receiveMan_21 (by decide) ?_
  refine lv_irem hx hb dX4_receiveMan_23 (by decide) ?_
  obtain ⟨v_9, ev_9, hf⟩ := st_out hf
  refine topI ev_9 ?_
  refine lv_iadd hx hb dX4_receiveMan_24 ?_
  obtain ⟨v_10, ev_10, hf⟩ := st_out hf
  refine topI ev_10 ?_
  refine lv_istore_n (lv' := [(3, .int v_10), (2, .int v_6), (1, .int v_3), (0, .ref (G.1 + a0))]) hx hb dX4_receiveMan_25 rfl hl (by decide) rfl (fun ls hl => ?_)
  refine lv_aload_n hx hb dX4_receiveMan_26 rfl (lv_at hl 3 rfl) ?_
  refine lv_iload_n hx hb dX4_receiveMan_27 rfl (lv_at hl 2 rfl) ?_
  refine lv_iload_n hx hb dX4_receiveMan_28 rfl (lv_at hl 0 rfl) ?_
  obtain ⟨r_11, x_12, qr_11, hf⟩ := bd_out hf
  refine rvI (As := [.int v_3, .int v_10]) (rest := []) C hS ha0 rfl KX4_chosenBoy (cX4_chosenBoy_ ha0 qr_11) g_391 ⟨rfl, rfl⟩ ⟨(Nat.le_of_ble_eq_true rfl), (Nat.le_of_ble_eq_true rfl)⟩ hl.1 rfl rfl (Nat.le_of_ble_eq_true rfl) ⟨Nat.zero_le _, Nat.zero_le _⟩ dX4_receiveMan_29 (fun H locs hS => ?_)
  refine lv_istore (lv' := [(4, .int r_11), (3, .int v_10), (2, .int v_6), (1, .int v_3), (0, .ref (G.1 + a0))]) hx hb dX4_receiveMan_32 hl (by decide) rfl (fun ls hl => ?_)
  refine lv_iload hx hb dX4_receiveMan_34 (lv_at hl 0 rfl) ?_
  refine lv_if_ge (tgt := 51) hx hb dX4_receiveMan_36 (by decide) (fun c_13 => ?_) (fun c_13 => ?_)
  · replace hf := if_p c_13 hf
    refine lv_aload_n hx hb dX4_receiveMan_51 rfl (lv_at hl 4 rfl) ?_
    refine gf3_0 C hS ha0 g_101 dX4_receiveMan_52 ?_
    refine lv_iload hx hb dX4_receiveMan_55 (lv_at hl 0 rfl) ?_
    obtain ⟨gg_14, hf⟩ := gd_out hf
    refine alV C hS (st_b ha0) (by decide) (by decide) 4 rfl (ln12 (st_b ha0)) gg_14 (v := .ref (G.1 + (a0 + 3 + (ix r_11)))) (vwR (st_b ha0) (by decide) rfl) dX4_receiveMan_57 ?_
    refine lv_astore (lv' := [(5, .ref (G.1 + (a0 + 3 + (ix r_11)))), (4, .int r_11), (3, .int v_10), (2, .int v_6), (1, .int v_3), (0, .ref (G.1 + a0))]) hx hb dX4_receiveMan_58 hl (by decide) rfl (fun ls hl => ?_)
    refine lv_aload hx hb dX4_receiveMan_60 (lv_at hl 0 rfl) ?_
    refine lv_aload hx hb dX4_receiveMan_62 (lv_at hl 0 rfl) ?_
    refine gf0_0 C hS (el12 (st_b ha0) gg_14) g_70 dX4_receiveMan_64 ?_
    refine lv_aload hx hb dX4_receiveMan_67 (lv_at hl 0 rfl) ?_
    refine gf0_3 C hS (el12 (st_b ha0) gg_14) g_77 dX4_receiveMan_69 ?_
    obtain ⟨r_15, x_16, qr_15, hf⟩ := bd_out hf
    refine rsI (As := [.int (x_12 (a0 + 3 + (ix r_11)) 0), .int (x_12 (a0 + 3 + (ix r_11)) 3)]) (rest := [.ref (G.1 + (a0 + 3 + (ix r_11)))]) C hS KX1_takes (cX1_takes_ qr_15) g_395 ⟨rfl, rfl⟩ ⟨(Nat.le_of_ble_eq_true rfl), (Nat.le_of_ble_eq_true rfl)⟩ hl.1 rfl rfl (Nat.le_of_ble_eq_true rfl) ⟨Nat.zero_le _, Nat.zero_le _⟩ dX4_receiveMan_72 (fun H locs hS => ?_)
    obtain ⟨x_17, ex_17, hf⟩ := st_out hf
    refine pf0_5 C hS (el12 (st_b ha0) gg_14) g_82 ex_17 dX4_receiveMan_75 (fun H locs hS => ?_)
    refine lv_aload hx hb dX4_receiveMan_78 (lv_at hl 0 rfl) ?_
    refine lv_dup hx hb dX4_receiveMan_80 rfl ?_
    refine gf0_6 C hS (el12 (st_b ha0) gg_14) g_84 dX4_receiveMan_81 ?_
    refine lv_iconst (v := 1) hx hb dX4_receiveMan_84 (by decide) ?_
    refine lv_iadd hx hb dX4_receiveMan_85 ?_
    obtain ⟨x_18, ex_18, hf⟩ := st_out hf
    refine pf0_6 C hS (el12 (st_b ha0) gg_14) g_84 ex_18 dX4_receiveMan_86 (fun H locs hS => ?_)
    refine lv_aload hx hb dX4_receiveMan_89 (lv_at hl 0 rfl) ?_
    refine lv_aload_n hx hb dX4_receiveMan_91 rfl (lv_at hl 5 rfl) ?_
    refine lv_aload hx hb dX4_receiveMan_92 (lv_at hl 0 rfl) ?_
    refine lv_aload hx hb dX4_receiveMan_94 (lv_at hl 0 rfl) ?_
    refine gf0_3 C hS (el12 (st_b ha0) gg_14) g_77 dX4_receiveMan_96 ?_
    refine lv_iload_n hx hb dX4_receiveMan_99 rfl (lv_at hl 3 rfl) ?_
    obtain ⟨r_19, x_20, qr_19, hf⟩ := bd_out hf
    refine rvI (As := [.ref (G.1 + (a0 + 3 + (ix r_11))), .int (x_18 (a0 + 3 + (ix r_11)) 3), .int v_6]) (rest := [.ref (G.1 + (a0 + 3 + (ix r_11)))]) C hS ha0 rfl KX4_shineOf (cX4_shineOf_ ha0 (el12 (st_b ha0) gg_14) qr_19) g_400 ⟨rfl, rfl⟩ ⟨(Nat.le_of_ble_eq_true rfl), (Nat.le_of_ble_eq_true rfl)⟩ hl.1 rfl rfl (Nat.le_of_ble_eq_true rfl) ⟨Nat.zero_le _, Nat.zero_le _⟩ dX4_receiveMan_100 (fun H locs hS => ?_)
    obtain ⟨r_21, x_22, qr_21, hf⟩ := bd_out hf
    refine rsI (As := [.ref (G.1 + (a0 + 3 + (ix r_11))), .int r_19]) (rest := []) C hS KX4_paidTo (cX4_paidTo_ (el12 (st_b ha0) gg_14) qr_21) g_401 ⟨rfl, rfl⟩ ⟨(Nat.le_of_ble_eq_true rfl), (Nat.le_of_ble_eq_true rfl)⟩ hl.1 rfl rfl (Nat.le_of_ble_eq_true rfl) ⟨Nat.zero_le _, Nat.zero_le _⟩ dX4_receiveMan_103 (fun H locs hS => ?_)
    refine lv_istore (lv' := [(6, .int r_21), (5, .ref (G.1 + (a0 + 3 + (ix r_11)))), (4, .int r_11), (3, .int v_10), (2, .int v_6), (1, .int v_3), (0, .ref (G.1 + a0))]) hx hb dX4_receiveMan_106 hl (by decide) rfl (fun ls hl => ?_)
    refine lv_iload hx hb dX4_receiveMan_108 (lv_at hl 0 rfl) ?_
    refine lv_aload_n hx hb dX4_receiveMan_110 rfl (lv_at hl 6 rfl) ?_
    refine gf3_4 C hS ha0 g_108 dX4_receiveMan_111 ?_
    refine lv_imul hx hb dX4_receiveMan_114 ?_
    refine lv_bipush (v := 100) hx hb dX4_receiveMan_115 (by decide) ?_
    refine lv_idiv hx hb dX4_receiveMan_117 (by decide) ?_
    obtain ⟨v_23, ev_23, hf⟩ := st_out hf
    refine topI ev_23 ?_
    refine lv_istore (lv' := [(7, .int v_23), (6, .int r_21), (5, .ref (G.1 + (a0 + 3 + (ix r_11)))), (4, .int r_11), (3, .int v_10), (2, .int v_6), (1, .int v_3), (0, .ref (G.1 + a0))]) hx hb dX4_receiveMan_118 hl (by decide) rfl (fun ls hl => ?_)
    refine lv_aload_n hx hb dX4_receiveMan_120 rfl (lv_at hl 7 rfl) ?_
    refine lv_dup hx hb dX4_receiveMan_121 rfl ?_
    refine gf3_5 C hS ha0 g_110 dX4_receiveMan_122 ?_
    refine lv_iload hx hb dX4_receiveMan_125 (lv_at hl 0 rfl) ?_
    refine lv_iadd hx hb dX4_receiveMan_127 ?_
    obtain ⟨x_24, ex_24, hf⟩ := st_out hf
    refine pf3_5 C hS ha0 g_110 ex_24 dX4_receiveMan_128 (fun H locs hS => ?_)
    refine lv_aload hx hb dX4_receiveMan_131 (lv_at hl 2 rfl) ?_
    refine lv_dup hx hb dX4_receiveMan_133 rfl ?_
    refine gf0_4 C hS (el12 (st_b ha0) gg_14) g_79 dX4_receiveMan_134 ?_
    refine lv_iload hx hb dX4_receiveMan_137 (lv_at hl 1 rfl) ?_
    refine lv_iload hx hb dX4_receiveMan_139 (lv_at hl 0 rfl) ?_
    refine lv_isub hx hb dX4_receiveMan_141 ?_
    refine lv_iadd hx hb dX4_receiveMan_142 ?_
    obtain ⟨x_25, ex_25, hf⟩ := st_out hf
    refine pf0_4 C hS (el12 (st_b ha0) gg_14) g_79 ex_25 dX4_receiveMan_143 (fun H locs hS => ?_)
    refine lv_iconst (v := 1) hx hb dX4_receiveMan_146 (by decide) ?_
    exact rtI C hS hf dX4_receiveMan_147
  · replace hf := if_n c_13 hf
    refine lv_aload_n hx hb dX4_receiveMan_39 rfl (lv_at hl 4 rfl) ?_
    refine lv_dup hx hb dX4_receiveMan_40 rfl ?_
    refine gf3_7 C hS ha0 g_114 dX4_receiveMan_41 ?_
    refine lv_iconst (v := 1) hx hb dX4_receiveMan_44 (by decide) ?_
    refine lv_iadd hx hb dX4_receiveMan_45 ?_
    obtain ⟨x_26, ex_26, hf⟩ := st_out hf
    refine pf3_7 C hS ha0 g_114 ex_26 dX4_receiveMan_46 (fun H locs hS => ?_)
    refine lv_iconst (v := 0) hx hb dX4_receiveMan_49 (by decide) ?_
    exact rtI C hS hf dX4_receiveMan_50
abbrev rmX4_passMinute : Room := { frames := 4, cells := 0, slots := 0, locals := 136 }
set_option maxRecDepth 100000 in
set_option maxHeartbeats 4000000 in
theorem wbX4_passMinute_h109 {p : Program} {l : Launch} {e : Env} {s : State} {m : MethodId} {args : Array Value} {below : List Frame} {meth : Method} {c : Code} {G : GT} {a0 : Nat} {r : Int32} {z : XS} (ha0 : tg a0 = 3) (C : CX G p s m args meth c cX4_passMinute 5 (some .int) RX4) {k109 : Int32 → Int32 → Int32 → XS → Option (Int32 × XS)} (hk109 : ∀ (u2 : Int32) (u3 : Int32) (u4 : Int32) (x : XS), k109 u2 u3 u4 x = some (r, z) → ∀ (H : Heap) (locs : List Loc) (ls : Array Slot), SR G x H locs → lv_has ls 5 [(0, .ref (G.1 + a0)), (2, .int u2), (3, .int u3), (4, .int u4)] → W p l e rmX4_passMinute s m args below meth c H locs 0 0 (MQ below (QC G (some (.int r)) z) args s 0 0 (AB G)) (F0 m 109 ls [])) : ∀ (u2 : Int32) (u3 : Int32) (u4 : Int32) (x : XS), bX4_passMinute_h109 a0 k109 u2 u3 u4 x = some (r, z) → ∀ (H : Heap) (locs : List Loc) (ls : Array Slot), SR G x H locs → lv_has ls 5 [(0, .ref (G.1 + a0)), (2, .int u2), (3, .int u3), (4, .int u4)] → W p l e rmX4_passMinute s m args below meth c H locs 0 0 (MQ below (QC G (some (.int r)) z) args s 0 0 (AB G)) (F0 m 109 ls []) := by
  intro u2 u3 u4 x hf H locs ls hS hl
  have hx := C.1
  have hb := C.2.1
  have hown := C.2.2.2.2.2.1
  have hw := C.2.2.2.2.2.2.1
  unfold bX4_passMinute_h109 at hf
  refine lv_iload hx hb dX4_passMinute_109 (lv_at hl 3 rfl) ?_
  refine lv_iload_n hx hb dX4_passMinute_111 rfl (lv_at hl 1 rfl) ?_
  refine lv_icmp_ge (tgt := 128) hx hb dX4_passMinute_112 (by decide) (fun c_22 => ?_) (fun c_22 => ?_)
  · replace hf := if_p c_22 hf
    refine lv_aload_n hx hb dX4_passMinute_128 rfl (lv_at hl 0 rfl) ?_
    refine lv_dup hx hb dX4_passMinute_129 rfl ?_
    refine gf3_8 C hS ha0 g_116 dX4_passMinute_130 ?_
    refine lv_iconst (v := 1) hx hb dX4_passMinute_133 (by decide) ?_
    refine lv_iadd hx hb dX4_passMinute_134 ?_
    obtain ⟨x_23, ex_23, hf⟩ := st_out hf
    refine pf3_8 C hS ha0 g_116 ex_23 dX4_passMinute_135 (fun H locs hS => ?_)
    refine lv_iload_n hx hb dX4_passMinute_138 rfl (lv_at hl 2 rfl) ?_
    exact rtI C hS hf dX4_passMinute_139
  · replace hf := if_n c_22 hf
    refine lv_iload_n hx hb dX4_passMinute_115 rfl (lv_at hl 2 rfl) ?_
    refine lv_aload_n hx hb dX4_passMinute_116 rfl (lv_at hl 0 rfl) ?_
    obtain ⟨r_24, x_25, qr_24, hf⟩ := bd_out hf
    refine rvI (As := []) (rest := [.int u3]) C hS ha0 rfl KX4_receiveMan (cX4_receiveMan_ ha0 qr_24) g_387 ⟨rfl, rfl⟩ ⟨(Nat.le_of_ble_eq_true rfl), (Nat.le_of_ble_eq_true rfl)⟩ hl.1 rfl rfl (Nat.le_of_ble_eq_true rfl) ⟨Nat.zero_le _, Nat.zero_le _⟩ dX4_passMinute_117 (fun H locs hS => ?_)
    refine lv_iadd hx hb dX4_passMinute_120 ?_
    obtain ⟨v_26, ev_26, hf⟩ := st_out hf
    refine topI ev_26 ?_
    refine lv_istore_n (lv' := [(3, .int v_26), (0, .ref (G.1 + a0)), (2, .int u2), (4, .int u4)]) hx hb dX4_passMinute_121 rfl hl (by decide) rfl (fun ls hl => ?_)
    obtain ⟨v_27, ev_27, hf⟩ := st_out hf
    refine lv_iinc (v := v_27) (lv' := [(4, .int v_27), (3, .int v_26), (0, .ref (G.1 + a0)), (2, .int u2)]) hx hb dX4_passMinute_122 hl (k := 3) rfl (by rw [ev_27]; rfl) (by decide) rfl (fun ls hl => ?_)
    refine lv_goto (tgt := 109) hx hb dX4_passMinute_125 (by decide) ?_
    exact hk109 u2 v_26 v_27 x_25 hf _ _ _ hS (lv_sub hl [2, 3, 1, 0] rfl)
theorem wlX4_passMinute_h109 {p : Program} {l : Launch} {e : Env} {s : State} {m : MethodId} {args : Array Value} {below : List Frame} {meth : Method} {c : Code} {G : GT} {a0 : Nat} {r : Int32} {z : XS} (ha0 : tg a0 = 3) (C : CX G p s m args meth c cX4_passMinute 5 (some .int) RX4) (n : Nat) : ∀ (u2 : Int32) (u3 : Int32) (u4 : Int32) (x : XS), lX4_passMinute_h109 a0 n u2 u3 u4 x = some (r, z) → ∀ (H : Heap) (locs : List Loc) (ls : Array Slot), SR G x H locs → lv_has ls 5 [(0, .ref (G.1 + a0)), (2, .int u2), (3, .int u3), (4, .int u4)] → W p l e rmX4_passMinute s m args below meth c H locs 0 0 (MQ below (QC G (some (.int r)) z) args s 0 0 (AB G)) (F0 m 109 ls []) := by
  induction n with
  | zero => intro u2 u3 u4 x hf H locs ls hS hl; exact absurd hf (by intro q; cases q)
  | succ n ih => exact wbX4_passMinute_h109 ha0 C ih
theorem wX4_passMinute_h109 {p : Program} {l : Launch} {e : Env} {s : State} {m : MethodId} {args : Array Value} {below : List Frame} {meth : Method} {c : Code} {G : GT} {a0 : Nat} {r : Int32} {z : XS} (ha0 : tg a0 = 3) (C : CX G p s m args meth c cX4_passMinute 5 (some .int) RX4) : ∀ (u2 : Int32) (u3 : Int32) (u4 : Int32) (x : XS), fX4_passMinute_h109 a0 u2 u3 u4 x = some (r, z) → ∀ (H : Heap) (locs : List Loc) (ls : Array Slot), SR G x H locs → lv_has ls 5 [(0, .ref (G.1 + a0)), (2, .int u2), (3, .int u3), (4, .int u4)] → W p l e rmX4_passMinute s m args below meth c H locs 0 0 (MQ below (QC G (some (.int r)) z) args s 0 0 (AB G)) (F0 m 109 ls []) := wlX4_passMinute_h109 ha0 C FU
set_option maxRecDepth 100000 in
set_option maxHeartbeats 4000000 in
theorem wX4_passMinute_h104 {p : Program} {l : Launch} {e : Env} {s : State} {m : MethodId} {args : Array Value} {below : List Frame} {meth : Method} {c : Code} {G : GT} {a0 : Nat} {r : Int32} {z : XS} (ha0 : tg a0 = 3) (C : CX G p s m args meth c cX4_passMinute 5 (some .int) RX4) : ∀ (u2 : Int32) (x : XS), fX4_passMinute_h104 a0 u2 x = some (r, z) → ∀ (H : Heap) (locs : List Loc) (ls : Array Slot), SR G x H locs → lv_has ls 5 [(0, .ref (G.1 + a0)), (2, .int u2)] → W p l e rmX4_passMinute s m args below meth c H locs 0 0 (MQ below (QC G (some (.int r)) z) args s 0 0 (AB G)) (F0 m 104 ls []) := by
  intro u2 x hf H locs ls hS hl
  have hx := C.1
  have hb := C.2.1
  have hown := C.2.2.2.2.2.1
  have hw := C.2.2.2.2.2.2.1
  unfold fX4_passMinute_h104 at hf
  refine lv_iconst (v := 0) hx hb dX4_passMinute_104 (by decide) ?_
  refine lv_istore_n (lv' := [(3, .int 0), (0, .ref (G.1 + a0)), (2, .int u2)]) hx hb dX4_passMinute_105 rfl hl (by decide) rfl (fun ls hl => ?_)
  refine lv_iconst (v := 0) hx hb dX4_passMinute_106 (by decide) ?_
  refine lv_istore (lv' := [(4, .int 0), (3, .int 0), (0, .ref (G.1 + a0)), (2, .int u2)]) hx hb dX4_passMinute_107 hl (by decide) rfl (fun ls hl => ?_)
  exact wX4_passMinute_h109  ha0 C u2 0 0 x hf _ _ _ hS (lv_sub hl [2, 3, 1, 0] rfl)
set_option maxRecDepth 100000 in
set_option maxHeartbeats 4000000 in
theorem wX4_passMinute_h78 {p : Program} {l : Launch} {e : Env} {s : State} {m : MethodId} {args : Array Value} {below : List Frame} {meth : Method} {c : Code} {G : GT} {a0 : Nat} {r : Int32} {z : XS} (ha0 : tg a0 = 3) (C : CX G p s m args meth c cX4_passMinute 5 (some .int) RX4) : ∀ (u1 : Int32) (x : XS), fX4_passMinute_h78 a0 u1 x = some (r, z) → ∀ (H : Heap) (locs : List Loc) (ls : Array Slot), SR G x H locs → lv_has ls 5 [(0, .ref (G.1 + a0)), (1, .int u1)] → W p l e rmX4_passMinute s m args below meth c H locs 0 0 (MQ below (QC G (some (.int r)) z) args s 0 0 (AB G)) (F0 m 78 ls []) := by
  intro u1 x hf H locs ls hS hl
  have hx := C.1
  have hb := C.2.1
  have hown := C.2.2.2.2.2.1
  have hw := C.2.2.2.2.2.2.1
  unfold fX4_passMinute_h78 at hf
  refine lv_aload_n hx hb dX4_passMinute_78 rfl (lv_at hl 0 rfl) ?_
  obtain ⟨r_16, x_17, qr_16, hf⟩ := bd_out hf
  refine rvI (As := []) (rest := []) C hS ha0 rfl KX4_draw (cX4_draw_ ha0 qr_16) g_361 ⟨rfl, rfl⟩ ⟨(Nat.le_of_ble_eq_true rfl), (Nat.le_of_ble_eq_true rfl)⟩ hl.1 rfl rfl (Nat.le_of_ble_eq_true rfl) ⟨Nat.zero_le _, Nat.zero_le _⟩ dX4_passMinute_79 (fun H locs hS => ?_)
  refine lv_iconst (v := 3) hx hb dX4_passMinute_82 (by decide) ?_
  refine lv_irem hx hb dX4_passMinute_83 (by decide) ?_
  obtain ⟨v_18, ev_18, hf⟩ := st_out hf
  refine topI ev_18 ?_
  refine lv_istore_n (lv' := [(2, .int v_18), (0, .ref (G.1 + a0)), (1, .int u1)]) hx hb dX4_passMinute_84 rfl hl (by decide) rfl (fun ls hl => ?_)
  refine lv_aload_n hx hb dX4_passMinute_85 rfl (lv_at hl 1 rfl) ?_
  refine gf3_10 C hS ha0 g_120 dX4_passMinute_86 ?_
  refine lv_if_eq (tgt := 97) hx hb dX4_passMinute_89 (by decide) (fun c_19 => ?_) (fun c_19 => ?_)
  · replace hf := if_p c_19 hf
    refine lv_iload_n hx hb dX4_passMinute_97 rfl (lv_at hl 2 rfl) ?_
    refine lv_if_eq (tgt := 104) hx hb dX4_passMinute_98 (by decide) (fun c_20 => ?_) (fun c_20 => ?_)
    · replace hf := if_p c_20 hf
      exact wX4_passMinute_h104  ha0 C v_18 x_17 hf _ _ _ hS (lv_sub hl [1, 0] rfl)
    · replace hf := if_n c_20 hf
      obtain ⟨v_21, ev_21, hf⟩ := st_out hf
      refine lv_iinc (v := v_21) (lv' := [(2, .int v_21), (0, .ref (G.1 + a0)), (1, .int u1)]) hx hb dX4_passMinute_101 hl (k := 0) rfl (by rw [ev_21]; rfl) (by decide) rfl (fun ls hl => ?_)
      exact wX4_passMinute_h104  ha0 C v_21 x_17 hf _ _ _ hS (lv_sub hl [1, 0] rfl)
  · replace hf := if_n c_19 hf
    refine lv_iconst (v := 0) hx hb dX4_passMinute_92 (by decide) ?_
    refine lv_istore_n (lv' := [(2, .int 0), (0, .ref (G.1 + a0)), (1, .int u1)]) hx hb dX4_passMinute_93 rfl hl (by decide) rfl (fun ls hl => ?_)
    refine lv_goto (tgt := 104) hx hb dX4_passMinute_94 (by decide) ?_
    exact wX4_passMinute_h104  ha0 C 0 x_17 hf _ _ _ hS (lv_sub hl [1, 0] rfl)
set_option maxRecDepth 100000 in
set_option maxHeartbeats 4000000 in
theorem wbX4_passMinute_h2 {p : Program} {l : Launch} {e : Env} {s : State} {m : MethodId} {args : Array Value} {below : List Frame} {meth : Method} {c : Code} {G : GT} {a0 : Nat} {r : Int32} {z : XS} (ha0 : tg a0 = 3) (C : CX G p s m args meth c cX4_passMinute 5 (some .int) RX4) {k2 : Int32 → XS → Option (Int32 × XS)} (hk2 : ∀ (u1 : Int32) (x : XS), k2 u1 x = some (r, z) → ∀ (H : Heap) (locs : List Loc) (ls : Array Slot), SR G x H locs → lv_has ls 5 [(0, .ref (G.1 + a0)), (1, .int u1)] → W p l e rmX4_passMinute s m args below meth c H locs 0 0 (MQ below (QC G (some (.int r)) z) args s 0 0 (AB G)) (F0 m 2 ls [])) : ∀ (u1 : Int32) (x : XS), bX4_passMinute_h2 a0 k2 u1 x = some (r, z) → ∀ (H : Heap) (locs : List Loc) (ls : Array Slot), SR G x H locs → lv_has ls 5 [(0, .ref (G.1 + a0)), (1, .int u1)] → W p l e rmX4_passMinute s m args below meth c H locs 0 0 (MQ below (QC G (some (.int r)) z) args s 0 0 (AB G)) (F0 m 2 ls []) := by
  intro u1 x hf H locs ls hS hl
  have hx := C.1
  have hb := C.2.1
  have hown := C.2.2.2.2.2.1
  have hw := C.2.2.2.2.2.2.1
  unfold bX4_passMinute_h2 at hf
  refine lv_iload_n hx hb dX4_passMinute_2 rfl (lv_at hl 1 rfl) ?_
  refine lv_aload_n hx hb dX4_passMinute_3 rfl (lv_at hl 0 rfl) ?_
  refine gf3_2 C hS ha0 g_104 dX4_passMinute_4 ?_
  refine lv_icmp_ge (tgt := 43) hx hb dX4_passMinute_7 (by decide) (fun c_1 => ?_) (fun c_1 => ?_)
  · replace hf := if_p c_1 hf
    refine lv_aload_n hx hb dX4_passMinute_43 rfl (lv_at hl 0 rfl) ?_
    refine gf3_10 C hS ha0 g_120 dX4_passMinute_44 ?_
    obtain ⟨v_2, ev_2, hf⟩ := st_out hf
    refine topI ev_2 ?_
    refine lv_istore_n (lv' := [(1, .int v_2), (0, .ref (G.1 + a0))]) hx hb dX4_passMinute_47 rfl hl (by decide) rfl (fun ls hl => ?_)
    refine lv_aload_n hx hb dX4_passMinute_48 rfl (lv_at hl 1 rfl) ?_
    obtain ⟨r_3, x_4, qr_3, hf⟩ := bd_out hf
    refine rvI (As := []) (rest := []) C hS ha0 rfl KX4_draw (cX4_draw_ ha0 qr_3) g_361 ⟨rfl, rfl⟩ ⟨(Nat.le_of_ble_eq_true rfl), (Nat.le_of_ble_eq_true rfl)⟩ hl.1 rfl rfl (Nat.le_of_ble_eq_true rfl) ⟨Nat.zero_le _, Nat.zero_le _⟩ dX4_passMinute_49 (fun H locs hS => ?_)
    refine lv_bipush (v := 100) hx hb dX4_passMinute_52 (by decide) ?_
    refine lv_irem hx hb dX4_passMinute_54 (by decide) ?_
    obtain ⟨v_5, ev_5, hf⟩ := st_out hf
    refine topI ev_5 ?_
    refine lv_aload_n hx hb dX4_passMinute_55 rfl (lv_at hl 1 rfl) ?_
    refine gf3_6 C hS ha0 g_112 dX4_passMinute_56 ?_
    refine lv_icmp_ge (tgt := 78) hx hb dX4_passMinute_59 (by decide) (fun c_6 => ?_) (fun c_6 => ?_)
    · replace hf := if_p c_6 hf
      exact wX4_passMinute_h78  ha0 C v_2 x_4 hf _ _ _ hS (lv_sub hl [1, 0] rfl)
    · replace hf := if_n c_6 hf
      refine lv_aload_n hx hb dX4_passMinute_62 rfl (lv_at hl 1 rfl) ?_
      refine lv_aload_n hx hb dX4_passMinute_63 rfl (lv_at hl 1 rfl) ?_
      refine gf3_10 C hS ha0 g_120 dX4_passMinute_64 ?_
      refine lv_if_ne (tgt := 74) hx hb dX4_passMinute_67 (by decide) (fun c_7 => ?_) (fun c_7 => ?_)
      · replace hf := if_n c_7 hf
        refine lv_iconst (v := 0) hx hb dX4_passMinute_74 (by decide) ?_
        obtain ⟨x_8, ex_8, hf⟩ := st_out hf
        refine pf3_10 C hS ha0 g_120 rfl ex_8 dX4_passMinute_75 (fun H locs hS => ?_)
        exact wX4_passMinute_h78  ha0 C v_2 x_8 hf _ _ _ hS (lv_sub hl [1, 0] rfl)
      · replace hf := if_p c_7 hf
        refine lv_iconst (v := 1) hx hb dX4_passMinute_70 (by decide) ?_
        refine lv_goto (tgt := 75) hx hb dX4_passMinute_71 (by decide) ?_
        obtain ⟨x_9, ex_9, hf⟩ := st_out hf
        refine pf3_10 C hS ha0 g_120 rfl ex_9 dX4_passMinute_75 (fun H locs hS => ?_)
        exact wX4_passMinute_h78  ha0 C v_2 x_9 hf _ _ _ hS (lv_sub hl [1, 0] rfl)
  · replace hf := if_n c_1 hf
    refine lv_aload_n hx hb dX4_passMinute_10 rfl (lv_at hl 0 rfl) ?_
    refine gf3_0 C hS ha0 g_101 dX4_passMinute_11 ?_
    refine lv_iload_n hx hb dX4_passMinute_14 rfl (lv_at hl 1 rfl) ?_
    obtain ⟨gg_10, hf⟩ := gd_out hf
    refine alV C hS (st_b ha0) (by decide) (by decide) 4 rfl (ln12 (st_b ha0)) gg_10 (v := .ref (G.1 + (a0 + 3 + (ix u1)))) (vwR (st_b ha0) (by decide) rfl) dX4_passMinute_15 ?_
    refine gf0_5 C hS (el12 (st_b ha0) gg_10) g_82 dX4_passMinute_16 ?_
    refine lv_if_le (tgt := 37) hx hb dX4_passMinute_19 (by decide) (fun c_11 => ?_) (fun c_11 => ?_)
    · replace hf := if_p c_11 hf
      obtain ⟨v_12, ev_12, hf⟩ := st_out hf
      refine lv_iinc (v := v_12) (lv' := [(1, .int v_12), (0, .ref (G.1 + a0))]) hx hb dX4_passMinute_37 hl (k := 1) rfl (by rw [ev_12]; rfl) (by decide) rfl (fun ls hl => ?_)
      refine lv_goto (tgt := 2) hx hb dX4_passMinute_40 (by decide) ?_
      exact hk2 v_12 x hf _ _ _ hS (lv_sub hl [1, 0] rfl)
    · replace hf := if_n c_11 hf
      refine lv_aload_n hx hb dX4_passMinute_22 rfl (lv_at hl 0 rfl) ?_
      refine gf3_0 C hS ha0 g_101 dX4_passMinute_23 ?_
      refine lv_iload_n hx hb dX4_passMinute_26 rfl (lv_at hl 1 rfl) ?_
      obtain ⟨gg_13, hf⟩ := gd_out hf
      refine alV C hS (st_b ha0) (by decide) (by decide) 4 rfl (ln12 (st_b ha0)) gg_13 (v := .ref (G.1 + (a0 + 3 + (ix u1)))) (vwR (st_b ha0) (by decide) rfl) dX4_passMinute_27 ?_
      refine lv_dup hx hb dX4_passMinute_28 rfl ?_
      refine gf0_5 C hS (el12 (st_b ha0) gg_13) g_82 dX4_passMinute_29 ?_
      refine lv_iconst (v := 1) hx hb dX4_passMinute_32 (by decide) ?_
      refine lv_isub hx hb dX4_passMinute_33 ?_
      obtain ⟨x_14, ex_14, hf⟩ := st_out hf
      refine pf0_5 C hS (el12 (st_b ha0) gg_13) g_82 ex_14 dX4_passMinute_34 (fun H locs hS => ?_)
      obtain ⟨v_15, ev_15, hf⟩ := st_out hf
      refine lv_iinc (v := v_15) (lv' := [(1, .int v_15), (0, .ref (G.1 + a0))]) hx hb dX4_passMinute_37 hl (k := 1) rfl (by rw [ev_15]; rfl) (by decide) rfl (fun ls hl => ?_)
      refine lv_goto (tgt := 2) hx hb dX4_passMinute_40 (by decide) ?_
      exact hk2 v_15 x_14 hf _ _ _ hS (lv_sub hl [1, 0] rfl)
theorem wlX4_passMinute_h2 {p : Program} {l : Launch} {e : Env} {s : State} {m : MethodId} {args : Array Value} {below : List Frame} {meth : Method} {c : Code} {G : GT} {a0 : Nat} {r : Int32} {z : XS} (ha0 : tg a0 = 3) (C : CX G p s m args meth c cX4_passMinute 5 (some .int) RX4) (n : Nat) : ∀ (u1 : Int32) (x : XS), lX4_passMinute_h2 a0 n u1 x = some (r, z) → ∀ (H : Heap) (locs : List Loc) (ls : Array Slot), SR G x H locs → lv_has ls 5 [(0, .ref (G.1 + a0)), (1, .int u1)] → W p l e rmX4_passMinute s m args below meth c H locs 0 0 (MQ below (QC G (some (.int r)) z) args s 0 0 (AB G)) (F0 m 2 ls []) := by
  induction n with
  | zero => intro u1 x hf H locs ls hS hl; exact absurd hf (by intro q; cases q)
  | succ n ih => exact wbX4_passMinute_h2 ha0 C ih
theorem wX4_passMinute_h2 {p : Program} {l : Launch} {e : Env} {s : State} {m : MethodId} {args : Array Value} {below : List Frame} {meth : Method} {c : Code} {G : GT} {a0 : Nat} {r : Int32} {z : XS} (ha0 : tg a0 = 3) (C : CX G p s m args meth c cX4_passMinute 5 (some .int) RX4) : ∀ (u1 : Int32) (x : XS), fX4_passMinute_h2 a0 u1 x = some (r, z) → ∀ (H : Heap) (locs : List Loc) (ls : Array Slot), SR G x H locs → lv_has ls 5 [(0, .ref (G.1 + a0)), (1, .int u1)] → W p l e rmX4_passMinute s m args below meth c H locs 0 0 (MQ below (QC G (some (.int r)) z) args s 0 0 (AB G)) (F0 m 2 ls []) := wlX4_passMinute_h2 ha0 C FU
set_option maxRecDepth 100000 in
set_option maxHeartbeats 4000000 in
theorem cX4_passMinute_ {G : GT} {l : Launch} {a0 : Nat} (ha0 : tg a0 = 3) {x z : XS} {r : Int32} (hf : fX4_passMinute a0 x = some (r, z)) : Ct G l yX4_passMinute (.code yX4_passMinute cX4_passMinute 5 (some .int)) rmX4_passMinute [.ref (G.1 + a0)] x (some (.int r)) z := by
  refine Ct.of (by decide +kernel) (Nat.le_of_ble_eq_true rfl) ?_
  intro p e s m args below meth c C ls hl hS
  have C : CX G p s m args meth c cX4_passMinute 5 (some .int) RX4 := C
  have hl : lv_has ls 5 [(0, .ref (G.1 + a0))] := hl
  have hx := C.1
  have hb := C.2.1
  have hown := C.2.2.2.2.2.1
  have hw := C.2.2.2.2.2.2.1
  unfold fX4_passMinute at hf
  refine lv_iconst (v := 0) hx hb dX4_passMinute_0 (by decide) ?_
  refine lv_istore_n (lv' := [(1, .int 0), (0, .ref (G.1 + a0))]) hx hb dX4_passMinute_1 rfl hl (by decide) rfl (fun ls hl => ?_)
  exact wX4_passMinute_h2  ha0 C 0 x hf _ _ _ hS (lv_sub hl [1, 0] rfl)
abbrev rmX4_passMinutes : Room := { frames := 5, cells := 0, slots := 0, locals := 160 }
set_option maxRecDepth 100000 in
set_option maxHeartbeats 4000000 in
theorem wbX4_passMinutes_h4 {p : Program} {l : Launch} {e : Env} {s : State} {m : MethodId} {args : Array Value} {below : List Frame} {meth : Method} {c : Code} {G : GT} {a0 : Nat} {r : Int32} {z : XS} (ha0 : tg a0 = 3) (C : CX G p s m args meth c cX4_passMinutes 4 (some .int) RX4) {k4 : Int32 → Int32 → Int32 → XS → Option (Int32 × XS)} (hk4 : ∀ (u1 : Int32) (u2 : Int32) (u3 : Int32) (x : XS), k4 u1 u2 u3 x = some (r, z) → ∀ (H : Heap) (locs : List Loc) (ls : Array Slot), SR G x H locs → lv_has ls 4 [(0, .ref (G.1 + a0)), (1, .int u1), (2, .int u2), (3, .int u3)] → W p l e rmX4_passMinutes s m args below meth c H locs 0 0 (MQ below (QC G (some (.int r)) z) args s 0 0 (AB G)) (F0 m 4 ls [])) : ∀ (u1 : Int32) (u2 : Int32) (u3 : Int32) (x : XS), bX4_passMinutes_h4 a0 k4 u1 u2 u3 x = some (r, z) → ∀ (H : Heap) (locs : List Loc) (ls : Array Slot), SR G x H locs → lv_has ls 4 [(0, .ref (G.1 + a0)), (1, .int u1), (2, .int u2), (3, .int u3)] → W p l e rmX4_passMinutes s m args below meth c H locs 0 0 (MQ below (QC G (some (.int r)) z) args s 0 0 (AB G)) (F0 m 4 ls []) := by
  intro u1 u2 u3 x hf H locs ls hS hl
  have hx := C.1
  have hb := C.2.1
  have hown := C.2.2.2.2.2.1
  have hw := C.2.2.2.2.2.2.1
  unfold bX4_passMinutes_h4 at hf
  refine lv_iload_n hx hb dX4_passMinutes_4 rfl (lv_at hl 3 rfl) ?_
  refine lv_iload_n hx hb dX4_passMinutes_5 rfl (lv_at hl 1 rfl) ?_
  refine lv_icmp_ge (tgt := 22) hx hb dX4_passMinutes_6 (by decide) (fun c_1 => ?_) (fun c_1 => ?_)
  · replace hf := if_p c_1 hf
    refine lv_iload_n hx hb dX4_passMinutes_22 rfl (lv_at hl 2 rfl) ?_
    exact rtI C hS hf dX4_passMinutes_23
  · replace hf := if_n c_1 hf
    refine lv_iload_n hx hb dX4_passMinutes_9 rfl (lv_at hl 2 rfl) ?_
    refine lv_aload_n hx hb dX4_passMinutes_10 rfl (lv_at hl 0 rfl) ?_
    obtain ⟨r_2, x_3, qr_2, hf⟩ := bd_out hf
    refine rvI (As := []) (rest := [.int u2]) C hS ha0 rfl KX4_passMinute (cX4_passMinute_ ha0 qr_2) g_383 ⟨rfl, rfl⟩ ⟨(Nat.le_of_ble_eq_true rfl), (Nat.le_of_ble_eq_true rfl)⟩ hl.1 rfl rfl (Nat.le_of_ble_eq_true rfl) ⟨Nat.zero_le _, Nat.zero_le _⟩ dX4_passMinutes_11 (fun H locs hS => ?_)
    refine lv_iadd hx hb dX4_passMinutes_14 ?_
    obtain ⟨v_4, ev_4, hf⟩ := st_out hf
    refine topI ev_4 ?_
    refine lv_istore_n (lv' := [(2, .int v_4), (0, .ref (G.1 + a0)), (1, .int u1), (3, .int u3)]) hx hb dX4_passMinutes_15 rfl hl (by decide) rfl (fun ls hl => ?_)
    obtain ⟨v_5, ev_5, hf⟩ := st_out hf
    refine lv_iinc (v := v_5) (lv' := [(3, .int v_5), (2, .int v_4), (0, .ref (G.1 + a0)), (1, .int u1)]) hx hb dX4_passMinutes_16 hl (k := 3) rfl (by rw [ev_5]; rfl) (by decide) rfl (fun ls hl => ?_)
    refine lv_goto (tgt := 4) hx hb dX4_passMinutes_19 (by decide) ?_
    exact hk4 u1 v_4 v_5 x_3 hf _ _ _ hS (lv_sub hl [2, 3, 1, 0] rfl)
theorem wlX4_passMinutes_h4 {p : Program} {l : Launch} {e : Env} {s : State} {m : MethodId} {args : Array Value} {below : List Frame} {meth : Method} {c : Code} {G : GT} {a0 : Nat} {r : Int32} {z : XS} (ha0 : tg a0 = 3) (C : CX G p s m args meth c cX4_passMinutes 4 (some .int) RX4) (n : Nat) : ∀ (u1 : Int32) (u2 : Int32) (u3 : Int32) (x : XS), lX4_passMinutes_h4 a0 n u1 u2 u3 x = some (r, z) → ∀ (H : Heap) (locs : List Loc) (ls : Array Slot), SR G x H locs → lv_has ls 4 [(0, .ref (G.1 + a0)), (1, .int u1), (2, .int u2), (3, .int u3)] → W p l e rmX4_passMinutes s m args below meth c H locs 0 0 (MQ below (QC G (some (.int r)) z) args s 0 0 (AB G)) (F0 m 4 ls []) := by
  induction n with
  | zero => intro u1 u2 u3 x hf H locs ls hS hl; exact absurd hf (by intro q; cases q)
  | succ n ih => exact wbX4_passMinutes_h4 ha0 C ih
theorem wX4_passMinutes_h4 {p : Program} {l : Launch} {e : Env} {s : State} {m : MethodId} {args : Array Value} {below : List Frame} {meth : Method} {c : Code} {G : GT} {a0 : Nat} {r : Int32} {z : XS} (ha0 : tg a0 = 3) (C : CX G p s m args meth c cX4_passMinutes 4 (some .int) RX4) : ∀ (u1 : Int32) (u2 : Int32) (u3 : Int32) (x : XS), fX4_passMinutes_h4 a0 u1 u2 u3 x = some (r, z) → ∀ (H : Heap) (locs : List Loc) (ls : Array Slot), SR G x H locs → lv_has ls 4 [(0, .ref (G.1 + a0)), (1, .int u1), (2, .int u2), (3, .int u3)] → W p l e rmX4_passMinutes s m args below meth c H locs 0 0 (MQ below (QC G (some (.int r)) z) args s 0 0 (AB G)) (F0 m 4 ls []) := wlX4_passMinutes_h4 ha0 C FU
set_option maxRecDepth 100000 in
set_option maxHeartbeats 4000000 in
theorem cX4_passMinutes_ {G : GT} {l : Launch} {a0 : Nat} {v1 : Int32} (ha0 : tg a0 = 3) {x z : XS} {r : Int32} (hf : fX4_passMinutes a0 v1 x = some (r, z)) : Ct G l yX4_passMinutes (.code yX4_passMinutes cX4_passMinutes 4 (some .int)) rmX4_passMinutes [.ref (G.1 + a0), .int v1] x (some (.int r)) z := by
  refine Ct.of (by decide +kernel) (Nat.le_of_ble_eq_true rfl) ?_
  intro p e s m args below meth c C ls hl hS
  have C : CX G p s m args meth c cX4_passMinutes 4 (some .int) RX4 := C
  have hl : lv_has ls 4 [(0, .ref (G.1 + a0)), (1, .int v1)] := hl
  have hx := C.1
  have hb := C.2.1
  have hown := C.2.2.2.2.2.1
  have hw := C.2.2.2.2.2.2.1
  unfold fX4_passMinutes at hf
  refine lv_iconst (v := 0) hx hb dX4_passMinutes_0 (by decide) ?_
  refine lv_istore_n (lv' := [(2, .int 0), (0, .ref (G.1 + a0)), (1, .int v1)]) hx hb dX4_passMinutes_1 rfl hl (by decide) rfl (fun ls hl => ?_)
  refine lv_iconst (v := 0) hx hb dX4_passMinutes_2 (by decide) ?_
  refine lv_istore_n (lv' := [(3, .int 0), (2, .int 0), (0, .ref (G.1 + a0)), (1, .int v1)]) hx hb dX4_passMinutes_3 rfl hl (by decide) rfl (fun ls hl => ?_)
  exact wX4_passMinutes_h4  ha0 C v1 0 0 x hf _ _ _ hS (lv_sub hl [2, 3, 1, 0] rfl)
abbrev rmX4_purses : Room := { frames := 0, cells := 0, slots := 0, locals := 0 }
set_option maxRecDepth 100000 in
set_option maxHeartbeats 4000000 in
theorem wbX4_purses_h4 {p : Program} {l : Launch} {e : Env} {s : State} {m : MethodId} {args : Array Value} {below : List Frame} {meth : Method} {c : Code} {G : GT} {a0 : Nat} {r : Int32} {z : XS} (ha0 : tg a0 = 3) (C : CX G p s m args meth c cX4_purses 3 (some .int) RX4) {k4 : Int32 → Int32 → XS → Option (Int32 × XS)} (hk4 : ∀ (u1 : Int32) (u2 : Int32) (x : XS), k4 u1 u2 x = some (r, z) → ∀ (H : Heap) (locs : List Loc) (ls : Array Slot), SR G x H locs → lv_has ls 3 [(0, .ref (G.1 + a0)), (1, .int u1), (2, .int u2)] → W p l e rmX4_purses s m args below meth c H locs 0 0 (MQ below (QC G (some (.int r)) z) args s 0 0 (AB G)) (F0 m 4 ls [])) : ∀ (u1 : Int32) (u2 : Int32) (x : XS), bX4_purses_h4 a0 k4 u1 u2 x = some (r, z) → ∀ (H : Heap) (locs : List Loc) (ls : Array Slot), SR G x H locs → lv_has ls 3 [(0, .ref (G.1 + a0)), (1, .int u1), (2, .int u2)] → W p l e rmX4_purses s m args below meth c H locs 0 0 (MQ below (QC G (some (.int r)) z) args s 0 0 (AB G)) (F0 m 4 ls []) := by
  intro u1 u2 x hf H locs ls hS hl
  have hx := C.1
  have hb := C.2.1
  have hown := C.2.2.2.2.2.1
  have hw := C.2.2.2.2.2.2.1
  unfold bX4_purses_h4 at hf
  refine lv_iload_n hx hb dX4_purses_4 rfl (lv_at hl 2 rfl) ?_
  refine lv_aload_n hx hb dX4_purses_5 rfl (lv_at hl 0 rfl) ?_
  refine gf3_2 C hS ha0 g_104 dX4_purses_6 ?_
  refine lv_icmp_ge (tgt := 30) hx hb dX4_purses_9 (by decide) (fun c_1 => ?_) (fun c_1 => ?_)
  · replace hf := if_p c_1 hf
    refine lv_iload_n hx hb dX4_purses_30 rfl (lv_at hl 1 rfl) ?_
    exact rtI C hS hf dX4_purses_31
  · replace hf := if_n c_1 hf
    refine lv_iload_n hx hb dX4_purses_12 rfl (lv_at hl 1 rfl) ?_
    refine lv_aload_n hx hb dX4_purses_13 rfl (lv_at hl 0 rfl) ?_
    refine gf3_0 C hS ha0 g_101 dX4_purses_14 ?_
    refine lv_iload_n hx hb dX4_purses_17 rfl (lv_at hl 2 rfl) ?_
    obtain ⟨gg_2, hf⟩ := gd_out hf
    refine alV C hS (st_b ha0) (by decide) (by decide) 4 rfl (ln12 (st_b ha0)) gg_2 (v := .ref (G.1 + (a0 + 3 + (ix u2)))) (vwR (st_b ha0) (by decide) rfl) dX4_purses_18 ?_
    refine gf0_4 C hS (el12 (st_b ha0) gg_2) g_79 dX4_purses_19 ?_
    refine lv_iadd hx hb dX4_purses_22 ?_
    obtain ⟨v_3, ev_3, hf⟩ := st_out hf
    refine topI ev_3 ?_
    refine lv_istore_n (lv' := [(1, .int v_3), (0, .ref (G.1 + a0)), (2, .int u2)]) hx hb dX4_purses_23 rfl hl (by decide) rfl (fun ls hl => ?_)
    obtain ⟨v_4, ev_4, hf⟩ := st_out hf
    refine lv_iinc (v := v_4) (lv' := [(2, .int v_4), (1, .int v_3), (0, .ref (G.1 + a0))]) hx hb dX4_purses_24 hl (k := 2) rfl (by rw [ev_4]; rfl) (by decide) rfl (fun ls hl => ?_)
    refine lv_goto (tgt := 4) hx hb dX4_purses_27 (by decide) ?_
    exact hk4 v_3 v_4 x hf _ _ _ hS (lv_sub hl [2, 1, 0] rfl)
theorem wlX4_purses_h4 {p : Program} {l : Launch} {e : Env} {s : State} {m : MethodId} {args : Array Value} {below : List Frame} {meth : Method} {c : Code} {G : GT} {a0 : Nat} {r : Int32} {z : XS} (ha0 : tg a0 = 3) (C : CX G p s m args meth c cX4_purses 3 (some .int) RX4) (n : Nat) : ∀ (u1 : Int32) (u2 : Int32) (x : XS), lX4_purses_h4 a0 n u1 u2 x = some (r, z) → ∀ (H : Heap) (locs : List Loc) (ls : Array Slot), SR G x H locs → lv_has ls 3 [(0, .ref (G.1 + a0)), (1, .int u1), (2, .int u2)] → W p l e rmX4_purses s m args below meth c H locs 0 0 (MQ below (QC G (some (.int r)) z) args s 0 0 (AB G)) (F0 m 4 ls []) := by
  induction n with
  | zero => intro u1 u2 x hf H locs ls hS hl; exact absurd hf (by intro q; cases q)
  | succ n ih => exact wbX4_purses_h4 ha0 C ih
theorem wX4_purses_h4 {p : Program} {l : Launch} {e : Env} {s : State} {m : MethodId} {args : Array Value} {below : List Frame} {meth : Method} {c : Code} {G : GT} {a0 : Nat} {r : Int32} {z : XS} (ha0 : tg a0 = 3) (C : CX G p s m args meth c cX4_purses 3 (some .int) RX4) : ∀ (u1 : Int32) (u2 : Int32) (x : XS), fX4_purses_h4 a0 u1 u2 x = some (r, z) → ∀ (H : Heap) (locs : List Loc) (ls : Array Slot), SR G x H locs → lv_has ls 3 [(0, .ref (G.1 + a0)), (1, .int u1), (2, .int u2)] → W p l e rmX4_purses s m args below meth c H locs 0 0 (MQ below (QC G (some (.int r)) z) args s 0 0 (AB G)) (F0 m 4 ls []) := wlX4_purses_h4 ha0 C FU
set_option maxRecDepth 100000 in
set_option maxHeartbeats 4000000 in
theorem cX4_purses_ {G : GT} {l : Launch} {a0 : Nat} (ha0 : tg a0 = 3) {x z : XS} {r : Int32} (hf : fX4_purses a0 x = some (r, z)) : Ct G l yX4_purses (.code yX4_purses cX4_purses 3 (some .int)) rmX4_purses [.ref (G.1 + a0)] x (some (.int r)) z := by
  refine Ct.of (by decide +kernel) (Nat.le_of_ble_eq_true rfl) ?_
  intro p e s m args below meth c C ls hl hS
  have C : CX G p s m args meth c cX4_purses 3 (some .int) RX4 := C
  have hl : lv_has ls 3 [(0, .ref (G.1 + a0))] := hl
  have hx := C.1
  have hb := C.2.1
  have hown := C.2.2.2.2.2.1
  have hw := C.2.2.2.2.2.2.1
  unfold fX4_purses at hf
  refine lv_iconst (v := 0) hx hb dX4_purses_0 (by decide) ?_
  refine lv_istore_n (lv' := [(1, .int 0), (0, .ref (G.1 + a0))]) hx hb dX4_purses_1 rfl hl (by decide) rfl (fun ls hl => ?_)
  refine lv_iconst (v := 0) hx hb dX4_purses_2 (by decide) ?_
  refine lv_istore_n (lv' := [(2, .int 0), (1, .int 0), (0, .ref (G.1 + a0))]) hx hb dX4_purses_3 rfl hl (by decide) rfl (fun ls hl => ?_)
  exact wX4_purses_h4  ha0 C 0 0 x hf _ _ _ hS (lv_sub hl [2, 1, 0] rfl)
abbrev rmX4_menDone : Room := { frames := 0, cells := 0, slots := 0, locals := 0 }
set_option maxRecDepth 100000 in
set_option maxHeartbeats 4000000 in
theorem wbX4_menDone_h4 {p : Program} {l : Launch} {e : Env} {s : State} {m : MethodId} {args : Array Value} {below : List Frame} {meth : Method} {c : Code} {G : GT} {a0 : Nat} {r : Int32} {z : XS} (ha0 : tg a0 = 3) (C : CX G p s m args meth c cX4_menDone 3 (some .int) RX4) {k4 : Int32 → Int32 → XS → Option (Int32 × XS)} (hk4 : ∀ (u1 : Int32) (u2 : Int32) (x : XS), k4 u1 u2 x = some (r, z) → ∀ (H : Heap) (locs : List Loc) (ls : Array Slot), SR G x H locs → lv_has ls 3 [(0, .ref (G.1 + a0)), (1, .int u1), (2, .int u2)] → W p l e rmX4_menDone s m args below meth c H locs 0 0 (MQ below (QC G (some (.int r)) z) args s 0 0 (AB G)) (F0 m 4 ls [])) : ∀ (u1 : Int32) (u2 : Int32) (x : XS), bX4_menDone_h4 a0 k4 u1 u2 x = some (r, z) → ∀ (H : Heap) (locs : List Loc) (ls : Array Slot), SR G x H locs → lv_has ls 3 [(0, .ref (G.1 + a0)), (1, .int u1), (2, .int u2)] → W p l e rmX4_menDone s m args below meth c H locs 0 0 (MQ below (QC G (some (.int r)) z) args s 0 0 (AB G)) (F0 m 4 ls []) := by
  intro u1 u2 x hf H locs ls hS hl
  have hx := C.1
  have hb := C.2.1
  have hown := C.2.2.2.2.2.1
  have hw := C.2.2.2.2.2.2.1
  unfold bX4_menDone_h4 at hf
  refine lv_iload_n hx hb dX4_menDone_4 rfl (lv_at hl 2 rfl) ?_
  refine lv_aload_n hx hb dX4_menDone_5 rfl (lv_at hl 0 rfl) ?_
  refine gf3_2 C hS ha0 g_104 dX4_menDone_6 ?_
  refine lv_icmp_ge (tgt := 30) hx hb dX4_menDone_9 (by decide) (fun c_1 => ?_) (fun c_1 => ?_)
  · replace hf := if_p c_1 hf
    refine lv_iload_n hx hb dX4_menDone_30 rfl (lv_at hl 1 rfl) ?_
    exact rtI C hS hf dX4_menDone_31
  · replace hf := if_n c_1 hf
    refine lv_iload_n hx hb dX4_menDone_12 rfl (lv_at hl 1 rfl) ?_
    refine lv_aload_n hx hb dX4_menDone_13 rfl (lv_at hl 0 rfl) ?_
    refine gf3_0 C hS ha0 g_101 dX4_menDone_14 ?_
    refine lv_iload_n hx hb dX4_menDone_17 rfl (lv_at hl 2 rfl) ?_
    obtain ⟨gg_2, hf⟩ := gd_out hf
    refine alV C hS (st_b ha0) (by decide) (by decide) 4 rfl (ln12 (st_b ha0)) gg_2 (v := .ref (G.1 + (a0 + 3 + (ix u2)))) (vwR (st_b ha0) (by decide) rfl) dX4_menDone_18 ?_
    refine gf0_6 C hS (el12 (st_b ha0) gg_2) g_84 dX4_menDone_19 ?_
    refine lv_iadd hx hb dX4_menDone_22 ?_
    obtain ⟨v_3, ev_3, hf⟩ := st_out hf
    refine topI ev_3 ?_
    refine lv_istore_n (lv' := [(1, .int v_3), (0, .ref (G.1 + a0)), (2, .int u2)]) hx hb dX4_menDone_23 rfl hl (by decide) rfl (fun ls hl => ?_)
    obtain ⟨v_4, ev_4, hf⟩ := st_out hf
    refine lv_iinc (v := v_4) (lv' := [(2, .int v_4), (1, .int v_3), (0, .ref (G.1 + a0))]) hx hb dX4_menDone_24 hl (k := 2) rfl (by rw [ev_4]; rfl) (by decide) rfl (fun ls hl => ?_)
    refine lv_goto (tgt := 4) hx hb dX4_menDone_27 (by decide) ?_
    exact hk4 v_3 v_4 x hf _ _ _ hS (lv_sub hl [2, 1, 0] rfl)
theorem wlX4_menDone_h4 {p : Program} {l : Launch} {e : Env} {s : State} {m : MethodId} {args : Array Value} {below : List Frame} {meth : Method} {c : Code} {G : GT} {a0 : Nat} {r : Int32} {z : XS} (ha0 : tg a0 = 3) (C : CX G p s m args meth c cX4_menDone 3 (some .int) RX4) (n : Nat) : ∀ (u1 : Int32) (u2 : Int32) (x : XS), lX4_menDone_h4 a0 n u1 u2 x = some (r, z) → ∀ (H : Heap) (locs : List Loc) (ls : Array Slot), SR G x H locs → lv_has ls 3 [(0, .ref (G.1 + a0)), (1, .int u1), (2, .int u2)] → W p l e rmX4_menDone s m args below meth c H locs 0 0 (MQ below (QC G (some (.int r)) z) args s 0 0 (AB G)) (F0 m 4 ls []) := by
  induction n with
  | zero => intro u1 u2 x hf H locs ls hS hl; exact absurd hf (by intro q; cases q)
  | succ n ih => exact wbX4_menDone_h4 ha0 C ih
theorem wX4_menDone_h4 {p : Program} {l : Launch} {e : Env} {s : State} {m : MethodId} {args : Array Value} {below : List Frame} {meth : Method} {c : Code} {G : GT} {a0 : Nat} {r : Int32} {z : XS} (ha0 : tg a0 = 3) (C : CX G p s m args meth c cX4_menDone 3 (some .int) RX4) : ∀ (u1 : Int32) (u2 : Int32) (x : XS), fX4_menDone_h4 a0 u1 u2 x = some (r, z) → ∀ (H : Heap) (locs : List Loc) (ls : Array Slot), SR G x H locs → lv_has ls 3 [(0, .ref (G.1 + a0)), (1, .int u1), (2, .int u2)] → W p l e rmX4_menDone s m args below meth c H locs 0 0 (MQ below (QC G (some (.int r)) z) args s 0 0 (AB G)) (F0 m 4 ls []) := wlX4_menDone_h4 ha0 C FU
set_option maxRecDepth 100000 in
set_option maxHeartbeats 4000000 in
theorem cX4_menDone_ {G : GT} {l : Launch} {a0 : Nat} (ha0 : tg a0 = 3) {x z : XS} {r : Int32} (hf : fX4_menDone a0 x = some (r, z)) : Ct G l yX4_menDone (.code yX4_menDone cX4_menDone 3 (some .int)) rmX4_menDone [.ref (G.1 + a0)] x (some (.int r)) z := by
  refine Ct.of (by decide +kernel) (Nat.le_of_ble_eq_true rfl) ?_
  intro p e s m args below meth c C ls hl hS
  have C : CX G p s m args meth c cX4_menDone 3 (some .int) RX4 := C
  have hl : lv_has ls 3 [(0, .ref (G.1 + a0))] := hl
  have hx := C.1
  have hb := C.2.1
  have hown := C.2.2.2.2.2.1
  have hw := C.2.2.2.2.2.2.1
  unfold fX4_menDone at hf
  refine lv_iconst (v := 0) hx hb dX4_menDone_0 (by decide) ?_
  refine lv_istore_n (lv' := [(1, .int 0), (0, .ref (G.1 + a0))]) hx hb dX4_menDone_1 rfl hl (by decide) rfl (fun ls hl => ?_)
  refine lv_iconst (v := 0) hx hb dX4_menDone_2 (by decide) ?_
  refine lv_istore_n (lv' := [(2, .int 0), (1, .int 0), (0, .ref (G.1 + a0))]) hx hb dX4_menDone_3 rfl hl (by decide) rfl (fun ls hl => ?_)
  exact wX4_menDone_h4  ha0 C 0 0 x hf _ _ _ hS (lv_sub hl [2, 1, 0] rfl)
abbrev rmX4_busyBoys : Room := { frames := 0, cells := 0, slots := 0, locals := 0 }
set_option maxRecDepth 100000 in
set_option maxHeartbeats 4000000 in
theorem wbX4_busyBoys_h4 {p : Program} {l : Launch} {e : Env} {s : State} {m : MethodId} {args : Array Value} {below : List Frame} {meth : Method} {c : Code} {G : GT} {a0 : Nat} {r : Int32} {z : XS} (ha0 : tg a0 = 3) (C : CX G p s m args meth c cX4_busyBoys 3 (some .int) RX4) {k4 : Int32 → Int32 → XS → Option (Int32 × XS)} (hk4 : ∀ (u1 : Int32) (u2 : Int32) (x : XS), k4 u1 u2 x = some (r, z) → ∀ (H : Heap) (locs : List Loc) (ls : Array Slot), SR G x H locs → lv_has ls 3 [(0, .ref (G.1 + a0)), (1, .int u1), (2, .int u2)] → W p l e rmX4_busyBoys s m args below meth c H locs 0 0 (MQ below (QC G (some (.int r)) z) args s 0 0 (AB G)) (F0 m 4 ls [])) : ∀ (u1 : Int32) (u2 : Int32) (x : XS), bX4_busyBoys_h4 a0 k4 u1 u2 x = some (r, z) → ∀ (H : Heap) (locs : List Loc) (ls : Array Slot), SR G x H locs → lv_has ls 3 [(0, .ref (G.1 + a0)), (1, .int u1), (2, .int u2)] → W p l e rmX4_busyBoys s m args below meth c H locs 0 0 (MQ below (QC G (some (.int r)) z) args s 0 0 (AB G)) (F0 m 4 ls []) := by
  intro u1 u2 x hf H locs ls hS hl
  have hx := C.1
  have hb := C.2.1
  have hown := C.2.2.2.2.2.1
  have hw := C.2.2.2.2.2.2.1
  unfold bX4_busyBoys_h4 at hf
  refine lv_iload_n hx hb dX4_busyBoys_4 rfl (lv_at hl 2 rfl) ?_
  refine lv_aload_n hx hb dX4_busyBoys_5 rfl (lv_at hl 0 rfl) ?_
  refine gf3_2 C hS ha0 g_104 dX4_busyBoys_6 ?_
  refine lv_icmp_ge (tgt := 36) hx hb dX4_busyBoys_9 (by decide) (fun c_1 => ?_) (fun c_1 => ?_)
  · replace hf := if_p c_1 hf
    refine lv_iload_n hx hb dX4_busyBoys_36 rfl (lv_at hl 1 rfl) ?_
    exact rtI C hS hf dX4_busyBoys_37
  · replace hf := if_n c_1 hf
    refine lv_aload_n hx hb dX4_busyBoys_12 rfl (lv_at hl 0 rfl) ?_
    refine gf3_0 C hS ha0 g_101 dX4_busyBoys_13 ?_
    refine lv_iload_n hx hb dX4_busyBoys_16 rfl (lv_at hl 2 rfl) ?_
    obtain ⟨gg_2, hf⟩ := gd_out hf
    refine alV C hS (st_b ha0) (by decide) (by decide) 4 rfl (ln12 (st_b ha0)) gg_2 (v := .ref (G.1 + (a0 + 3 + (ix u2)))) (vwR (st_b ha0) (by decide) rfl) dX4_busyBoys_17 ?_
    refine gf0_5 C hS (el12 (st_b ha0) gg_2) g_82 dX4_busyBoys_18 ?_
    refine lv_if_le (tgt := 30) hx hb dX4_busyBoys_21 (by decide) (fun c_3 => ?_) (fun c_3 => ?_)
    · replace hf := if_p c_3 hf
      obtain ⟨v_4, ev_4, hf⟩ := st_out hf
      refine lv_iinc (v := v_4) (lv' := [(2, .int v_4), (0, .ref (G.1 + a0)), (1, .int u1)]) hx hb dX4_busyBoys_30 hl (k := 2) rfl (by rw [ev_4]; rfl) (by decide) rfl (fun ls hl => ?_)
      refine lv_goto (tgt := 4) hx hb dX4_busyBoys_33 (by decide) ?_
      exact hk4 u1 v_4 x hf _ _ _ hS (lv_sub hl [1, 2, 0] rfl)
    · replace hf := if_n c_3 hf
      refine lv_iload_n hx hb dX4_busyBoys_24 rfl (lv_at hl 1 rfl) ?_
      refine lv_iconst (v := 1) hx hb dX4_busyBoys_25 (by decide) ?_
      refine lv_iload_n hx hb dX4_busyBoys_26 rfl (lv_at hl 2 rfl) ?_
      refine lv_ishl hx hb dX4_busyBoys_27 ?_
      obtain ⟨v_5, ev_5, hf⟩ := st_out hf
      refine topI ev_5 ?_
      refine lv_ior hx hb dX4_busyBoys_28 ?_
      obtain ⟨v_6, ev_6, hf⟩ := st_out hf
      refine topI ev_6 ?_
      refine lv_istore_n (lv' := [(1, .int v_6), (0, .ref (G.1 + a0)), (2, .int u2)]) hx hb dX4_busyBoys_29 rfl hl (by decide) rfl (fun ls hl => ?_)
      obtain ⟨v_7, ev_7, hf⟩ := st_out hf
      refine lv_iinc (v := v_7) (lv' := [(2, .int v_7), (1, .int v_6), (0, .ref (G.1 + a0))]) hx hb dX4_busyBoys_30 hl (k := 2) rfl (by rw [ev_7]; rfl) (by decide) rfl (fun ls hl => ?_)
      refine lv_goto (tgt := 4) hx hb dX4_busyBoys_33 (by decide) ?_
      exact hk4 v_6 v_7 x hf _ _ _ hS (lv_sub hl [2, 1, 0] rfl)
theorem wlX4_busyBoys_h4 {p : Program} {l : Launch} {e : Env} {s : State} {m : MethodId} {args : Array Value} {below : List Frame} {meth : Method} {c : Code} {G : GT} {a0 : Nat} {r : Int32} {z : XS} (ha0 : tg a0 = 3) (C : CX G p s m args meth c cX4_busyBoys 3 (some .int) RX4) (n : Nat) : ∀ (u1 : Int32) (u2 : Int32) (x : XS), lX4_busyBoys_h4 a0 n u1 u2 x = some (r, z) → ∀ (H : Heap) (locs : List Loc) (ls : Array Slot), SR G x H locs → lv_has ls 3 [(0, .ref (G.1 + a0)), (1, .int u1), (2, .int u2)] → W p l e rmX4_busyBoys s m args below meth c H locs 0 0 (MQ below (QC G (some (.int r)) z) args s 0 0 (AB G)) (F0 m 4 ls []) := by
  induction n with
  | zero => intro u1 u2 x hf H locs ls hS hl; exact absurd hf (by intro q; cases q)
  | succ n ih => exact wbX4_busyBoys_h4 ha0 C ih
theorem wX4_busyBoys_h4 {p : Program} {l : Launch} {e : Env} {s : State} {m : MethodId} {args : Array Value} {below : List Frame} {meth : Method} {c : Code} {G : GT} {a0 : Nat} {r : Int32} {z : XS} (ha0 : tg a0 = 3) (C : CX G p s m args meth c cX4_busyBoys 3 (some .int) RX4) : ∀ (u1 : Int32) (u2 : Int32) (x : XS), fX4_busyBoys_h4 a0 u1 u2 x = some (r, z) → ∀ (H : Heap) (locs : List Loc) (ls : Array Slot), SR G x H locs → lv_has ls 3 [(0, .ref (G.1 + a0)), (1, .int u1), (2, .int u2)] → W p l e rmX4_busyBoys s m args below meth c H locs 0 0 (MQ below (QC G (some (.int r)) z) args s 0 0 (AB G)) (F0 m 4 ls []) := wlX4_busyBoys_h4 ha0 C FU
set_option maxRecDepth 100000 in
set_option maxHeartbeats 4000000 in
theorem cX4_busyBoys_ {G : GT} {l : Launch} {a0 : Nat} (ha0 : tg a0 = 3) {x z : XS} {r : Int32} (hf : fX4_busyBoys a0 x = some (r, z)) : Ct G l yX4_busyBoys (.code yX4_busyBoys cX4_busyBoys 3 (some .int)) rmX4_busyBoys [.ref (G.1 + a0)] x (some (.int r)) z := by
  refine Ct.of (by decide +kernel) (Nat.le_of_ble_eq_true rfl) ?_
  intro p e s m args below meth c C ls hl hS
  have C : CX G p s m args meth c cX4_busyBoys 3 (some .int) RX4 := C
  have hl : lv_has ls 3 [(0, .ref (G.1 + a0))] := hl
  have hx := C.1
  have hb := C.2.1
  have hown := C.2.2.2.2.2.1
  have hw := C.2.2.2.2.2.2.1
  unfold fX4_busyBoys at hf
  refine lv_iconst (v := 0) hx hb dX4_busyBoys_0 (by decide) ?_
  refine lv_istore_n (lv' := [(1, .int 0), (0, .ref (G.1 + a0))]) hx hb dX4_busyBoys_1 rfl hl (by decide) rfl (fun ls hl => ?_)
  refine lv_iconst (v := 0) hx hb dX4_busyBoys_2 (by decide) ?_
  refine lv_istore_n (lv' := [(2, .int 0), (1, .int 0), (0, .ref (G.1 + a0))]) hx hb dX4_busyBoys_3 rfl hl (by decide) rfl (fun ls hl => ?_)
  exact wX4_busyBoys_h4  ha0 C 0 0 x hf _ _ _ hS (lv_sub hl [2, 1, 0] rfl)
abbrev rmX5_addNumber : Room := { frames := 0, cells := 0, slots := 0, locals := 0 }
set_option maxRecDepth 100000 in
set_option maxHeartbeats 4000000 in
theorem wbX5_addNumber_h3 {p : Program} {l : Launch} {e : Env} {s : State} {m : MethodId} {args : Array Value} {below : List Frame} {meth : Method} {c : Code} {G : GT} {r : Unit} {z : XS} (C : CX G p s m args meth c cX5_addNumber 3 none RX5) {k3 : Int32 → Int32 → XS → Option (Unit × XS)} (hk3 : ∀ (u1 : Int32) (u2 : Int32) (x : XS), k3 u1 u2 x = some (r, z) → ∀ (H : Heap) (locs : List Loc) (ls : Array Slot), SR G x H locs → lv_has ls 3 [(0, .ref (G.1 + 2)), (1, .int u1), (2, .int u2)] → W p l e rmX5_addNumber s m args below meth c H locs 0 0 (MQ below (QC G none z) args s 0 0 (AB G)) (F0 m 3 ls [])) : ∀ (u1 : Int32) (u2 : Int32) (x : XS), bX5_addNumber_h3 k3 u1 u2 x = some (r, z) → ∀ (H : Heap) (locs : List Loc) (ls : Array Slot), SR G x H locs → lv_has ls 3 [(0, .ref (G.1 + 2)), (1, .int u1), (2, .int u2)] → W p l e rmX5_addNumber s m args below meth c H locs 0 0 (MQ below (QC G none z) args s 0 0 (AB G)) (F0 m 3 ls []) := by
  intro u1 u2 x hf H locs ls hS hl
  have hx := C.1
  have hb := C.2.1
  have hown := C.2.2.2.2.2.1
  have hw := C.2.2.2.2.2.2.1
  unfold bX5_addNumber_h3 at hf
  refine lv_iload_n hx hb dX5_addNumber_3 rfl (lv_at hl 2 rfl) ?_
  refine lv_if_lt (tgt := 48) hx hb dX5_addNumber_4 (by decide) (fun c_1 => ?_) (fun c_1 => ?_)
  · replace hf := if_p c_1 hf
    exact rtV C hS (r := ()) hf dX5_addNumber_48
  · replace hf := if_n c_1 hf
    refine lv_aload_n hx hb dX5_addNumber_7 rfl (lv_at hl 0 rfl) ?_
    refine gf4_0 C hS (rfl) g_33 dX5_addNumber_8 ?_
    refine lv_aload_n hx hb dX5_addNumber_11 rfl (lv_at hl 0 rfl) ?_
    refine gf4_1 C hS (rfl) g_35 dX5_addNumber_12 ?_
    refine alN C hS (rfl) (by decide) (by decide) 1 rfl rfl (v := 96) (by decide) dX5_addNumber_15 ?_
    refine lv_icmp_ge (tgt := 42) hx hb dX5_addNumber_16 (by decide) (fun c_2 => ?_) (fun c_2 => ?_)
    · replace hf := if_p c_2 hf
      obtain ⟨v_3, ev_3, hf⟩ := st_out hf
      refine lv_iinc (v := v_3) (lv' := [(2, .int v_3), (0, .ref (G.1 + 2)), (1, .int u1)]) hx hb dX5_addNumber_42 hl (k := 2) rfl (by rw [ev_3]; rfl) (by decide) rfl (fun ls hl => ?_)
      refine lv_goto (tgt := 3) hx hb dX5_addNumber_45 (by decide) ?_
      exact hk3 u1 v_3 x hf _ _ _ hS (lv_sub hl [1, 2, 0] rfl)
    · replace hf := if_n c_2 hf
      refine lv_aload_n hx hb dX5_addNumber_19 rfl (lv_at hl 0 rfl) ?_
      refine gf4_1 C hS (rfl) g_35 dX5_addNumber_20 ?_
      refine lv_aload_n hx hb dX5_addNumber_23 rfl (lv_at hl 0 rfl) ?_
      refine gf4_0 C hS (rfl) g_33 dX5_addNumber_24 ?_
      refine lv_iload_n hx hb dX5_addNumber_27 rfl (lv_at hl 1 rfl) ?_
      refine lv_iload_n hx hb dX5_addNumber_28 rfl (lv_at hl 2 rfl) ?_
      refine lv_ishr hx hb dX5_addNumber_29 ?_
      obtain ⟨v_4, ev_4, hf⟩ := st_out hf
      refine topI ev_4 ?_
      obtain ⟨v_5, ev_5, hf⟩ := st_out hf
      refine lv_i2b (v := v_5) hx hb dX5_addNumber_30 ev_5.symm ?_
      obtain ⟨gg_6, hf⟩ := gd_out hf
      obtain ⟨x_7, ex_7, hf⟩ := st_out hf
      refine asB C hS (rfl) rfl gg_6 ex_7 dX5_addNumber_31 (fun H locs hS => ?_)
      refine lv_aload_n hx hb dX5_addNumber_32 rfl (lv_at hl 0 rfl) ?_
      refine lv_dup hx hb dX5_addNumber_33 rfl ?_
      refine gf4_0 C hS (rfl) g_33 dX5_addNumber_34 ?_
      refine lv_iconst (v := 1) hx hb dX5_addNumber_37 (by decide) ?_
      refine lv_iadd hx hb dX5_addNumber_38 ?_
      obtain ⟨x_8, ex_8, hf⟩ := st_out hf
      refine pf4_0 C hS (rfl) g_33 ex_8 dX5_addNumber_39 (fun H locs hS => ?_)
      obtain ⟨v_9, ev_9, hf⟩ := st_out hf
      refine lv_iinc (v := v_9) (lv' := [(2, .int v_9), (0, .ref (G.1 + 2)), (1, .int u1)]) hx hb dX5_addNumber_42 hl (k := 2) rfl (by rw [ev_9]; rfl) (by decide) rfl (fun ls hl => ?_)
      refine lv_goto (tgt := 3) hx hb dX5_addNumber_45 (by decide) ?_
      exact hk3 u1 v_9 x_8 hf _ _ _ hS (lv_sub hl [1, 2, 0] rfl)
theorem wlX5_addNumber_h3 {p : Program} {l : Launch} {e : Env} {s : State} {m : MethodId} {args : Array Value} {below : List Frame} {meth : Method} {c : Code} {G : GT} {r : Unit} {z : XS} (C : CX G p s m args meth c cX5_addNumber 3 none RX5) (n : Nat) : ∀ (u1 : Int32) (u2 : Int32) (x : XS), lX5_addNumber_h3 n u1 u2 x = some (r, z) → ∀ (H : Heap) (locs : List Loc) (ls : Array Slot), SR G x H locs → lv_has ls 3 [(0, .ref (G.1 + 2)), (1, .int u1), (2, .int u2)] → W p l e rmX5_addNumber s m args below meth c H locs 0 0 (MQ below (QC G none z) args s 0 0 (AB G)) (F0 m 3 ls []) := by
  induction n with
  | zero => intro u1 u2 x hf H locs ls hS hl; exact absurd hf (by intro q; cases q)
  | succ n ih => exact wbX5_addNumber_h3 C ih
theorem wX5_addNumber_h3 {p : Program} {l : Launch} {e : Env} {s : State} {m : MethodId} {args : Array Value} {below : List Frame} {meth : Method} {c : Code} {G : GT} {r : Unit} {z : XS} (C : CX G p s m args meth c cX5_addNumber 3 none RX5) : ∀ (u1 : Int32) (u2 : Int32) (x : XS), fX5_addNumber_h3 u1 u2 x = some (r, z) → ∀ (H : Heap) (locs : List Loc) (ls : Array Slot), SR G x H locs → lv_has ls 3 [(0, .ref (G.1 + 2)), (1, .int u1), (2, .int u2)] → W p l e rmX5_addNumber s m args below meth c H locs 0 0 (MQ below (QC G none z) args s 0 0 (AB G)) (F0 m 3 ls []) := wlX5_addNumber_h3 C FU
set_option maxRecDepth 100000 in
set_option maxHeartbeats 4000000 in
theorem cX5_addNumber_ {G : GT} {l : Launch} {v1 : Int32} {x z : XS} {r : Unit} (hf : fX5_addNumber v1 x = some (r, z)) : Ct G l yX5_addNumber (.code yX5_addNumber cX5_addNumber 3 none) rmX5_addNumber [.ref (G.1 + 2), .int v1] x none z := by
  refine Ct.of (by decide +kernel) (Nat.le_of_ble_eq_true rfl) ?_
  intro p e s m args below meth c C ls hl hS
  have C : CX G p s m args meth c cX5_addNumber 3 none RX5 := C
  have hl : lv_has ls 3 [(0, .ref (G.1 + 2)), (1, .int v1)] := hl
  have hx := C.1
  have hb := C.2.1
  have hown := C.2.2.2.2.2.1
  have hw := C.2.2.2.2.2.2.1
  unfold fX5_addNumber at hf
  refine lv_bipush (v := 24) hx hb dX5_addNumber_0 (by decide) ?_
  refine lv_istore_n (lv' := [(2, .int 24), (0, .ref (G.1 + 2)), (1, .int v1)]) hx hb dX5_addNumber_2 rfl hl (by decide) rfl (fun ls hl => ?_)
  exact wX5_addNumber_h3  C v1 24 x hf _ _ _ hS (lv_sub hl [1, 2, 0] rfl)
abbrev rmX5_isLetter : Room := { frames := 0, cells := 0, slots := 0, locals := 0 }
set_option maxRecDepth 100000 in
set_option maxHeartbeats 4000000 in
theorem cX5_isLetter_ {G : GT} {l : Launch} {v0 : Int32} {x z : XS} {r : Int32} (hf : fX5_isLetter v0 x = some (r, z)) : Ct G l yX5_isLetter (.code yX5_isLetter cX5_isLetter 1 (some .boolean)) rmX5_isLetter [.int v0] x (some (.int r)) z := by
  refine Ct.of (by decide +kernel) (Nat.le_of_ble_eq_true rfl) ?_
  intro p e s m args below meth c C ls hl hS
  have C : CX G p s m args meth c cX5_isLetter 1 (some .boolean) RX5 := C
  have hl : lv_has ls 1 [(0, .int v0)] := hl
  have hx := C.1
  have hb := C.2.1
  have hown := C.2.2.2.2.2.1
  have hw := C.2.2.2.2.2.2.1
  unfold fX5_isLetter at hf
  refine lv_iload_n hx hb dX5_isLetter_0 rfl (lv_at hl 0 rfl) ?_
  refine lv_bipush (v := 97) hx hb dX5_isLetter_1 (by decide) ?_
  refine lv_icmp_lt (tgt := 16) hx hb dX5_isLetter_3 (by decide) (fun c_1 => ?_) (fun c_1 => ?_)
  · replace hf := if_p c_1 hf
    refine lv_iconst (v := 0) hx hb dX5_isLetter_16 (by decide) ?_
    exact rtZ C hS rfl hf dX5_isLetter_17
  · replace hf := if_n c_1 hf
    refine lv_iload_n hx hb dX5_isLetter_6 rfl (lv_at hl 0 rfl) ?_
    refine lv_bipush (v := 122) hx hb dX5_isLetter_7 (by decide) ?_
    refine lv_icmp_gt (tgt := 16) hx hb dX5_isLetter_9 (by decide) (fun c_2 => ?_) (fun c_2 => ?_)
    · replace hf := if_p c_2 hf
      refine lv_iconst (v := 0) hx hb dX5_isLetter_16 (by decide) ?_
      exact rtZ C hS rfl hf dX5_isLetter_17
    · replace hf := if_n c_2 hf
      refine lv_iconst (v := 1) hx hb dX5_isLetter_12 (by decide) ?_
      refine lv_goto (tgt := 17) hx hb dX5_isLetter_13 (by decide) ?_
      exact rtZ C hS rfl hf dX5_isLetter_17
abbrev rmX5_isDigit : Room := { frames := 0, cells := 0, slots := 0, locals := 0 }
set_option maxRecDepth 100000 in
set_option maxHeartbeats 4000000 in
theorem cX5_isDigit_ {G : GT} {l : Launch} {v0 : Int32} {x z : XS} {r : Int32} (hf : fX5_isDigit v0 x = some (r, z)) : Ct G l yX5_isDigit (.code yX5_isDigit cX5_isDigit 1 (some .boolean)) rmX5_isDigit [.int v0] x (some (.int r)) z := by
  refine Ct.of (by decide +kernel) (Nat.le_of_ble_eq_true rfl) ?_
  intro p e s m args below meth c C ls hl hS
  have C : CX G p s m args meth c cX5_isDigit 1 (some .boolean) RX5 := C
  have hl : lv_has ls 1 [(0, .int v0)] := hl
  have hx := C.1
  have hb := C.2.1
  have hown := C.2.2.2.2.2.1
  have hw := C.2.2.2.2.2.2.1
  unfold fX5_isDigit at hf
  refine lv_iload_n hx hb dX5_isDigit_0 rfl (lv_at hl 0 rfl) ?_
  refine lv_bipush (v := 48) hx hb dX5_isDigit_1 (by decide) ?_
  refine lv_icmp_lt (tgt := 16) hx hb dX5_isDigit_3 (by decide) (fun c_1 => ?_) (fun c_1 => ?_)
  · replace hf := if_p c_1 hf
    refine lv_iconst (v := 0) hx hb dX5_isDigit_16 (by decide) ?_
    exact rtZ C hS rfl hf dX5_isDigit_17
  · replace hf := if_n c_1 hf
    refine lv_iload_n hx hb dX5_isDigit_6 rfl (lv_at hl 0 rfl) ?_
    refine lv_bipush (v := 57) hx hb dX5_isDigit_7 (by decide) ?_
    refine lv_icmp_gt (tgt := 16) hx hb dX5_isDigit_9 (by decide) (fun c_2 => ?_) (fun c_2 => ?_)
    · replace hf := if_p c_2 hf
      refine lv_iconst (v := 0) hx hb dX5_isDigit_16 (by decide) ?_
      exact rtZ C hS rfl hf dX5_isDigit_17
    · replace hf := if_n c_2 hf
      refine lv_iconst (v := 1) hx hb dX5_isDigit_12 (by decide) ?_
      refine lv_goto (tgt := 17) hx hb dX5_isDigit_13 (by decide) ?_
      exact rtZ C hS rfl hf dX5_isDigit_17
abbrev rmX5_step : Room := { frames := 1, cells := 0, slots := 0, locals := 20 }
set_option maxRecDepth 100000 in
set_option maxHeartbeats 4000000 in
theorem wX5_step_h196 {p : Program} {l : Launch} {e : Env} {s : State} {m : MethodId} {args : Array Value} {below : List Frame} {meth : Method} {c : Code} {G : GT} {r : Unit} {z : XS} (C : CX G p s m args meth c cX5_step 1 none RX5) : ∀ (x : XS), fX5_step_h196 x = some (r, z) → ∀ (H : Heap) (locs : List Loc) (ls : Array Slot), SR G x H locs → lv_has ls 1 [(0, .ref (G.1 + 2))] → W p l e rmX5_step s m args below meth c H locs 0 0 (MQ below (QC G none z) args s 0 0 (AB G)) (F0 m 196 ls []) := by
  intro x hf H locs ls hS hl
  have hx := C.1
  have hb := C.2.1
  have hown := C.2.2.2.2.2.1
  have hw := C.2.2.2.2.2.2.1
  unfold fX5_step_h196 at hf
  refine lv_aload_n hx hb dX5_step_196 rfl (lv_at hl 0 rfl) ?_
  refine gf4_3 C hS (rfl) g_37 dX5_step_197 ?_
  refine lv_iconst (v := 3) hx hb dX5_step_200 (by decide) ?_
  refine lv_icmp_eq (tgt := 250) hx hb dX5_step_201 (by decide) (fun c_20 => ?_) (fun c_20 => ?_)
  · replace hf := if_p c_20 hf
    exact rtV C hS (r := ()) hf dX5_step_250
  · replace hf := if_n c_20 hf
    refine lv_aload_n hx hb dX5_step_204 rfl (lv_at hl 0 rfl) ?_
    refine gf4_4 C hS (rfl) g_38 dX5_step_205 ?_
    refine lv_if_le (tgt := 250) hx hb dX5_step_208 (by decide) (fun c_21 => ?_) (fun c_21 => ?_)
    · replace hf := if_p c_21 hf
      exact rtV C hS (r := ()) hf dX5_step_250
    · replace hf := if_n c_21 hf
      refine lv_aload_n hx hb dX5_step_211 rfl (lv_at hl 0 rfl) ?_
      refine gf4_1 C hS (rfl) g_35 dX5_step_212 ?_
      refine lv_aload_n hx hb dX5_step_215 rfl (lv_at hl 0 rfl) ?_
      refine gf4_4 C hS (rfl) g_38 dX5_step_216 ?_
      refine lv_iconst (v := 1) hx hb dX5_step_219 (by decide) ?_
      refine lv_isub hx hb dX5_step_220 ?_
      obtain ⟨gg_22, hf⟩ := gd_out hf
      refine alB C hS (rfl) rfl gg_22 dX5_step_221 ?_
      obtain ⟨r_23, x_24, qr_23, hf⟩ := bd_out hf
      refine rsI (As := [.int (x 3 (ix ((x 2 4) - 1)))]) (rest := []) C hS KX5_isLetter (cX5_isLetter_ qr_23) g_517 ⟨rfl, rfl⟩ ⟨(Nat.le_of_ble_eq_true rfl), (Nat.le_of_ble_eq_true rfl)⟩ hl.1 rfl rfl (Nat.le_of_ble_eq_true rfl) ⟨Nat.zero_le _, Nat.zero_le _⟩ dX5_step_222 (fun H locs hS => ?_)
      refine lv_if_ne (tgt := 245) hx hb dX5_step_225 (by decide) (fun c_25 => ?_) (fun c_25 => ?_)
      · replace hf := if_n c_25 hf
        refine lv_aload_n hx hb dX5_step_245 rfl (lv_at hl 0 rfl) ?_
        refine lv_iconst (v := 4) hx hb dX5_step_246 (by decide) ?_
        obtain ⟨x_26, ex_26, hf⟩ := st_out hf
        refine pf4_3 C hS (rfl) g_37 ex_26 dX5_step_247 (fun H locs hS => ?_)
        exact rtV C hS (r := ()) hf dX5_step_250
      · replace hf := if_p c_25 hf
        refine lv_aload_n hx hb dX5_step_228 rfl (lv_at hl 0 rfl) ?_
        refine gf4_1 C hS (rfl) g_35 dX5_step_229 ?_
        refine lv_aload_n hx hb dX5_step_232 rfl (lv_at hl 0 rfl) ?_
        refine gf4_4 C hS (rfl) g_38 dX5_step_233 ?_
        refine lv_iconst (v := 1) hx hb dX5_step_236 (by decide) ?_
        refine lv_isub hx hb dX5_step_237 ?_
        obtain ⟨gg_27, hf⟩ := gd_out hf
        refine alB C hS (rfl) rfl gg_27 dX5_step_238 ?_
        obtain ⟨r_28, x_29, qr_28, hf⟩ := bd_out hf
        refine rsI (As := [.int (x_24 3 (ix ((x_24 2 4) - 1)))]) (rest := []) C hS KX5_isDigit (cX5_isDigit_ qr_28) g_520 ⟨rfl, rfl⟩ ⟨(Nat.le_of_ble_eq_true rfl), (Nat.le_of_ble_eq_true rfl)⟩ hl.1 rfl rfl (Nat.le_of_ble_eq_true rfl) ⟨Nat.zero_le _, Nat.zero_le _⟩ dX5_step_239 (fun H locs hS => ?_)
        refine lv_if_eq (tgt := 250) hx hb dX5_step_242 (by decide) (fun c_30 => ?_) (fun c_30 => ?_)
        · replace hf := if_p c_30 hf
          exact rtV C hS (r := ()) hf dX5_step_250
        · replace hf := if_n c_30 hf
          refine lv_aload_n hx hb dX5_step_245 rfl (lv_at hl 0 rfl) ?_
          refine lv_iconst (v := 4) hx hb dX5_step_246 (by decide) ?_
          obtain ⟨x_31, ex_31, hf⟩ := st_out hf
          refine pf4_3 C hS (rfl) g_37 ex_31 dX5_step_247 (fun H locs hS => ?_)
          exact rtV C hS (r := ()) hf dX5_step_250
set_option maxRecDepth 100000 in
set_option maxHeartbeats 4000000 in
theorem wbX5_step_h83 {p : Program} {l : Launch} {e : Env} {s : State} {m : MethodId} {args : Array Value} {below : List Frame} {meth : Method} {c : Code} {G : GT} {r : Unit} {z : XS} (C : CX G p s m args meth c cX5_step 1 none RX5) {k83 : XS → Option (Unit × XS)} (hk83 : ∀ (x : XS), k83 x = some (r, z) → ∀ (H : Heap) (locs : List Loc) (ls : Array Slot), SR G x H locs → lv_has ls 1 [(0, .ref (G.1 + 2))] → W p l e rmX5_step s m args below meth c H locs 0 0 (MQ below (QC G none z) args s 0 0 (AB G)) (F0 m 83 ls [])) : ∀ (x : XS), bX5_step_h83 k83 x = some (r, z) → ∀ (H : Heap) (locs : List Loc) (ls : Array Slot), SR G x H locs → lv_has ls 1 [(0, .ref (G.1 + 2))] → W p l e rmX5_step s m args below meth c H locs 0 0 (MQ below (QC G none z) args s 0 0 (AB G)) (F0 m 83 ls []) := by
  intro x hf H locs ls hS hl
  have hx := C.1
  have hb := C.2.1
  have hown := C.2.2.2.2.2.1
  have hw := C.2.2.2.2.2.2.1
  unfold bX5_step_h83 at hf
  refine lv_aload_n hx hb dX5_step_83 rfl (lv_at hl 0 rfl) ?_
  refine gf4_5 C hS (rfl) g_39 dX5_step_84 ?_
  refine lv_aload_n hx hb dX5_step_87 rfl (lv_at hl 0 rfl) ?_
  refine gf4_2 C hS (rfl) g_36 dX5_step_88 ?_
  refine lv_icmp_ge (tgt := 196) hx hb dX5_step_91 (by decide) (fun c_38 => ?_) (fun c_38 => ?_)
  · replace hf := if_p c_38 hf
    exact wX5_step_h196  C x hf _ _ _ hS (lv_sub hl [0] rfl)
  · replace hf := if_n c_38 hf
    refine lv_aload_n hx hb dX5_step_94 rfl (lv_at hl 0 rfl) ?_
    refine gf4_1 C hS (rfl) g_35 dX5_step_95 ?_
    refine lv_aload_n hx hb dX5_step_98 rfl (lv_at hl 0 rfl) ?_
    refine gf4_5 C hS (rfl) g_39 dX5_step_99 ?_
    obtain ⟨gg_39, hf⟩ := gd_out hf
    refine alB C hS (rfl) rfl gg_39 dX5_step_102 ?_
    obtain ⟨r_40, x_41, qr_40, hf⟩ := bd_out hf
    refine rsI (As := [.int (x 3 (ix (x 2 5)))]) (rest := []) C hS KX5_isLetter (cX5_isLetter_ qr_40) g_517 ⟨rfl, rfl⟩ ⟨(Nat.le_of_ble_eq_true rfl), (Nat.le_of_ble_eq_true rfl)⟩ hl.1 rfl rfl (Nat.le_of_ble_eq_true rfl) ⟨Nat.zero_le _, Nat.zero_le _⟩ dX5_step_103 (fun H locs hS => ?_)
    refine lv_if_eq (tgt := 196) hx hb dX5_step_106 (by decide) (fun c_42 => ?_) (fun c_42 => ?_)
    · replace hf := if_p c_42 hf
      exact wX5_step_h196  C x_41 hf _ _ _ hS (lv_sub hl [0] rfl)
    · replace hf := if_n c_42 hf
      refine lv_aload_n hx hb dX5_step_109 rfl (lv_at hl 0 rfl) ?_
      refine lv_dup hx hb dX5_step_110 rfl ?_
      refine gf4_5 C hS (rfl) g_39 dX5_step_111 ?_
      refine lv_iconst (v := 1) hx hb dX5_step_114 (by decide) ?_
      refine lv_iadd hx hb dX5_step_115 ?_
      obtain ⟨x_43, ex_43, hf⟩ := st_out hf
      refine pf4_5 C hS (rfl) g_39 ex_43 dX5_step_116 (fun H locs hS => ?_)
      refine lv_goto (tgt := 83) hx hb dX5_step_119 (by decide) ?_
      exact hk83 x_43 hf _ _ _ hS (lv_sub hl [0] rfl)
theorem wlX5_step_h83 {p : Program} {l : Launch} {e : Env} {s : State} {m : MethodId} {args : Array Value} {below : List Frame} {meth : Method} {c : Code} {G : GT} {r : Unit} {z : XS} (C : CX G p s m args meth c cX5_step 1 none RX5) (n : Nat) : ∀ (x : XS), lX5_step_h83 n x = some (r, z) → ∀ (H : Heap) (locs : List Loc) (ls : Array Slot), SR G x H locs → lv_has ls 1 [(0, .ref (G.1 + 2))] → W p l e rmX5_step s m args below meth c H locs 0 0 (MQ below (QC G none z) args s 0 0 (AB G)) (F0 m 83 ls []) := by
  induction n with
  | zero => intro x hf H locs ls hS hl; exact absurd hf (by intro q; cases q)
  | succ n ih => exact wbX5_step_h83 C ih
theorem wX5_step_h83 {p : Program} {l : Launch} {e : Env} {s : State} {m : MethodId} {args : Array Value} {below : List Frame} {meth : Method} {c : Code} {G : GT} {r : Unit} {z : XS} (C : CX G p s m args meth c cX5_step 1 none RX5) : ∀ (x : XS), fX5_step_h83 x = some (r, z) → ∀ (H : Heap) (locs : List Loc) (ls : Array Slot), SR G x H locs → lv_has ls 1 [(0, .ref (G.1 + 2))] → W p l e rmX5_step s m args below meth c H locs 0 0 (MQ below (QC G none z) args s 0 0 (AB G)) (F0 m 83 ls []) := wlX5_step_h83 C FU
set_option maxRecDepth 100000 in
set_option maxHeartbeats 4000000 in
theorem wbX5_step_h142 {p : Program} {l : Launch} {e : Env} {s : State} {m : MethodId} {args : Array Value} {below : List Frame} {meth : Method} {c : Code} {G : GT} {r : Unit} {z : XS} (C : CX G p s m args meth c cX5_step 1 none RX5) {k142 : XS → Option (Unit × XS)} (hk142 : ∀ (x : XS), k142 x = some (r, z) → ∀ (H : Heap) (locs : List Loc) (ls : Array Slot), SR G x H locs → lv_has ls 1 [(0, .ref (G.1 + 2))] → W p l e rmX5_step s m args below meth c H locs 0 0 (MQ below (QC G none z) args s 0 0 (AB G)) (F0 m 142 ls [])) : ∀ (x : XS), bX5_step_h142 k142 x = some (r, z) → ∀ (H : Heap) (locs : List Loc) (ls : Array Slot), SR G x H locs → lv_has ls 1 [(0, .ref (G.1 + 2))] → W p l e rmX5_step s m args below meth c H locs 0 0 (MQ below (QC G none z) args s 0 0 (AB G)) (F0 m 142 ls []) := by
  intro x hf H locs ls hS hl
  have hx := C.1
  have hb := C.2.1
  have hown := C.2.2.2.2.2.1
  have hw := C.2.2.2.2.2.2.1
  unfold bX5_step_h142 at hf
  refine lv_aload_n hx hb dX5_step_142 rfl (lv_at hl 0 rfl) ?_
  refine gf4_5 C hS (rfl) g_39 dX5_step_143 ?_
  refine lv_aload_n hx hb dX5_step_146 rfl (lv_at hl 0 rfl) ?_
  refine gf4_2 C hS (rfl) g_36 dX5_step_147 ?_
  refine lv_icmp_ge (tgt := 196) hx hb dX5_step_150 (by decide) (fun c_32 => ?_) (fun c_32 => ?_)
  · replace hf := if_p c_32 hf
    exact wX5_step_h196  C x hf _ _ _ hS (lv_sub hl [0] rfl)
  · replace hf := if_n c_32 hf
    refine lv_aload_n hx hb dX5_step_153 rfl (lv_at hl 0 rfl) ?_
    refine gf4_1 C hS (rfl) g_35 dX5_step_154 ?_
    refine lv_aload_n hx hb dX5_step_157 rfl (lv_at hl 0 rfl) ?_
    refine gf4_5 C hS (rfl) g_39 dX5_step_158 ?_
    obtain ⟨gg_33, hf⟩ := gd_out hf
    refine alB C hS (rfl) rfl gg_33 dX5_step_161 ?_
    obtain ⟨r_34, x_35, qr_34, hf⟩ := bd_out hf
    refine rsI (As := [.int (x 3 (ix (x 2 5)))]) (rest := []) C hS KX5_isDigit (cX5_isDigit_ qr_34) g_520 ⟨rfl, rfl⟩ ⟨(Nat.le_of_ble_eq_true rfl), (Nat.le_of_ble_eq_true rfl)⟩ hl.1 rfl rfl (Nat.le_of_ble_eq_true rfl) ⟨Nat.zero_le _, Nat.zero_le _⟩ dX5_step_162 (fun H locs hS => ?_)
    refine lv_if_eq (tgt := 196) hx hb dX5_step_165 (by decide) (fun c_36 => ?_) (fun c_36 => ?_)
    · replace hf := if_p c_36 hf
      exact wX5_step_h196  C x_35 hf _ _ _ hS (lv_sub hl [0] rfl)
    · replace hf := if_n c_36 hf
      refine lv_aload_n hx hb dX5_step_168 rfl (lv_at hl 0 rfl) ?_
      refine lv_dup hx hb dX5_step_169 rfl ?_
      refine gf4_5 C hS (rfl) g_39 dX5_step_170 ?_
      refine lv_iconst (v := 1) hx hb dX5_step_173 (by decide) ?_
      refine lv_iadd hx hb dX5_step_174 ?_
      obtain ⟨x_37, ex_37, hf⟩ := st_out hf
      refine pf4_5 C hS (rfl) g_39 ex_37 dX5_step_175 (fun H locs hS => ?_)
      refine lv_goto (tgt := 142) hx hb dX5_step_178 (by decide) ?_
      exact hk142 x_37 hf _ _ _ hS (lv_sub hl [0] rfl)
theorem wlX5_step_h142 {p : Program} {l : Launch} {e : Env} {s : State} {m : MethodId} {args : Array Value} {below : List Frame} {meth : Method} {c : Code} {G : GT} {r : Unit} {z : XS} (C : CX G p s m args meth c cX5_step 1 none RX5) (n : Nat) : ∀ (x : XS), lX5_step_h142 n x = some (r, z) → ∀ (H : Heap) (locs : List Loc) (ls : Array Slot), SR G x H locs → lv_has ls 1 [(0, .ref (G.1 + 2))] → W p l e rmX5_step s m args below meth c H locs 0 0 (MQ below (QC G none z) args s 0 0 (AB G)) (F0 m 142 ls []) := by
  induction n with
  | zero => intro x hf H locs ls hS hl; exact absurd hf (by intro q; cases q)
  | succ n ih => exact wbX5_step_h142 C ih
theorem wX5_step_h142 {p : Program} {l : Launch} {e : Env} {s : State} {m : MethodId} {args : Array Value} {below : List Frame} {meth : Method} {c : Code} {G : GT} {r : Unit} {z : XS} (C : CX G p s m args meth c cX5_step 1 none RX5) : ∀ (x : XS), fX5_step_h142 x = some (r, z) → ∀ (H : Heap) (locs : List Loc) (ls : Array Slot), SR G x H locs → lv_has ls 1 [(0, .ref (G.1 + 2))] → W p l e rmX5_step s m args below meth c H locs 0 0 (MQ below (QC G none z) args s 0 0 (AB G)) (F0 m 142 ls []) := wlX5_step_h142 C FU
set_option maxRecDepth 100000 in
set_option maxHeartbeats 4000000 in
theorem wX5_step_h38 {p : Program} {l : Launch} {e : Env} {s : State} {m : MethodId} {args : Array Value} {below : List Frame} {meth : Method} {c : Code} {G : GT} {r : Unit} {z : XS} (C : CX G p s m args meth c cX5_step 1 none RX5) : ∀ (x : XS), fX5_step_h38 x = some (r, z) → ∀ (H : Heap) (locs : List Loc) (ls : Array Slot), SR G x H locs → lv_has ls 1 [(0, .ref (G.1 + 2))] → W p l e rmX5_step s m args below meth c H locs 0 0 (MQ below (QC G none z) args s 0 0 (AB G)) (F0 m 38 ls []) := by
  intro x hf H locs ls hS hl
  have hx := C.1
  have hb := C.2.1
  have hown := C.2.2.2.2.2.1
  have hw := C.2.2.2.2.2.2.1
  unfold fX5_step_h38 at hf
  refine lv_aload_n hx hb dX5_step_38 rfl (lv_at hl 0 rfl) ?_
  refine lv_aload_n hx hb dX5_step_39 rfl (lv_at hl 0 rfl) ?_
  refine gf4_5 C hS (rfl) g_39 dX5_step_40 ?_
  obtain ⟨x_5, ex_5, hf⟩ := st_out hf
  refine pf4_4 C hS (rfl) g_38 ex_5 dX5_step_43 (fun H locs hS => ?_)
  refine lv_aload_n hx hb dX5_step_46 rfl (lv_at hl 0 rfl) ?_
  refine gf4_5 C hS (rfl) g_39 dX5_step_47 ?_
  refine lv_aload_n hx hb dX5_step_50 rfl (lv_at hl 0 rfl) ?_
  refine gf4_2 C hS (rfl) g_36 dX5_step_51 ?_
  refine lv_icmp_lt (tgt := 63) hx hb dX5_step_54 (by decide) (fun c_6 => ?_) (fun c_6 => ?_)
  · replace hf := if_p c_6 hf
    refine lv_aload_n hx hb dX5_step_63 rfl (lv_at hl 0 rfl) ?_
    refine gf4_1 C hS (rfl) g_35 dX5_step_64 ?_
    refine lv_aload_n hx hb dX5_step_67 rfl (lv_at hl 0 rfl) ?_
    refine gf4_5 C hS (rfl) g_39 dX5_step_68 ?_
    obtain ⟨gg_7, hf⟩ := gd_out hf
    refine alB C hS (rfl) rfl gg_7 dX5_step_71 ?_
    obtain ⟨r_8, x_9, qr_8, hf⟩ := bd_out hf
    refine rsI (As := [.int (x_5 3 (ix (x_5 2 5)))]) (rest := []) C hS KX5_isLetter (cX5_isLetter_ qr_8) g_517 ⟨rfl, rfl⟩ ⟨(Nat.le_of_ble_eq_true rfl), (Nat.le_of_ble_eq_true rfl)⟩ hl.1 rfl rfl (Nat.le_of_ble_eq_true rfl) ⟨Nat.zero_le _, Nat.zero_le _⟩ dX5_step_72 (fun H locs hS => ?_)
    refine lv_if_eq (tgt := 122) hx hb dX5_step_75 (by decide) (fun c_10 => ?_) (fun c_10 => ?_)
    · replace hf := if_p c_10 hf
      refine lv_aload_n hx hb dX5_step_122 rfl (lv_at hl 0 rfl) ?_
      refine gf4_1 C hS (rfl) g_35 dX5_step_123 ?_
      refine lv_aload_n hx hb dX5_step_126 rfl (lv_at hl 0 rfl) ?_
      refine gf4_5 C hS (rfl) g_39 dX5_step_127 ?_
      obtain ⟨gg_11, hf⟩ := gd_out hf
      refine alB C hS (rfl) rfl gg_11 dX5_step_130 ?_
      obtain ⟨r_12, x_13, qr_12, hf⟩ := bd_out hf
      refine rsI (As := [.int (x_9 3 (ix (x_9 2 5)))]) (rest := []) C hS KX5_isDigit (cX5_isDigit_ qr_12) g_520 ⟨rfl, rfl⟩ ⟨(Nat.le_of_ble_eq_true rfl), (Nat.le_of_ble_eq_true rfl)⟩ hl.1 rfl rfl (Nat.le_of_ble_eq_true rfl) ⟨Nat.zero_le _, Nat.zero_le _⟩ dX5_step_131 (fun H locs hS => ?_)
      refine lv_if_eq (tgt := 181) hx hb dX5_step_134 (by decide) (fun c_14 => ?_) (fun c_14 => ?_)
      · replace hf := if_p c_14 hf
        refine lv_aload_n hx hb dX5_step_181 rfl (lv_at hl 0 rfl) ?_
        refine lv_iconst (v := 3) hx hb dX5_step_182 (by decide) ?_
        obtain ⟨x_15, ex_15, hf⟩ := st_out hf
        refine pf4_3 C hS (rfl) g_37 ex_15 dX5_step_183 (fun H locs hS => ?_)
        refine lv_aload_n hx hb dX5_step_186 rfl (lv_at hl 0 rfl) ?_
        refine lv_dup hx hb dX5_step_187 rfl ?_
        refine gf4_5 C hS (rfl) g_39 dX5_step_188 ?_
        refine lv_iconst (v := 1) hx hb dX5_step_191 (by decide) ?_
        refine lv_iadd hx hb dX5_step_192 ?_
        obtain ⟨x_16, ex_16, hf⟩ := st_out hf
        refine pf4_5 C hS (rfl) g_39 ex_16 dX5_step_193 (fun H locs hS => ?_)
        exact wX5_step_h196  C x_16 hf _ _ _ hS (lv_sub hl [0] rfl)
      · replace hf := if_n c_14 hf
        refine lv_aload_n hx hb dX5_step_137 rfl (lv_at hl 0 rfl) ?_
        refine lv_iconst (v := 2) hx hb dX5_step_138 (by decide) ?_
        obtain ⟨x_17, ex_17, hf⟩ := st_out hf
        refine pf4_3 C hS (rfl) g_37 ex_17 dX5_step_139 (fun H locs hS => ?_)
        exact wX5_step_h142  C x_17 hf _ _ _ hS (lv_sub hl [0] rfl)
    · replace hf := if_n c_10 hf
      refine lv_aload_n hx hb dX5_step_78 rfl (lv_at hl 0 rfl) ?_
      refine lv_iconst (v := 1) hx hb dX5_step_79 (by decide) ?_
      obtain ⟨x_18, ex_18, hf⟩ := st_out hf
      refine pf4_3 C hS (rfl) g_37 ex_18 dX5_step_80 (fun H locs hS => ?_)
      exact wX5_step_h83  C x_18 hf _ _ _ hS (lv_sub hl [0] rfl)
  · replace hf := if_n c_6 hf
    refine lv_aload_n hx hb dX5_step_57 rfl (lv_at hl 0 rfl) ?_
    refine lv_iconst (v := 0) hx hb dX5_step_58 (by decide) ?_
    obtain ⟨x_19, ex_19, hf⟩ := st_out hf
    refine pf4_3 C hS (rfl) g_37 ex_19 dX5_step_59 (fun H locs hS => ?_)
    exact rtV C hS (r := ()) hf dX5_step_62
set_option maxRecDepth 100000 in
set_option maxHeartbeats 4000000 in
theorem wbX5_step_h0 {p : Program} {l : Launch} {e : Env} {s : State} {m : MethodId} {args : Array Value} {below : List Frame} {meth : Method} {c : Code} {G : GT} {r : Unit} {z : XS} (C : CX G p s m args meth c cX5_step 1 none RX5) {k0 : XS → Option (Unit × XS)} (hk0 : ∀ (x : XS), k0 x = some (r, z) → ∀ (H : Heap) (locs : List Loc) (ls : Array Slot), SR G x H locs → lv_has ls 1 [(0, .ref (G.1 + 2))] → W p l e rmX5_step s m args below meth c H locs 0 0 (MQ below (QC G none z) args s 0 0 (AB G)) (F0 m 0 ls [])) : ∀ (x : XS), bX5_step_h0 k0 x = some (r, z) → ∀ (H : Heap) (locs : List Loc) (ls : Array Slot), SR G x H locs → lv_has ls 1 [(0, .ref (G.1 + 2))] → W p l e rmX5_step s m args below meth c H locs 0 0 (MQ below (QC G none z) args s 0 0 (AB G)) (F0 m 0 ls []) := by
  intro x hf H locs ls hS hl
  have hx := C.1
  have hb := C.2.1
  have hown := C.2.2.2.2.2.1
  have hw := C.2.2.2.2.2.2.1
  unfold bX5_step_h0 at hf
  refine lv_aload_n hx hb dX5_step_0 rfl (lv_at hl 0 rfl) ?_
  refine gf4_5 C hS (rfl) g_39 dX5_step_1 ?_
  refine lv_aload_n hx hb dX5_step_4 rfl (lv_at hl 0 rfl) ?_
  refine gf4_2 C hS (rfl) g_36 dX5_step_5 ?_
  refine lv_icmp_ge (tgt := 38) hx hb dX5_step_8 (by decide) (fun c_1 => ?_) (fun c_1 => ?_)
  · replace hf := if_p c_1 hf
    exact wX5_step_h38  C x hf _ _ _ hS (lv_sub hl [0] rfl)
  · replace hf := if_n c_1 hf
    refine lv_aload_n hx hb dX5_step_11 rfl (lv_at hl 0 rfl) ?_
    refine gf4_1 C hS (rfl) g_35 dX5_step_12 ?_
    refine lv_aload_n hx hb dX5_step_15 rfl (lv_at hl 0 rfl) ?_
    refine gf4_5 C hS (rfl) g_39 dX5_step_16 ?_
    obtain ⟨gg_2, hf⟩ := gd_out hf
    refine alB C hS (rfl) rfl gg_2 dX5_step_19 ?_
    refine lv_bipush (v := 32) hx hb dX5_step_20 (by decide) ?_
    refine lv_icmp_ne (tgt := 38) hx hb dX5_step_22 (by decide) (fun c_3 => ?_) (fun c_3 => ?_)
    · replace hf := if_n c_3 hf
      exact wX5_step_h38  C x hf _ _ _ hS (lv_sub hl [0] rfl)
    · replace hf := if_p c_3 hf
      refine lv_aload_n hx hb dX5_step_25 rfl (lv_at hl 0 rfl) ?_
      refine lv_dup hx hb dX5_step_26 rfl ?_
      refine gf4_5 C hS (rfl) g_39 dX5_step_27 ?_
      refine lv_iconst (v := 1) hx hb dX5_step_30 (by decide) ?_
      refine lv_iadd hx hb dX5_step_31 ?_
      obtain ⟨x_4, ex_4, hf⟩ := st_out hf
      refine pf4_5 C hS (rfl) g_39 ex_4 dX5_step_32 (fun H locs hS => ?_)
      refine lv_goto (tgt := 0) hx hb dX5_step_35 (by decide) ?_
      exact hk0 x_4 hf _ _ _ hS (lv_sub hl [0] rfl)
theorem wlX5_step_h0 {p : Program} {l : Launch} {e : Env} {s : State} {m : MethodId} {args : Array Value} {below : List Frame} {meth : Method} {c : Code} {G : GT} {r : Unit} {z : XS} (C : CX G p s m args meth c cX5_step 1 none RX5) (n : Nat) : ∀ (x : XS), lX5_step_h0 n x = some (r, z) → ∀ (H : Heap) (locs : List Loc) (ls : Array Slot), SR G x H locs → lv_has ls 1 [(0, .ref (G.1 + 2))] → W p l e rmX5_step s m args below meth c H locs 0 0 (MQ below (QC G none z) args s 0 0 (AB G)) (F0 m 0 ls []) := by
  induction n with
  | zero => intro x hf H locs ls hS hl; exact absurd hf (by intro q; cases q)
  | succ n ih => exact wbX5_step_h0 C ih
theorem wX5_step_h0 {p : Program} {l : Launch} {e : Env} {s : State} {m : MethodId} {args : Array Value} {below : List Frame} {meth : Method} {c : Code} {G : GT} {r : Unit} {z : XS} (C : CX G p s m args meth c cX5_step 1 none RX5) : ∀ (x : XS), fX5_step_h0 x = some (r, z) → ∀ (H : Heap) (locs : List Loc) (ls : Array Slot), SR G x H locs → lv_has ls 1 [(0, .ref (G.1 + 2))] → W p l e rmX5_step s m args below meth c H locs 0 0 (MQ below (QC G none z) args s 0 0 (AB G)) (F0 m 0 ls []) := wlX5_step_h0 C FU
set_option maxRecDepth 100000 in
set_option maxHeartbeats 4000000 in
theorem cX5_step_ {G : GT} {l : Launch} {x z : XS} {r : Unit} (hf : fX5_step x = some (r, z)) : Ct G l yX5_step (.code yX5_step cX5_step 1 none) rmX5_step [.ref (G.1 + 2)] x none z := by
  refine Ct.of (by decide +kernel) (Nat.le_of_ble_eq_true rfl) ?_
  intro p e s m args below meth c C ls hl hS
  have C : CX G p s m args meth c cX5_step 1 none RX5 := C
  have hl : lv_has ls 1 [(0, .ref (G.1 + 2))] := hl
  have hx := C.1
  have hb := C.2.1
  have hown := C.2.2.2.2.2.1
  have hw := C.2.2.2.2.2.2.1
  unfold fX5_step at hf
  exact wX5_step_h0  C x hf _ _ _ hS (lv_sub hl [0] rfl)
abbrev rmX5_isWord : Room := { frames := 4, cells := 0, slots := 0, locals := 85 }
set_option maxRecDepth 100000 in
set_option maxHeartbeats 4000000 in
theorem wbX5_isWord_h28 {p : Program} {l : Launch} {e : Env} {s : State} {m : MethodId} {args : Array Value} {below : List Frame} {meth : Method} {c : Code} {G : GT} {v1 : Nat} {r : Int32} {z : XS} (hs1 : v1 < 6) (C : CX G p s m args meth c cX5_isWord 3 (some .boolean) RX5) {k28 : Int32 → XS → Option (Int32 × XS)} (hk28 : ∀ (u2 : Int32) (x : XS), k28 u2 x = some (r, z) → ∀ (H : Heap) (locs : List Loc) (ls : Array Slot), SR G x H locs → lv_has ls 3 [(0, .ref (G.1 + 2)), (1, .ref (G.2.2.2.2 (1 + v1))), (2, .int u2)] → W p l e rmX5_isWord s m args below meth c H locs 0 0 (MQ below (QC G (some (.int r)) z) args s 0 0 (AB G)) (F0 m 28 ls [])) : ∀ (u2 : Int32) (x : XS), bX5_isWord_h28 v1 k28 u2 x = some (r, z) → ∀ (H : Heap) (locs : List Loc) (ls : Array Slot), SR G x H locs → lv_has ls 3 [(0, .ref (G.1 + 2)), (1, .ref (G.2.2.2.2 (1 + v1))), (2, .int u2)] → W p l e rmX5_isWord s m args below meth c H locs 0 0 (MQ below (QC G (some (.int r)) z) args s 0 0 (AB G)) (F0 m 28 ls []) := by
  intro u2 x hf H locs ls hS hl
  have hx := C.1
  have hb := C.2.1
  have hown := C.2.2.2.2.2.1
  have hw := C.2.2.2.2.2.2.1
  unfold bX5_isWord_h28 at hf
  refine lv_iload_n hx hb dX5_isWord_28 rfl (lv_at hl 2 rfl) ?_
  refine lv_aload_n hx hb dX5_isWord_29 rfl (lv_at hl 1 rfl) ?_
  obtain ⟨r_5, x_6, qr_5, hf⟩ := bd_out hf
  refine rzI (As := []) (rest := [.int u2]) C hS hs1 KJ0_length_8abf5 (cJ0_length_8abf5_ hs1 qr_5) g_532 ⟨rfl, rfl⟩ ⟨(Nat.le_of_ble_eq_true rfl), (Nat.le_of_ble_eq_true rfl)⟩ hl.1 rfl rfl (Nat.le_of_ble_eq_true rfl) ⟨Nat.zero_le _, Nat.zero_le _⟩ dX5_isWord_30 (fun H locs hS => ?_)
  refine lv_icmp_ge (tgt := 63) hx hb dX5_isWord_33 (by decide) (fun c_7 => ?_) (fun c_7 => ?_)
  · replace hf := if_p c_7 hf
    refine lv_iconst (v := 1) hx hb dX5_isWord_63 (by decide) ?_
    exact rtZ C hS rfl hf dX5_isWord_64
  · replace hf := if_n c_7 hf
    refine lv_aload_n hx hb dX5_isWord_36 rfl (lv_at hl 0 rfl) ?_
    refine gf4_1 C hS (rfl) g_35 dX5_isWord_37 ?_
    refine lv_aload_n hx hb dX5_isWord_40 rfl (lv_at hl 0 rfl) ?_
    refine gf4_4 C hS (rfl) g_38 dX5_isWord_41 ?_
    refine lv_iload_n hx hb dX5_isWord_44 rfl (lv_at hl 2 rfl) ?_
    refine lv_iadd hx hb dX5_isWord_45 ?_
    obtain ⟨gg_8, hf⟩ := gd_out hf
    refine alB C hS (rfl) rfl gg_8 dX5_isWord_46 ?_
    refine lv_aload_n hx hb dX5_isWord_47 rfl (lv_at hl 1 rfl) ?_
    refine lv_iload_n hx hb dX5_isWord_48 rfl (lv_at hl 2 rfl) ?_
    obtain ⟨r_9, x_10, qr_9, hf⟩ := bd_out hf
    refine rzI (As := [.int u2]) (rest := [.int (x_6 3 (ix ((x_6 2 4) + u2)))]) C hS hs1 KJ0_charAt_5068e (cJ0_charAt_5068e_ hs1 qr_9) g_542 ⟨rfl, rfl⟩ ⟨(Nat.le_of_ble_eq_true rfl), (Nat.le_of_ble_eq_true rfl)⟩ hl.1 rfl rfl (Nat.le_of_ble_eq_true rfl) ⟨Nat.zero_le _, Nat.zero_le _⟩ dX5_isWord_49 (fun H locs hS => ?_)
    refine lv_icmp_eq (tgt := 57) hx hb dX5_isWord_52 (by decide) (fun c_11 => ?_) (fun c_11 => ?_)
    · replace hf := if_p c_11 hf
      obtain ⟨v_12, ev_12, hf⟩ := st_out hf
      refine lv_iinc (v := v_12) (lv' := [(2, .int v_12), (0, .ref (G.1 + 2)), (1, .ref (G.2.2.2.2 (1 + v1)))]) hx hb dX5_isWord_57 hl (k := 2) rfl (by rw [ev_12]; rfl) (by decide) rfl (fun ls hl => ?_)
      refine lv_goto (tgt := 28) hx hb dX5_isWord_60 (by decide) ?_
      exact hk28 v_12 x_10 hf _ _ _ hS (lv_sub hl [1, 2, 0] rfl)
    · replace hf := if_n c_11 hf
      refine lv_iconst (v := 0) hx hb dX5_isWord_55 (by decide) ?_
      exact rtZ C hS rfl hf dX5_isWord_56
theorem wlX5_isWord_h28 {p : Program} {l : Launch} {e : Env} {s : State} {m : MethodId} {args : Array Value} {below : List Frame} {meth : Method} {c : Code} {G : GT} {v1 : Nat} {r : Int32} {z : XS} (hs1 : v1 < 6) (C : CX G p s m args meth c cX5_isWord 3 (some .boolean) RX5) (n : Nat) : ∀ (u2 : Int32) (x : XS), lX5_isWord_h28 v1 n u2 x = some (r, z) → ∀ (H : Heap) (locs : List Loc) (ls : Array Slot), SR G x H locs → lv_has ls 3 [(0, .ref (G.1 + 2)), (1, .ref (G.2.2.2.2 (1 + v1))), (2, .int u2)] → W p l e rmX5_isWord s m args below meth c H locs 0 0 (MQ below (QC G (some (.int r)) z) args s 0 0 (AB G)) (F0 m 28 ls []) := by
  induction n with
  | zero => intro u2 x hf H locs ls hS hl; exact absurd hf (by intro q; cases q)
  | succ n ih => exact wbX5_isWord_h28 hs1 C ih
theorem wX5_isWord_h28 {p : Program} {l : Launch} {e : Env} {s : State} {m : MethodId} {args : Array Value} {below : List Frame} {meth : Method} {c : Code} {G : GT} {v1 : Nat} {r : Int32} {z : XS} (hs1 : v1 < 6) (C : CX G p s m args meth c cX5_isWord 3 (some .boolean) RX5) : ∀ (u2 : Int32) (x : XS), fX5_isWord_h28 v1 u2 x = some (r, z) → ∀ (H : Heap) (locs : List Loc) (ls : Array Slot), SR G x H locs → lv_has ls 3 [(0, .ref (G.1 + 2)), (1, .ref (G.2.2.2.2 (1 + v1))), (2, .int u2)] → W p l e rmX5_isWord s m args below meth c H locs 0 0 (MQ below (QC G (some (.int r)) z) args s 0 0 (AB G)) (F0 m 28 ls []) := wlX5_isWord_h28 hs1 C FU
set_option maxRecDepth 100000 in
set_option maxHeartbeats 4000000 in
theorem cX5_isWord_ {G : GT} {l : Launch} {v1 : Nat} (hs1 : v1 < 6) {x z : XS} {r : Int32} (hf : fX5_isWord v1 x = some (r, z)) : Ct G l yX5_isWord (.code yX5_isWord cX5_isWord 3 (some .boolean)) rmX5_isWord [.ref (G.1 + 2), .ref (G.2.2.2.2 (1 + v1))] x (some (.int r)) z := by
  refine Ct.of (by decide +kernel) (Nat.le_of_ble_eq_true rfl) ?_
  intro p e s m args below meth c C ls hl hS
  have C : CX G p s m args meth c cX5_isWord 3 (some .boolean) RX5 := C
  have hl : lv_has ls 3 [(0, .ref (G.1 + 2)), (1, .ref (G.2.2.2.2 (1 + v1)))] := hl
  have hx := C.1
  have hb := C.2.1
  have hown := C.2.2.2.2.2.1
  have hw := C.2.2.2.2.2.2.1
  unfold fX5_isWord at hf
  refine lv_aload_n hx hb dX5_isWord_0 rfl (lv_at hl 0 rfl) ?_
  refine gf4_3 C hS (rfl) g_37 dX5_isWord_1 ?_
  refine lv_iconst (v := 1) hx hb dX5_isWord_4 (by decide) ?_
  refine lv_icmp_ne (tgt := 24) hx hb dX5_isWord_5 (by decide) (fun c_1 => ?_) (fun c_1 => ?_)
  · replace hf := if_n c_1 hf
    refine lv_iconst (v := 0) hx hb dX5_isWord_24 (by decide) ?_
    exact rtZ C hS rfl hf dX5_isWord_25
  · replace hf := if_p c_1 hf
    refine lv_aload_n hx hb dX5_isWord_8 rfl (lv_at hl 0 rfl) ?_
    refine gf4_5 C hS (rfl) g_39 dX5_isWord_9 ?_
    refine lv_aload_n hx hb dX5_isWord_12 rfl (lv_at hl 0 rfl) ?_
    refine gf4_4 C hS (rfl) g_38 dX5_isWord_13 ?_
    refine lv_isub hx hb dX5_isWord_16 ?_
    refine lv_aload_n hx hb dX5_isWord_17 rfl (lv_at hl 1 rfl) ?_
    obtain ⟨r_2, x_3, qr_2, hf⟩ := bd_out hf
    refine rzI (As := []) (rest := [.int ((x 2 5) - (x 2 4))]) C hS hs1 KJ0_length_8abf5 (cJ0_length_8abf5_ hs1 qr_2) g_532 ⟨rfl, rfl⟩ ⟨(Nat.le_of_ble_eq_true rfl), (Nat.le_of_ble_eq_true rfl)⟩ hl.1 rfl rfl (Nat.le_of_ble_eq_true rfl) ⟨Nat.zero_le _, Nat.zero_le _⟩ dX5_isWord_18 (fun H locs hS => ?_)
    refine lv_icmp_eq (tgt := 26) hx hb dX5_isWord_21 (by decide) (fun c_4 => ?_) (fun c_4 => ?_)
    · replace hf := if_p c_4 hf
      refine lv_iconst (v := 0) hx hb dX5_isWord_26 (by decide) ?_
      refine lv_istore_n (lv' := [(2, .int 0), (0, .ref (G.1 + 2)), (1, .ref (G.2.2.2.2 (1 + v1)))]) hx hb dX5_isWord_27 rfl hl (by decide) rfl (fun ls hl => ?_)
      exact wX5_isWord_h28  hs1 C 0 x_3 hf _ _ _ hS (lv_sub hl [1, 2, 0] rfl)
    · replace hf := if_n c_4 hf
      refine lv_iconst (v := 0) hx hb dX5_isWord_24 (by decide) ?_
      exact rtZ C hS rfl hf dX5_isWord_25
abbrev rmX5_keyRead : Room := { frames := 5, cells := 0, slots := 0, locals := 107 }
set_option maxRecDepth 100000 in
set_option maxHeartbeats 4000000 in
theorem cX5_keyRead_ {G : GT} {l : Launch} {x z : XS} {r : Int32} (hf : fX5_keyRead x = some (r, z)) : Ct G l yX5_keyRead (.code yX5_keyRead cX5_keyRead 1 (some .int)) rmX5_keyRead [.ref (G.1 + 2)] x (some (.int r)) z := by
  refine Ct.of (by decide +kernel) (Nat.le_of_ble_eq_true rfl) ?_
  intro p e s m args below meth c C ls hl hS
  have C : CX G p s m args meth c cX5_keyRead 1 (some .int) RX5 := C
  have hl : lv_has ls 1 [(0, .ref (G.1 + 2))] := hl
  have hx := C.1
  have hb := C.2.1
  have hown := C.2.2.2.2.2.1
  have hw := C.2.2.2.2.2.2.1
  unfold fX5_keyRead at hf
  refine lv_aload_n hx hb dX5_keyRead_0 rfl (lv_at hl 0 rfl) ?_
  refine ldS0 C dX5_keyRead_1 ?_
  obtain ⟨r_1, x_2, qr_1, hf⟩ := bd_out hf
  refine rvI (As := [.ref (G.2.2.2.2 (1 + 0))]) (rest := []) C hS (rfl) rfl KX5_isWord (cX5_isWord_ (by decide) qr_1) g_528 ⟨rfl, rfl⟩ ⟨(Nat.le_of_ble_eq_true rfl), (Nat.le_of_ble_eq_true rfl)⟩ hl.1 rfl rfl (Nat.le_of_ble_eq_true rfl) ⟨Nat.zero_le _, Nat.zero_le _⟩ dX5_keyRead_3 (fun H locs hS => ?_)
  refine lv_if_eq (tgt := 11) hx hb dX5_keyRead_6 (by decide) (fun c_3 => ?_) (fun c_3 => ?_)
  · replace hf := if_p c_3 hf
    refine lv_aload_n hx hb dX5_keyRead_11 rfl (lv_at hl 0 rfl) ?_
    refine ldS1 C dX5_keyRead_12 ?_
    obtain ⟨r_4, x_5, qr_4, hf⟩ := bd_out hf
    refine rvI (As := [.ref (G.2.2.2.2 (1 + 1))]) (rest := []) C hS (rfl) rfl KX5_isWord (cX5_isWord_ (by decide) qr_4) g_528 ⟨rfl, rfl⟩ ⟨(Nat.le_of_ble_eq_true rfl), (Nat.le_of_ble_eq_true rfl)⟩ hl.1 rfl rfl (Nat.le_of_ble_eq_true rfl) ⟨Nat.zero_le _, Nat.zero_le _⟩ dX5_keyRead_14 (fun H locs hS => ?_)
    refine lv_if_eq (tgt := 22) hx hb dX5_keyRead_17 (by decide) (fun c_6 => ?_) (fun c_6 => ?_)
    · replace hf := if_p c_6 hf
      refine lv_aload_n hx hb dX5_keyRead_22 rfl (lv_at hl 0 rfl) ?_
      refine ldS2 C dX5_keyRead_23 ?_
      obtain ⟨r_7, x_8, qr_7, hf⟩ := bd_out hf
      refine rvI (As := [.ref (G.2.2.2.2 (1 + 2))]) (rest := []) C hS (rfl) rfl KX5_isWord (cX5_isWord_ (by decide) qr_7) g_528 ⟨rfl, rfl⟩ ⟨(Nat.le_of_ble_eq_true rfl), (Nat.le_of_ble_eq_true rfl)⟩ hl.1 rfl rfl (Nat.le_of_ble_eq_true rfl) ⟨Nat.zero_le _, Nat.zero_le _⟩ dX5_keyRead_25 (fun H locs hS => ?_)
      refine lv_if_eq (tgt := 35) hx hb dX5_keyRead_28 (by decide) (fun c_9 => ?_) (fun c_9 => ?_)
      · replace hf := if_p c_9 hf
        refine lv_iconst (v := (-1)) hx hb dX5_keyRead_35 (by decide) ?_
        exact rtI C hS hf dX5_keyRead_36
      · replace hf := if_n c_9 hf
        refine lv_iconst (v := 2) hx hb dX5_keyRead_31 (by decide) ?_
        refine lv_goto (tgt := 36) hx hb dX5_keyRead_32 (by decide) ?_
        exact rtI C hS hf dX5_keyRead_36
    · replace hf := if_n c_6 hf
      refine lv_iconst (v := 1) hx hb dX5_keyRead_20 (by decide) ?_
      exact rtI C hS hf dX5_keyRead_21
  · replace hf := if_n c_3 hf
    refine lv_iconst (v := 0) hx hb dX5_keyRead_9 (by decide) ?_
    exact rtI C hS hf dX5_keyRead_10
abbrev rmX6_begin : Room := { frames := 0, cells := 0, slots := 0, locals := 0 }
set_option maxRecDepth 100000 in
set_option maxHeartbeats 4000000 in
theorem cX6_begin_ {G : GT} {l : Launch} {a0 : Nat} {v1 : Int32} (ha0 : tg a0 = 5) {x z : XS} {r : Unit} (hf : fX6_begin a0 v1 x = some (r, z)) : Ct G l yX6_begin (.code yX6_begin cX6_begin 2 none) rmX6_begin [.ref (G.1 + a0), .int v1] x none z := by
  refine Ct.of (by decide +kernel) (Nat.le_of_ble_eq_true rfl) ?_
  intro p e s m args below meth c C ls hl hS
  have C : CX G p s m args meth c cX6_begin 2 none RX6 := C
  have hl : lv_has ls 2 [(0, .ref (G.1 + a0)), (1, .int v1)] := hl
  have hx := C.1
  have hb := C.2.1
  have hown := C.2.2.2.2.2.1
  have hw := C.2.2.2.2.2.2.1
  unfold fX6_begin at hf
  refine lv_aload_n hx hb dX6_begin_0 rfl (lv_at hl 0 rfl) ?_
  refine lv_iload_n hx hb dX6_begin_1 rfl (lv_at hl 1 rfl) ?_
  obtain ⟨x_1, ex_1, hf⟩ := st_out hf
  refine pf5_1 C hS ha0 g_160 ex_1 dX6_begin_2 (fun H locs hS => ?_)
  refine lv_aload_n hx hb dX6_begin_5 rfl (lv_at hl 0 rfl) ?_
  refine lv_iconst (v := 0) hx hb dX6_begin_6 (by decide) ?_
  obtain ⟨x_2, ex_2, hf⟩ := st_out hf
  refine pf5_2 C hS ha0 g_163 ex_2 dX6_begin_7 (fun H locs hS => ?_)
  refine lv_aload_n hx hb dX6_begin_10 rfl (lv_at hl 0 rfl) ?_
  refine lv_iconst (v := 0) hx hb dX6_begin_11 (by decide) ?_
  obtain ⟨x_3, ex_3, hf⟩ := st_out hf
  refine pf5_3 C hS ha0 g_165 ex_3 dX6_begin_12 (fun H locs hS => ?_)
  exact rtV C hS (r := ()) hf dX6_begin_15
abbrev rmX6_addItem : Room := { frames := 0, cells := 0, slots := 0, locals := 0 }
set_option maxRecDepth 100000 in
set_option maxHeartbeats 4000000 in
theorem cX6_addItem_ {G : GT} {l : Launch} {a0 : Nat} {v1 : Int32} (ha0 : tg a0 = 5) {x z : XS} {r : Unit} (hf : fX6_addItem a0 v1 x = some (r, z)) : Ct G l yX6_addItem (.code yX6_addItem cX6_addItem 2 none) rmX6_addItem [.ref (G.1 + a0), .int v1] x none z := by
  refine Ct.of (by decide +kernel) (Nat.le_of_ble_eq_true rfl) ?_
  intro p e s m args below meth c C ls hl hS
  have C : CX G p s m args meth c cX6_addItem 2 none RX6 := C
  have hl : lv_has ls 2 [(0, .ref (G.1 + a0)), (1, .int v1)] := hl
  have hx := C.1
  have hb := C.2.1
  have hown := C.2.2.2.2.2.1
  have hw := C.2.2.2.2.2.2.1
  unfold fX6_addItem at hf
  refine lv_aload_n hx hb dX6_addItem_0 rfl (lv_at hl 0 rfl) ?_
  refine gf5_3 C hS ha0 g_165 dX6_addItem_1 ?_
  refine lv_aload_n hx hb dX6_addItem_4 rfl (lv_at hl 0 rfl) ?_
  refine gf5_4 C hS ha0 g_166 dX6_addItem_5 ?_
  refine alN C hS (tx_i ha0) (by decide) (by decide) 0 rfl (tx_n ha0) (v := 96) (by decide) dX6_addItem_8 ?_
  refine lv_icmp_ge (tgt := 32) hx hb dX6_addItem_9 (by decide) (fun c_1 => ?_) (fun c_1 => ?_)
  · replace hf := if_p c_1 hf
    exact rtV C hS (r := ()) hf dX6_addItem_32
  · replace hf := if_n c_1 hf
    refine lv_aload_n hx hb dX6_addItem_12 rfl (lv_at hl 0 rfl) ?_
    refine gf5_4 C hS ha0 g_166 dX6_addItem_13 ?_
    refine lv_aload_n hx hb dX6_addItem_16 rfl (lv_at hl 0 rfl) ?_
    refine gf5_3 C hS ha0 g_165 dX6_addItem_17 ?_
    refine lv_iload_n hx hb dX6_addItem_20 rfl (lv_at hl 1 rfl) ?_
    obtain ⟨gg_2, hf⟩ := gd_out hf
    obtain ⟨x_3, ex_3, hf⟩ := st_out hf
    refine asI C hS (tx_i ha0) (tx_n ha0) gg_2 ex_3 dX6_addItem_21 (fun H locs hS => ?_)
    refine lv_aload_n hx hb dX6_addItem_22 rfl (lv_at hl 0 rfl) ?_
    refine lv_dup hx hb dX6_addItem_23 rfl ?_
    refine gf5_3 C hS ha0 g_165 dX6_addItem_24 ?_
    refine lv_iconst (v := 1) hx hb dX6_addItem_27 (by decide) ?_
    refine lv_iadd hx hb dX6_addItem_28 ?_
    obtain ⟨x_4, ex_4, hf⟩ := st_out hf
    refine pf5_3 C hS ha0 g_165 ex_4 dX6_addItem_29 (fun H locs hS => ?_)
    exact rtV C hS (r := ()) hf dX6_addItem_32
abbrev rmX6_addNumber : Room := { frames := 1, cells := 0, slots := 0, locals := 21 }
set_option maxRecDepth 100000 in
set_option maxHeartbeats 4000000 in
theorem cX6_addNumber_ {G : GT} {l : Launch} {a0 : Nat} {v1 : Int32} (ha0 : tg a0 = 5) {x z : XS} {r : Unit} (hf : fX6_addNumber a0 v1 x = some (r, z)) : Ct G l yX6_addNumber (.code yX6_addNumber cX6_addNumber 2 none) rmX6_addNumber [.ref (G.1 + a0), .int v1] x none z := by
  refine Ct.of (by decide +kernel) (Nat.le_of_ble_eq_true rfl) ?_
  intro p e s m args below meth c C ls hl hS
  have C : CX G p s m args meth c cX6_addNumber 2 none RX6 := C
  have hl : lv_has ls 2 [(0, .ref (G.1 + a0)), (1, .int v1)] := hl
  have hx := C.1
  have hb := C.2.1
  have hown := C.2.2.2.2.2.1
  have hw := C.2.2.2.2.2.2.1
  unfold fX6_addNumber at hf
  refine lv_aload_n hx hb dX6_addNumber_0 rfl (lv_at hl 0 rfl) ?_
  refine lv_iload_n hx hb dX6_addNumber_1 rfl (lv_at hl 1 rfl) ?_
  obtain ⟨r_1, x_2, qr_1, hf⟩ := bd_out hf
  refine rvV (As := [.int v1]) (rest := []) C hS ha0 rfl KX6_addItem (cX6_addItem_ ha0 qr_1) g_602 ⟨rfl, rfl⟩ ⟨(Nat.le_of_ble_eq_true rfl), (Nat.le_of_ble_eq_true rfl)⟩ hl.1 rfl rfl (Nat.le_of_ble_eq_true rfl) ⟨Nat.zero_le _, Nat.zero_le _⟩ dX6_addNumber_2 (fun H locs hS => ?_)
  refine lv_aload_n hx hb dX6_addNumber_5 rfl (lv_at hl 0 rfl) ?_
  refine lv_dup hx hb dX6_addNumber_6 rfl ?_
  refine gf5_2 C hS ha0 g_163 dX6_addNumber_7 ?_
  refine lv_iconst (v := 1) hx hb dX6_addNumber_10 (by decide) ?_
  refine lv_iadd hx hb dX6_addNumber_11 ?_
  obtain ⟨x_3, ex_3, hf⟩ := st_out hf
  refine pf5_2 C hS ha0 g_163 ex_3 dX6_addNumber_12 (fun H locs hS => ?_)
  exact rtV C hS (r := ()) hf dX6_addNumber_15
abbrev rmX5_number : Room := { frames := 2, cells := 0, slots := 0, locals := 42 }
set_option maxRecDepth 100000 in
set_option maxHeartbeats 4000000 in
theorem wbX5_number_h22 {p : Program} {l : Launch} {e : Env} {s : State} {m : MethodId} {args : Array Value} {below : List Frame} {meth : Method} {c : Code} {G : GT} {a1 : Nat} {r : Int32} {z : XS} (ha1 : tg a1 = 5) (C : CX G p s m args meth c cX5_number 4 (some .boolean) RX5) {k22 : Int32 → Int32 → XS → Option (Int32 × XS)} (hk22 : ∀ (u2 : Int32) (u3 : Int32) (x : XS), k22 u2 u3 x = some (r, z) → ∀ (H : Heap) (locs : List Loc) (ls : Array Slot), SR G x H locs → lv_has ls 4 [(0, .ref (G.1 + 2)), (1, .ref (G.1 + a1)), (2, .int u2), (3, .int u3)] → W p l e rmX5_number s m args below meth c H locs 0 0 (MQ below (QC G (some (.int r)) z) args s 0 0 (AB G)) (F0 m 22 ls [])) : ∀ (u2 : Int32) (u3 : Int32) (x : XS), bX5_number_h22 a1 k22 u2 u3 x = some (r, z) → ∀ (H : Heap) (locs : List Loc) (ls : Array Slot), SR G x H locs → lv_has ls 4 [(0, .ref (G.1 + 2)), (1, .ref (G.1 + a1)), (2, .int u2), (3, .int u3)] → W p l e rmX5_number s m args below meth c H locs 0 0 (MQ below (QC G (some (.int r)) z) args s 0 0 (AB G)) (F0 m 22 ls []) := by
  intro u2 u3 x hf H locs ls hS hl
  have hx := C.1
  have hb := C.2.1
  have hown := C.2.2.2.2.2.1
  have hw := C.2.2.2.2.2.2.1
  unfold bX5_number_h22 at hf
  refine lv_iload_n hx hb dX5_number_22 rfl (lv_at hl 3 rfl) ?_
  refine lv_aload_n hx hb dX5_number_23 rfl (lv_at hl 0 rfl) ?_
  refine gf4_5 C hS (rfl) g_39 dX5_number_24 ?_
  refine lv_icmp_ge (tgt := 51) hx hb dX5_number_27 (by decide) (fun c_3 => ?_) (fun c_3 => ?_)
  · replace hf := if_p c_3 hf
    refine lv_aload_n hx hb dX5_number_51 rfl (lv_at hl 1 rfl) ?_
    refine lv_iload_n hx hb dX5_number_52 rfl (lv_at hl 2 rfl) ?_
    obtain ⟨r_4, x_5, qr_4, hf⟩ := bd_out hf
    refine rvV (As := [.int u2]) (rest := []) C hS ha1 rfl KX6_addNumber (cX6_addNumber_ ha1 qr_4) g_598 ⟨rfl, rfl⟩ ⟨(Nat.le_of_ble_eq_true rfl), (Nat.le_of_ble_eq_true rfl)⟩ hl.1 rfl rfl (Nat.le_of_ble_eq_true rfl) ⟨Nat.zero_le _, Nat.zero_le _⟩ dX5_number_53 (fun H locs hS => ?_)
    refine lv_aload_n hx hb dX5_number_56 rfl (lv_at hl 0 rfl) ?_
    obtain ⟨r_6, x_7, qr_6, hf⟩ := bd_out hf
    refine rvV (As := []) (rest := []) C hS (rfl) rfl KX5_step (cX5_step_ qr_6) g_513 ⟨rfl, rfl⟩ ⟨(Nat.le_of_ble_eq_true rfl), (Nat.le_of_ble_eq_true rfl)⟩ hl.1 rfl rfl (Nat.le_of_ble_eq_true rfl) ⟨Nat.zero_le _, Nat.zero_le _⟩ dX5_number_57 (fun H locs hS => ?_)
    refine lv_iconst (v := 1) hx hb dX5_number_60 (by decide) ?_
    exact rtZ C hS rfl hf dX5_number_61
  · replace hf := if_n c_3 hf
    refine lv_bipush (v := 10) hx hb dX5_number_30 (by decide) ?_
    refine lv_iload_n hx hb dX5_number_32 rfl (lv_at hl 2 rfl) ?_
    refine lv_imul hx hb dX5_number_33 ?_
    refine lv_aload_n hx hb dX5_number_34 rfl (lv_at hl 0 rfl) ?_
    refine gf4_1 C hS (rfl) g_35 dX5_number_35 ?_
    refine lv_iload_n hx hb dX5_number_38 rfl (lv_at hl 3 rfl) ?_
    obtain ⟨gg_8, hf⟩ := gd_out hf
    refine alB C hS (rfl) rfl gg_8 dX5_number_39 ?_
    refine lv_iadd hx hb dX5_number_40 ?_
    refine lv_bipush (v := 48) hx hb dX5_number_41 (by decide) ?_
    refine lv_isub hx hb dX5_number_43 ?_
    obtain ⟨v_9, ev_9, hf⟩ := st_out hf
    refine topI ev_9 ?_
    refine lv_istore_n (lv' := [(2, .int v_9), (0, .ref (G.1 + 2)), (1, .ref (G.1 + a1)), (3, .int u3)]) hx hb dX5_number_44 rfl hl (by decide) rfl (fun ls hl => ?_)
    obtain ⟨v_10, ev_10, hf⟩ := st_out hf
    refine lv_iinc (v := v_10) (lv' := [(3, .int v_10), (2, .int v_9), (0, .ref (G.1 + 2)), (1, .ref (G.1 + a1))]) hx hb dX5_number_45 hl (k := 3) rfl (by rw [ev_10]; rfl) (by decide) rfl (fun ls hl => ?_)
    refine lv_goto (tgt := 22) hx hb dX5_number_48 (by decide) ?_
    exact hk22 v_9 v_10 x hf _ _ _ hS (lv_sub hl [2, 3, 1, 0] rfl)
theorem wlX5_number_h22 {p : Program} {l : Launch} {e : Env} {s : State} {m : MethodId} {args : Array Value} {below : List Frame} {meth : Method} {c : Code} {G : GT} {a1 : Nat} {r : Int32} {z : XS} (ha1 : tg a1 = 5) (C : CX G p s m args meth c cX5_number 4 (some .boolean) RX5) (n : Nat) : ∀ (u2 : Int32) (u3 : Int32) (x : XS), lX5_number_h22 a1 n u2 u3 x = some (r, z) → ∀ (H : Heap) (locs : List Loc) (ls : Array Slot), SR G x H locs → lv_has ls 4 [(0, .ref (G.1 + 2)), (1, .ref (G.1 + a1)), (2, .int u2), (3, .int u3)] → W p l e rmX5_number s m args below meth c H locs 0 0 (MQ below (QC G (some (.int r)) z) args s 0 0 (AB G)) (F0 m 22 ls []) := by
  induction n with
  | zero => intro u2 u3 x hf H locs ls hS hl; exact absurd hf (by intro q; cases q)
  | succ n ih => exact wbX5_number_h22 ha1 C ih
theorem wX5_number_h22 {p : Program} {l : Launch} {e : Env} {s : State} {m : MethodId} {args : Array Value} {below : List Frame} {meth : Method} {c : Code} {G : GT} {a1 : Nat} {r : Int32} {z : XS} (ha1 : tg a1 = 5) (C : CX G p s m args meth c cX5_number 4 (some .boolean) RX5) : ∀ (u2 : Int32) (u3 : Int32) (x : XS), fX5_number_h22 a1 u2 u3 x = some (r, z) → ∀ (H : Heap) (locs : List Loc) (ls : Array Slot), SR G x H locs → lv_has ls 4 [(0, .ref (G.1 + 2)), (1, .ref (G.1 + a1)), (2, .int u2), (3, .int u3)] → W p l e rmX5_number s m args below meth c H locs 0 0 (MQ below (QC G (some (.int r)) z) args s 0 0 (AB G)) (F0 m 22 ls []) := wlX5_number_h22 ha1 C FU
set_option maxRecDepth 100000 in
set_option maxHeartbeats 4000000 in
theorem cX5_number_ {G : GT} {l : Launch} {a1 : Nat} (ha1 : tg a1 = 5) {x z : XS} {r : Int32} (hf : fX5_number a1 x = some (r, z)) : Ct G l yX5_number (.code yX5_number cX5_number 4 (some .boolean)) rmX5_number [.ref (G.1 + 2), .ref (G.1 + a1)] x (some (.int r)) z := by
  refine Ct.of (by decide +kernel) (Nat.le_of_ble_eq_true rfl) ?_
  intro p e s m args below meth c C ls hl hS
  have C : CX G p s m args meth c cX5_number 4 (some .boolean) RX5 := C
  have hl : lv_has ls 4 [(0, .ref (G.1 + 2)), (1, .ref (G.1 + a1))] := hl
  have hx := C.1
  have hb := C.2.1
  have hown := C.2.2.2.2.2.1
  have hw := C.2.2.2.2.2.2.1
  unfold fX5_number at hf
  refine lv_aload_n hx hb dX5_number_0 rfl (lv_at hl 0 rfl) ?_
  refine gf4_5 C hS (rfl) g_39 dX5_number_1 ?_
  refine lv_aload_n hx hb dX5_number_4 rfl (lv_at hl 0 rfl) ?_
  refine gf4_4 C hS (rfl) g_38 dX5_number_5 ?_
  refine lv_isub hx hb dX5_number_8 ?_
  refine lv_iconst (v := 4) hx hb dX5_number_9 (by decide) ?_
  refine lv_icmp_le (tgt := 15) hx hb dX5_number_10 (by decide) (fun c_1 => ?_) (fun c_1 => ?_)
  · replace hf := if_p c_1 hf
    refine lv_iconst (v := 0) hx hb dX5_number_15 (by decide) ?_
    refine lv_istore_n (lv' := [(2, .int 0), (0, .ref (G.1 + 2)), (1, .ref (G.1 + a1))]) hx hb dX5_number_16 rfl hl (by decide) rfl (fun ls hl => ?_)
    refine lv_aload_n hx hb dX5_number_17 rfl (lv_at hl 1 rfl) ?_
    refine gf4_4 C hS (rfl) g_38 dX5_number_18 ?_
    obtain ⟨v_2, ev_2, hf⟩ := st_out hf
    refine topI ev_2 ?_
    refine lv_istore_n (lv' := [(3, .int v_2), (2, .int 0), (0, .ref (G.1 + 2)), (1, .ref (G.1 + a1))]) hx hb dX5_number_21 rfl hl (by decide) rfl (fun ls hl => ?_)
    exact wX5_number_h22  ha1 C 0 v_2 x hf _ _ _ hS (lv_sub hl [2, 3, 1, 0] rfl)
  · replace hf := if_n c_1 hf
    refine lv_iconst (v := 0) hx hb dX5_number_13 (by decide) ?_
    exact rtZ C hS rfl hf dX5_number_14
abbrev rmX6_namesOf : Room := { frames := 0, cells := 0, slots := 0, locals := 0 }
set_option maxRecDepth 100000 in
set_option maxHeartbeats 4000000 in
theorem cX6_namesOf_ {G : GT} {l : Launch} {v0 : Int32} {x z : XS} {r : Nat} (hf : fX6_namesOf v0 x = some (r, z)) : Ct G l yX6_namesOf (.code yX6_namesOf cX6_namesOf 1 (some (.object "java/lang/String"))) rmX6_namesOf [.int v0] x (some (.ref (G.2.2.2.2 (1 + r)))) z := by
  refine Ct.of (by decide +kernel) (Nat.le_of_ble_eq_true rfl) ?_
  intro p e s m args below meth c C ls hl hS
  have C : CX G p s m args meth c cX6_namesOf 1 (some (.object "java/lang/String")) RX6 := C
  have hl : lv_has ls 1 [(0, .int v0)] := hl
  have hx := C.1
  have hb := C.2.1
  have hown := C.2.2.2.2.2.1
  have hw := C.2.2.2.2.2.2.1
  unfold fX6_namesOf at hf
  refine lv_iload_n hx hb dX6_namesOf_0 rfl (lv_at hl 0 rfl) ?_
  by_cases c_1 : v0 = 0
  · replace hf := if_p c_1 hf
    refine lswI (k := 0) (off := 27) (tgt := 28) hx hb dX6_namesOf_1 (by decide) c_1 (by decide) (by decide) ?_
    refine ldS3 C dX6_namesOf_28 ?_
    exact rtS C hS hf dX6_namesOf_30
  · replace hf := if_n c_1 hf
    by_cases c_2 : v0 = 1
    · replace hf := if_p c_2 hf
      refine lswI (k := 1) (off := 30) (tgt := 31) hx hb dX6_namesOf_1 (by decide) c_2 (by decide) (by decide) ?_
      refine ldS4 C dX6_namesOf_31 ?_
      exact rtS C hS hf dX6_namesOf_33
    · replace hf := if_n c_2 hf
      refine lv_lookup (off := 33) (tgt := 34) hx hb dX6_namesOf_1 (by decide) ((lv_osw c_1 (by decide)).trans ((lv_osw c_2 (by decide)).trans rfl)) (by decide) ?_
      refine ldS5 C dX6_namesOf_34 ?_
      exact rtS C hS hf dX6_namesOf_36
abbrev rmX6_addName : Room := { frames := 4, cells := 0, slots := 0, locals := 126 }
set_option maxRecDepth 100000 in
set_option maxHeartbeats 4000000 in
theorem cX6_addName_ {G : GT} {l : Launch} {a0 : Nat} {v1 : Int32} (ha0 : tg a0 = 5) {x z : XS} {r : Int32} (hf : fX6_addName a0 v1 x = some (r, z)) : Ct G l yX6_addName (.code yX6_addName cX6_addName 3 (some .boolean)) rmX6_addName [.ref (G.1 + a0), .int v1] x (some (.int r)) z := by
  refine Ct.of (by decide +kernel) (Nat.le_of_ble_eq_true rfl) ?_
  intro p e s m args below meth c C ls hl hS
  have C : CX G p s m args meth c cX6_addName 3 (some .boolean) RX6 := C
  have hl : lv_has ls 3 [(0, .ref (G.1 + a0)), (1, .int v1)] := hl
  have hx := C.1
  have hb := C.2.1
  have hown := C.2.2.2.2.2.1
  have hw := C.2.2.2.2.2.2.1
  unfold fX6_addName at hf
  refine lv_aload_n hx hb dX6_addName_0 rfl (lv_at hl 0 rfl) ?_
  refine gf5_1 C hS ha0 g_160 dX6_addName_1 ?_
  obtain ⟨r_1, x_2, qr_1, hf⟩ := bd_out hf
  refine rsS (As := [.int (x a0 1)]) (rest := []) C hS KX6_namesOf (cX6_namesOf_ qr_1) g_614 ⟨rfl, rfl⟩ ⟨(Nat.le_of_ble_eq_true rfl), (Nat.le_of_ble_eq_true rfl)⟩ hl.1 rfl rfl (Nat.le_of_ble_eq_true rfl) ⟨Nat.zero_le _, Nat.zero_le _⟩ dX6_addName_4 (fun H locs hS => ?_)
  obtain ⟨gg_3, hf⟩ := gd_out hf
  refine lv_iload_n hx hb dX6_addName_7 rfl (lv_at hl 1 rfl) ?_
  obtain ⟨r_4, x_5, qr_4, hf⟩ := bd_out hf
  refine rzI (As := [.int v1]) (rest := []) C hS (of_decide_eq_true gg_3) KJ0_indexOf_0f7a4 (cJ0_indexOf_0f7a4_ (of_decide_eq_true gg_3) qr_4) g_620 ⟨rfl, rfl⟩ ⟨(Nat.le_of_ble_eq_true rfl), (Nat.le_of_ble_eq_true rfl)⟩ hl.1 rfl rfl (Nat.le_of_ble_eq_true rfl) ⟨Nat.zero_le _, Nat.zero_le _⟩ dX6_addName_8 (fun H locs hS => ?_)
  refine lv_istore_n (lv' := [(2, .int r_4), (0, .ref (G.1 + a0)), (1, .int v1)]) hx hb dX6_addName_11 rfl hl (by decide) rfl (fun ls hl => ?_)
  refine lv_iload_n hx hb dX6_addName_12 rfl (lv_at hl 0 rfl) ?_
  refine lv_if_ge (tgt := 18) hx hb dX6_addName_13 (by decide) (fun c_6 => ?_) (fun c_6 => ?_)
  · replace hf := if_p c_6 hf
    refine lv_aload_n hx hb dX6_addName_18 rfl (lv_at hl 1 rfl) ?_
    refine lv_iconst (v := (-1)) hx hb dX6_addName_19 (by decide) ?_
    refine lv_iload_n hx hb dX6_addName_20 rfl (lv_at hl 0 rfl) ?_
    refine lv_isub hx hb dX6_addName_21 ?_
    obtain ⟨r_7, x_8, qr_7, hf⟩ := bd_out hf
    refine rvV (As := [.int ((-1) - r_4)]) (rest := []) C hS ha0 rfl KX6_addItem (cX6_addItem_ ha0 qr_7) g_602 ⟨rfl, rfl⟩ ⟨(Nat.le_of_ble_eq_true rfl), (Nat.le_of_ble_eq_true rfl)⟩ hl.1 rfl rfl (Nat.le_of_ble_eq_true rfl) ⟨Nat.zero_le _, Nat.zero_le _⟩ dX6_addName_22 (fun H locs hS => ?_)
    refine lv_aload_n hx hb dX6_addName_25 rfl (lv_at hl 1 rfl) ?_
    refine lv_dup hx hb dX6_addName_26 rfl ?_
    refine gf5_2 C hS ha0 g_163 dX6_addName_27 ?_
    refine lv_iconst (v := 1) hx hb dX6_addName_30 (by decide) ?_
    refine lv_iadd hx hb dX6_addName_31 ?_
    obtain ⟨x_9, ex_9, hf⟩ := st_out hf
    refine pf5_2 C hS ha0 g_163 ex_9 dX6_addName_32 (fun H locs hS => ?_)
    refine lv_iconst (v := 1) hx hb dX6_addName_35 (by decide) ?_
    exact rtZ C hS rfl hf dX6_addName_36
  · replace hf := if_n c_6 hf
    refine lv_iconst (v := 0) hx hb dX6_addName_16 (by decide) ?_
    exact rtZ C hS rfl hf dX6_addName_17
abbrev rmX5_name : Room := { frames := 5, cells := 0, slots := 0, locals := 148 }
set_option maxRecDepth 100000 in
set_option maxHeartbeats 4000000 in
theorem cX5_name_ {G : GT} {l : Launch} {a1 : Nat} (ha1 : tg a1 = 5) {x z : XS} {r : Int32} (hf : fX5_name a1 x = some (r, z)) : Ct G l yX5_name (.code yX5_name cX5_name 2 (some .boolean)) rmX5_name [.ref (G.1 + 2), .ref (G.1 + a1)] x (some (.int r)) z := by
  refine Ct.of (by decide +kernel) (Nat.le_of_ble_eq_true rfl) ?_
  intro p e s m args below meth c C ls hl hS
  have C : CX G p s m args meth c cX5_name 2 (some .boolean) RX5 := C
  have hl : lv_has ls 2 [(0, .ref (G.1 + 2)), (1, .ref (G.1 + a1))] := hl
  have hx := C.1
  have hb := C.2.1
  have hown := C.2.2.2.2.2.1
  have hw := C.2.2.2.2.2.2.1
  unfold fX5_name at hf
  refine lv_aload_n hx hb dX5_name_0 rfl (lv_at hl 0 rfl) ?_
  refine gf4_5 C hS (rfl) g_39 dX5_name_1 ?_
  refine lv_aload_n hx hb dX5_name_4 rfl (lv_at hl 0 rfl) ?_
  refine gf4_4 C hS (rfl) g_38 dX5_name_5 ?_
  refine lv_isub hx hb dX5_name_8 ?_
  refine lv_iconst (v := 1) hx hb dX5_name_9 (by decide) ?_
  refine lv_icmp_ne (tgt := 30) hx hb dX5_name_10 (by decide) (fun c_1 => ?_) (fun c_1 => ?_)
  · replace hf := if_n c_1 hf
    refine lv_iconst (v := 0) hx hb dX5_name_30 (by decide) ?_
    exact rtZ C hS rfl hf dX5_name_31
  · replace hf := if_p c_1 hf
    refine lv_aload_n hx hb dX5_name_13 rfl (lv_at hl 1 rfl) ?_
    refine lv_aload_n hx hb dX5_name_14 rfl (lv_at hl 0 rfl) ?_
    refine gf4_1 C hS (rfl) g_35 dX5_name_15 ?_
    refine lv_aload_n hx hb dX5_name_18 rfl (lv_at hl 0 rfl) ?_
    refine gf4_4 C hS (rfl) g_38 dX5_name_19 ?_
    obtain ⟨gg_2, hf⟩ := gd_out hf
    refine alB C hS (rfl) rfl gg_2 dX5_name_22 ?_
    obtain ⟨v_3, ev_3, hf⟩ := st_out hf
    refine lv_i2c (v := v_3) hx hb dX5_name_23 ev_3.symm ?_
    obtain ⟨r_4, x_5, qr_4, hf⟩ := bd_out hf
    refine rvI (As := [.int v_3]) (rest := []) C hS ha1 rfl KX6_addName (cX6_addName_ ha1 qr_4) g_610 ⟨rfl, rfl⟩ ⟨(Nat.le_of_ble_eq_true rfl), (Nat.le_of_ble_eq_true rfl)⟩ hl.1 rfl rfl (Nat.le_of_ble_eq_true rfl) ⟨Nat.zero_le _, Nat.zero_le _⟩ dX5_name_24 (fun H locs hS => ?_)
    refine lv_if_ne (tgt := 32) hx hb dX5_name_27 (by decide) (fun c_6 => ?_) (fun c_6 => ?_)
    · replace hf := if_n c_6 hf
      refine lv_aload_n hx hb dX5_name_32 rfl (lv_at hl 0 rfl) ?_
      obtain ⟨r_7, x_8, qr_7, hf⟩ := bd_out hf
      refine rvV (As := []) (rest := []) C hS (rfl) rfl KX5_step (cX5_step_ qr_7) g_513 ⟨rfl, rfl⟩ ⟨(Nat.le_of_ble_eq_true rfl), (Nat.le_of_ble_eq_true rfl)⟩ hl.1 rfl rfl (Nat.le_of_ble_eq_true rfl) ⟨Nat.zero_le _, Nat.zero_le _⟩ dX5_name_33 (fun H locs hS => ?_)
      refine lv_iconst (v := 1) hx hb dX5_name_36 (by decide) ?_
      exact rtZ C hS rfl hf dX5_name_37
    · replace hf := if_p c_6 hf
      refine lv_iconst (v := 0) hx hb dX5_name_30 (by decide) ?_
      exact rtZ C hS rfl hf dX5_name_31
abbrev rmX5_sign : Room := { frames := 0, cells := 0, slots := 0, locals := 0 }
set_option maxRecDepth 100000 in
set_option maxHeartbeats 4000000 in
theorem cX5_sign_ {G : GT} {l : Launch} {x z : XS} {r : Int32} (hf : fX5_sign x = some (r, z)) : Ct G l yX5_sign (.code yX5_sign cX5_sign 1 (some .int)) rmX5_sign [.ref (G.1 + 2)] x (some (.int r)) z := by
  refine Ct.of (by decide +kernel) (Nat.le_of_ble_eq_true rfl) ?_
  intro p e s m args below meth c C ls hl hS
  have C : CX G p s m args meth c cX5_sign 1 (some .int) RX5 := C
  have hl : lv_has ls 1 [(0, .ref (G.1 + 2))] := hl
  have hx := C.1
  have hb := C.2.1
  have hown := C.2.2.2.2.2.1
  have hw := C.2.2.2.2.2.2.1
  unfold fX5_sign at hf
  refine lv_aload_n hx hb dX5_sign_0 rfl (lv_at hl 0 rfl) ?_
  refine gf4_4 C hS (rfl) g_38 dX5_sign_1 ?_
  refine lv_aload_n hx hb dX5_sign_4 rfl (lv_at hl 0 rfl) ?_
  refine gf4_2 C hS (rfl) g_36 dX5_sign_5 ?_
  refine lv_icmp_ge (tgt := 23) hx hb dX5_sign_8 (by decide) (fun c_1 => ?_) (fun c_1 => ?_)
  · replace hf := if_p c_1 hf
    refine lv_iconst (v := 0) hx hb dX5_sign_23 (by decide) ?_
    exact rtI C hS hf dX5_sign_24
  · replace hf := if_n c_1 hf
    refine lv_aload_n hx hb dX5_sign_11 rfl (lv_at hl 0 rfl) ?_
    refine gf4_1 C hS (rfl) g_35 dX5_sign_12 ?_
    refine lv_aload_n hx hb dX5_sign_15 rfl (lv_at hl 0 rfl) ?_
    refine gf4_4 C hS (rfl) g_38 dX5_sign_16 ?_
    obtain ⟨gg_2, hf⟩ := gd_out hf
    refine alB C hS (rfl) rfl gg_2 dX5_sign_19 ?_
    refine lv_goto (tgt := 24) hx hb dX5_sign_20 (by decide) ?_
    exact rtI C hS hf dX5_sign_24
abbrev rmX5_isSign : Room := { frames := 1, cells := 0, slots := 0, locals := 20 }
set_option maxRecDepth 100000 in
set_option maxHeartbeats 4000000 in
theorem cX5_isSign_ {G : GT} {l : Launch} {v1 : Int32} {x z : XS} {r : Int32} (hf : fX5_isSign v1 x = some (r, z)) : Ct G l yX5_isSign (.code yX5_isSign cX5_isSign 2 (some .boolean)) rmX5_isSign [.ref (G.1 + 2), .int v1] x (some (.int r)) z := by
  refine Ct.of (by decide +kernel) (Nat.le_of_ble_eq_true rfl) ?_
  intro p e s m args below meth c C ls hl hS
  have C : CX G p s m args meth c cX5_isSign 2 (some .boolean) RX5 := C
  have hl : lv_has ls 2 [(0, .ref (G.1 + 2)), (1, .int v1)] := hl
  have hx := C.1
  have hb := C.2.1
  have hown := C.2.2.2.2.2.1
  have hw := C.2.2.2.2.2.2.1
  unfold fX5_isSign at hf
  refine lv_aload_n hx hb dX5_isSign_0 rfl (lv_at hl 0 rfl) ?_
  refine gf4_3 C hS (rfl) g_37 dX5_isSign_1 ?_
  refine lv_iconst (v := 3) hx hb dX5_isSign_4 (by decide) ?_
  refine lv_icmp_ne (tgt := 20) hx hb dX5_isSign_5 (by decide) (fun c_1 => ?_) (fun c_1 => ?_)
  · replace hf := if_n c_1 hf
    refine lv_iconst (v := 0) hx hb dX5_isSign_20 (by decide) ?_
    exact rtZ C hS rfl hf dX5_isSign_21
  · replace hf := if_p c_1 hf
    refine lv_aload_n hx hb dX5_isSign_8 rfl (lv_at hl 0 rfl) ?_
    obtain ⟨r_2, x_3, qr_2, hf⟩ := bd_out hf
    refine rvI (As := []) (rest := []) C hS (rfl) rfl KX5_sign (cX5_sign_ qr_2) g_679 ⟨rfl, rfl⟩ ⟨(Nat.le_of_ble_eq_true rfl), (Nat.le_of_ble_eq_true rfl)⟩ hl.1 rfl rfl (Nat.le_of_ble_eq_true rfl) ⟨Nat.zero_le _, Nat.zero_le _⟩ dX5_isSign_9 (fun H locs hS => ?_)
    refine lv_iload_n hx hb dX5_isSign_12 rfl (lv_at hl 1 rfl) ?_
    refine lv_icmp_ne (tgt := 20) hx hb dX5_isSign_13 (by decide) (fun c_4 => ?_) (fun c_4 => ?_)
    · replace hf := if_n c_4 hf
      refine lv_iconst (v := 0) hx hb dX5_isSign_20 (by decide) ?_
      exact rtZ C hS rfl hf dX5_isSign_21
    · replace hf := if_p c_4 hf
      refine lv_iconst (v := 1) hx hb dX5_isSign_16 (by decide) ?_
      refine lv_goto (tgt := 21) hx hb dX5_isSign_17 (by decide) ?_
      exact rtZ C hS rfl hf dX5_isSign_21
abbrev rmX6_addSign : Room := { frames := 1, cells := 0, slots := 0, locals := 21 }
set_option maxRecDepth 100000 in
set_option maxHeartbeats 4000000 in
theorem cX6_addSign_ {G : GT} {l : Launch} {a0 : Nat} {v1 : Int32} (ha0 : tg a0 = 5) {x z : XS} {r : Unit} (hf : fX6_addSign a0 v1 x = some (r, z)) : Ct G l yX6_addSign (.code yX6_addSign cX6_addSign 2 none) rmX6_addSign [.ref (G.1 + a0), .int v1] x none z := by
  refine Ct.of (by decide +kernel) (Nat.le_of_ble_eq_true rfl) ?_
  intro p e s m args below meth c C ls hl hS
  have C : CX G p s m args meth c cX6_addSign 2 none RX6 := C
  have hl : lv_has ls 2 [(0, .ref (G.1 + a0)), (1, .int v1)] := hl
  have hx := C.1
  have hb := C.2.1
  have hown := C.2.2.2.2.2.1
  have hw := C.2.2.2.2.2.2.1
  unfold fX6_addSign at hf
  refine lv_aload_n hx hb dX6_addSign_0 rfl (lv_at hl 0 rfl) ?_
  refine lv_sipush (v := 10000) hx hb dX6_addSign_1 (by decide) ?_
  refine lv_iload_n hx hb dX6_addSign_4 rfl (lv_at hl 1 rfl) ?_
  refine lv_iadd hx hb dX6_addSign_5 ?_
  obtain ⟨r_1, x_2, qr_1, hf⟩ := bd_out hf
  refine rvV (As := [.int (10000 + v1)]) (rest := []) C hS ha0 rfl KX6_addItem (cX6_addItem_ ha0 qr_1) g_602 ⟨rfl, rfl⟩ ⟨(Nat.le_of_ble_eq_true rfl), (Nat.le_of_ble_eq_true rfl)⟩ hl.1 rfl rfl (Nat.le_of_ble_eq_true rfl) ⟨Nat.zero_le _, Nat.zero_le _⟩ dX6_addSign_6 (fun H locs hS => ?_)
  exact rtV C hS (r := ()) hf dX6_addSign_9
set_option maxRecDepth 100000 in
set_option maxHeartbeats 4000000 in
theorem wX5_piece_h69 {p : Program} {l : Launch} {e : Env} {s : State} {m : MethodId} {args : Array Value} {below : List Frame} {meth : Method} {c : Code} {G : GT} {dp : Nat} {fE : Nat → Int32 → Int32 → Int32 → XS → Option (Int32 × XS)} {fP : Nat → Int32 → Int32 → XS → Option (Int32 × XS)} {a1 : Nat} {r : Int32} {z : XS} (hE : ∀ {a1 : Nat} {v2 : Int32} {v3 : Int32} {v4 : Int32} {x z : XS} {r : Int32}, tg a1 = 5 → fE a1 v2 v3 v4 x = some (r, z) → Ct G l yX5_expression (.code yX5_expression cX5_expression 8 (some .boolean)) (rmEP dp) [.ref (G.1 + 2), .ref (G.1 + a1), .int v2, .int v3, .int v4] x (some (.int r)) z) (hP : ∀ {a1 : Nat} {v2 : Int32} {v3 : Int32} {x z : XS} {r : Int32}, tg a1 = 5 → fP a1 v2 v3 x = some (r, z) → Ct G l yX5_piece (.code yX5_piece cX5_piece 4 (some .boolean)) (rmEP dp) [.ref (G.1 + 2), .ref (G.1 + a1), .int v2, .int v3] x (some (.int r)) z) (ha1 : tg a1 = 5) (C : CX G p s m args meth c cX5_piece 4 (some .boolean) RX5) : ∀ (u2 : Int32) (u3 : Int32) (x : XS), fX5_piece_h69 fE fP a1 u2 u3 x = some (r, z) → ∀ (H : Heap) (locs : List Loc) (ls : Array Slot), SR G x H locs → lv_has ls 4 [(0, .ref (G.1 + 2)), (1, .ref (G.1 + a1)), (2, .int u2), (3, .int u3)] → W p l e (rmEP (dp + 1)) s m args below meth c H locs 0 0 (MQ below (QC G (some (.int r)) z) args s 0 0 (AB G)) (F0 m 69 ls []) := by
  intro u2 u3 x hf H locs ls hS hl
  have hx := C.1
  have hb := C.2.1
  have hown := C.2.2.2.2.2.1
  have hw := C.2.2.2.2.2.2.1
  unfold fX5_piece_h69 at hf
  refine lv_aload_n hx hb dX5_piece_69 rfl (lv_at hl 0 rfl) ?_
  refine lv_bipush (v := 40) hx hb dX5_piece_70 (by decide) ?_
  obtain ⟨r_20, x_21, qr_20, hf⟩ := bd_out hf
  refine rvI (As := [.int 40]) (rest := []) C hS (rfl) rfl KX5_isSign (cX5_isSign_ qr_20) g_675 ⟨rfl, rfl⟩ ⟨(rEP3 (by decide)), (rEP4 (by decide))⟩ hl.1 rfl rfl (Nat.le_of_ble_eq_true rfl) ⟨Nat.zero_le _, Nat.zero_le _⟩ dX5_piece_72 (fun H locs hS => ?_)
  refine lv_if_eq (tgt := 118) hx hb dX5_piece_75 (by decide) (fun c_22 => ?_) (fun c_22 => ?_)
  · replace hf := if_p c_22 hf
    refine lv_iconst (v := 0) hx hb dX5_piece_118 (by decide) ?_
    exact rtZ C hS rfl hf dX5_piece_119
  · replace hf := if_n c_22 hf
    refine lv_iload_n hx hb dX5_piece_78 rfl (lv_at hl 2 rfl) ?_
    refine lv_bipush (v := 8) hx hb dX5_piece_79 (by decide) ?_
    refine lv_icmp_ge (tgt := 118) hx hb dX5_piece_81 (by decide) (fun c_23 => ?_) (fun c_23 => ?_)
    · replace hf := if_p c_23 hf
      refine lv_iconst (v := 0) hx hb dX5_piece_118 (by decide) ?_
      exact rtZ C hS rfl hf dX5_piece_119
    · replace hf := if_n c_23 hf
      refine lv_aload_n hx hb dX5_piece_84 rfl (lv_at hl 0 rfl) ?_
      obtain ⟨r_24, x_25, qr_24, hf⟩ := bd_out hf
      refine rvV (As := []) (rest := []) C hS (rfl) rfl KX5_step (cX5_step_ qr_24) g_513 ⟨rfl, rfl⟩ ⟨(rEP3 (by decide)), (rEP4 (by decide))⟩ hl.1 rfl rfl (Nat.le_of_ble_eq_true rfl) ⟨Nat.zero_le _, Nat.zero_le _⟩ dX5_piece_85 (fun H locs hS => ?_)
      refine lv_aload_n hx hb dX5_piece_88 rfl (lv_at hl 0 rfl) ?_
      refine lv_aload_n hx hb dX5_piece_89 rfl (lv_at hl 1 rfl) ?_
      refine lv_iconst (v := 0) hx hb dX5_piece_90 (by decide) ?_
      refine lv_iload_n hx hb dX5_piece_91 rfl (lv_at hl 2 rfl) ?_
      refine lv_iconst (v := 1) hx hb dX5_piece_92 (by decide) ?_
      refine lv_iadd hx hb dX5_piece_93 ?_
      refine lv_iload_n hx hb dX5_piece_94 rfl (lv_at hl 3 rfl) ?_
      obtain ⟨r_26, x_27, qr_26, hf⟩ := bd_out hf
      refine rvI (As := [.ref (G.1 + a1), .int 0, .int (u2 + 1), .int u3]) (rest := []) C hS (rfl) rfl KX5_expression (hE ha1 qr_26) g_586 ⟨rfl, rfl⟩ ⟨(rEP1 dp), (rEP2 dp (by decide))⟩ hl.1 rfl rfl (Nat.le_of_ble_eq_true rfl) ⟨Nat.zero_le _, Nat.zero_le _⟩ dX5_piece_95 (fun H locs hS => ?_)
      refine lv_if_eq (tgt := 110) hx hb dX5_piece_98 (by decide) (fun c_28 => ?_) (fun c_28 => ?_)
      · replace hf := if_p c_28 hf
        refine lv_iconst (v := 0) hx hb dX5_piece_110 (by decide) ?_
        exact rtZ C hS rfl hf dX5_piece_111
      · replace hf := if_n c_28 hf
        refine lv_aload_n hx hb dX5_piece_101 rfl (lv_at hl 0 rfl) ?_
        refine lv_bipush (v := 41) hx hb dX5_piece_102 (by decide) ?_
        obtain ⟨r_29, x_30, qr_29, hf⟩ := bd_out hf
        refine rvI (As := [.int 41]) (rest := []) C hS (rfl) rfl KX5_isSign (cX5_isSign_ qr_29) g_675 ⟨rfl, rfl⟩ ⟨(rEP3 (by decide)), (rEP4 (by decide))⟩ hl.1 rfl rfl (Nat.le_of_ble_eq_true rfl) ⟨Nat.zero_le _, Nat.zero_le _⟩ dX5_piece_104 (fun H locs hS => ?_)
        refine lv_if_ne (tgt := 112) hx hb dX5_piece_107 (by decide) (fun c_31 => ?_) (fun c_31 => ?_)
        · replace hf := if_n c_31 hf
          refine lv_aload_n hx hb dX5_piece_112 rfl (lv_at hl 0 rfl) ?_
          obtain ⟨r_32, x_33, qr_32, hf⟩ := bd_out hf
          refine rvV (As := []) (rest := []) C hS (rfl) rfl KX5_step (cX5_step_ qr_32) g_513 ⟨rfl, rfl⟩ ⟨(rEP3 (by decide)), (rEP4 (by decide))⟩ hl.1 rfl rfl (Nat.le_of_ble_eq_true rfl) ⟨Nat.zero_le _, Nat.zero_le _⟩ dX5_piece_113 (fun H locs hS => ?_)
          refine lv_iconst (v := 1) hx hb dX5_piece_116 (by decide) ?_
          exact rtZ C hS rfl hf dX5_piece_117
        · replace hf := if_p c_31 hf
          refine lv_iconst (v := 0) hx hb dX5_piece_110 (by decide) ?_
          exact rtZ C hS rfl hf dX5_piece_111
set_option maxRecDepth 100000 in
set_option maxHeartbeats 4000000 in
theorem CX5_piece_ {G : GT} {l : Launch} {dp : Nat} {fE : Nat → Int32 → Int32 → Int32 → XS → Option (Int32 × XS)} {fP : Nat → Int32 → Int32 → XS → Option (Int32 × XS)} {a1 : Nat} {v2 : Int32} {v3 : Int32} (hE : ∀ {a1 : Nat} {v2 : Int32} {v3 : Int32} {v4 : Int32} {x z : XS} {r : Int32}, tg a1 = 5 → fE a1 v2 v3 v4 x = some (r, z) → Ct G l yX5_expression (.code yX5_expression cX5_expression 8 (some .boolean)) (rmEP dp) [.ref (G.1 + 2), .ref (G.1 + a1), .int v2, .int v3, .int v4] x (some (.int r)) z) (hP : ∀ {a1 : Nat} {v2 : Int32} {v3 : Int32} {x z : XS} {r : Int32}, tg a1 = 5 → fP a1 v2 v3 x = some (r, z) → Ct G l yX5_piece (.code yX5_piece cX5_piece 4 (some .boolean)) (rmEP dp) [.ref (G.1 + 2), .ref (G.1 + a1), .int v2, .int v3] x (some (.int r)) z) (ha1 : tg a1 = 5) {x z : XS} {r : Int32} (hf : FX5_piece fE fP a1 v2 v3 x = some (r, z)) : Ct G l yX5_piece (.code yX5_piece cX5_piece 4 (some .boolean)) (rmEP (dp + 1)) [.ref (G.1 + 2), .ref (G.1 + a1), .int v2, .int v3] x (some (.int r)) z := by
  refine Ct.of (by decide +kernel) (Nat.le_of_ble_eq_true rfl) ?_
  intro p e s m args below meth c C ls hl hS
  have C : CX G p s m args meth c cX5_piece 4 (some .boolean) RX5 := C
  have hl : lv_has ls 4 [(0, .ref (G.1 + 2)), (1, .ref (G.1 + a1)), (2, .int v2), (3, .int v3)] := hl
  have hx := C.1
  have hb := C.2.1
  have hown := C.2.2.2.2.2.1
  have hw := C.2.2.2.2.2.2.1
  unfold FX5_piece at hf
  refine lv_aload_n hx hb dX5_piece_0 rfl (lv_at hl 0 rfl) ?_
  refine gf4_3 C hS (rfl) g_37 dX5_piece_1 ?_
  refine lv_iconst (v := 2) hx hb dX5_piece_4 (by decide) ?_
  refine lv_icmp_ne (tgt := 14) hx hb dX5_piece_5 (by decide) (fun c_1 => ?_) (fun c_1 => ?_)
  · replace hf := if_n c_1 hf
    refine lv_aload_n hx hb dX5_piece_14 rfl (lv_at hl 0 rfl) ?_
    refine gf4_3 C hS (rfl) g_37 dX5_piece_15 ?_
    refine lv_iconst (v := 1) hx hb dX5_piece_18 (by decide) ?_
    refine lv_icmp_ne (tgt := 28) hx hb dX5_piece_19 (by decide) (fun c_2 => ?_) (fun c_2 => ?_)
    · replace hf := if_n c_2 hf
      refine lv_aload_n hx hb dX5_piece_28 rfl (lv_at hl 0 rfl) ?_
      refine lv_bipush (v := 33) hx hb dX5_piece_29 (by decide) ?_
      obtain ⟨r_3, x_4, qr_3, hf⟩ := bd_out hf
      refine rvI (As := [.int 33]) (rest := []) C hS (rfl) rfl KX5_isSign (cX5_isSign_ qr_3) g_675 ⟨rfl, rfl⟩ ⟨(rEP3 (by decide)), (rEP4 (by decide))⟩ hl.1 rfl rfl (Nat.le_of_ble_eq_true rfl) ⟨Nat.zero_le _, Nat.zero_le _⟩ dX5_piece_31 (fun H locs hS => ?_)
      refine lv_if_eq (tgt := 69) hx hb dX5_piece_34 (by decide) (fun c_5 => ?_) (fun c_5 => ?_)
      · replace hf := if_p c_5 hf
        exact wX5_piece_h69 hE hP ha1 C v2 v3 x_4 hf _ _ _ hS (lv_sub hl [0, 1, 2, 3] rfl)
      · replace hf := if_n c_5 hf
        refine lv_iload_n hx hb dX5_piece_37 rfl (lv_at hl 3 rfl) ?_
        refine lv_bipush (v := 8) hx hb dX5_piece_38 (by decide) ?_
        refine lv_icmp_ge (tgt := 69) hx hb dX5_piece_40 (by decide) (fun c_6 => ?_) (fun c_6 => ?_)
        · replace hf := if_p c_6 hf
          exact wX5_piece_h69 hE hP ha1 C v2 v3 x_4 hf _ _ _ hS (lv_sub hl [0, 1, 2, 3] rfl)
        · replace hf := if_n c_6 hf
          refine lv_aload_n hx hb dX5_piece_43 rfl (lv_at hl 0 rfl) ?_
          obtain ⟨r_7, x_8, qr_7, hf⟩ := bd_out hf
          refine rvV (As := []) (rest := []) C hS (rfl) rfl KX5_step (cX5_step_ qr_7) g_513 ⟨rfl, rfl⟩ ⟨(rEP3 (by decide)), (rEP4 (by decide))⟩ hl.1 rfl rfl (Nat.le_of_ble_eq_true rfl) ⟨Nat.zero_le _, Nat.zero_le _⟩ dX5_piece_44 (fun H locs hS => ?_)
          refine lv_aload_n hx hb dX5_piece_47 rfl (lv_at hl 0 rfl) ?_
          refine lv_aload_n hx hb dX5_piece_48 rfl (lv_at hl 1 rfl) ?_
          refine lv_iload_n hx hb dX5_piece_49 rfl (lv_at hl 2 rfl) ?_
          refine lv_iload_n hx hb dX5_piece_50 rfl (lv_at hl 3 rfl) ?_
          refine lv_iconst (v := 1) hx hb dX5_piece_51 (by decide) ?_
          refine lv_iadd hx hb dX5_piece_52 ?_
          obtain ⟨r_9, x_10, qr_9, hf⟩ := bd_out hf
          refine rvI (As := [.ref (G.1 + a1), .int v2, .int (v3 + 1)]) (rest := []) C hS (rfl) rfl KX5_piece (hP ha1 qr_9) g_590 ⟨rfl, rfl⟩ ⟨(rEP1 dp), (rEP2 dp (by decide))⟩ hl.1 rfl rfl (Nat.le_of_ble_eq_true rfl) ⟨Nat.zero_le _, Nat.zero_le _⟩ dX5_piece_53 (fun H locs hS => ?_)
          refine lv_if_ne (tgt := 61) hx hb dX5_piece_56 (by decide) (fun c_11 => ?_) (fun c_11 => ?_)
          · replace hf := if_n c_11 hf
            refine lv_aload_n hx hb dX5_piece_61 rfl (lv_at hl 1 rfl) ?_
            refine lv_bipush (v := 33) hx hb dX5_piece_62 (by decide) ?_
            obtain ⟨r_12, x_13, qr_12, hf⟩ := bd_out hf
            refine rvV (As := [.int 33]) (rest := []) C hS ha1 rfl KX6_addSign (cX6_addSign_ ha1 qr_12) g_683 ⟨rfl, rfl⟩ ⟨(rEP3 (by decide)), (rEP4 (by decide))⟩ hl.1 rfl rfl (Nat.le_of_ble_eq_true rfl) ⟨Nat.zero_le _, Nat.zero_le _⟩ dX5_piece_64 (fun H locs hS => ?_)
            refine lv_iconst (v := 1) hx hb dX5_piece_67 (by decide) ?_
            exact rtZ C hS rfl hf dX5_piece_68
          · replace hf := if_p c_11 hf
            refine lv_iconst (v := 0) hx hb dX5_piece_59 (by decide) ?_
            exact rtZ C hS rfl hf dX5_piece_60
    · replace hf := if_p c_2 hf
      refine lv_aload_n hx hb dX5_piece_22 rfl (lv_at hl 0 rfl) ?_
      refine lv_aload_n hx hb dX5_piece_23 rfl (lv_at hl 1 rfl) ?_
      obtain ⟨r_14, x_15, qr_14, hf⟩ := bd_out hf
      refine rvI (As := [.ref (G.1 + a1)]) (rest := []) C hS (rfl) rfl KX5_name (cX5_name_ ha1 qr_14) g_606 ⟨rfl, rfl⟩ ⟨(rEP3 (by decide)), (rEP4 (by decide))⟩ hl.1 rfl rfl (Nat.le_of_ble_eq_true rfl) ⟨Nat.zero_le _, Nat.zero_le _⟩ dX5_piece_24 (fun H locs hS => ?_)
      obtain ⟨gg_16, hf⟩ := gd_out hf
      exact rtZ C hS (isB_n gg_16) hf dX5_piece_27
  · replace hf := if_p c_1 hf
    refine lv_aload_n hx hb dX5_piece_8 rfl (lv_at hl 0 rfl) ?_
    refine lv_aload_n hx hb dX5_piece_9 rfl (lv_at hl 1 rfl) ?_
    obtain ⟨r_17, x_18, qr_17, hf⟩ := bd_out hf
    refine rvI (As := [.ref (G.1 + a1)]) (rest := []) C hS (rfl) rfl KX5_number (cX5_number_ ha1 qr_17) g_594 ⟨rfl, rfl⟩ ⟨(rEP3 (by decide)), (rEP4 (by decide))⟩ hl.1 rfl rfl (Nat.le_of_ble_eq_true rfl) ⟨Nat.zero_le _, Nat.zero_le _⟩ dX5_piece_10 (fun H locs hS => ?_)
    obtain ⟨gg_19, hf⟩ := gd_out hf
    exact rtZ C hS (isB_n gg_19) hf dX5_piece_13
abbrev rmX5_levelOf : Room := { frames := 0, cells := 0, slots := 0, locals := 0 }
set_option maxRecDepth 100000 in
set_option maxHeartbeats 4000000 in
theorem cX5_levelOf_ {G : GT} {l : Launch} {v0 : Int32} {x z : XS} {r : Int32} (hf : fX5_levelOf v0 x = some (r, z)) : Ct G l yX5_levelOf (.code yX5_levelOf cX5_levelOf 1 (some .int)) rmX5_levelOf [.int v0] x (some (.int r)) z := by
  refine Ct.of (by decide +kernel) (Nat.le_of_ble_eq_true rfl) ?_
  intro p e s m args below meth c C ls hl hS
  have C : CX G p s m args meth c cX5_levelOf 1 (some .int) RX5 := C
  have hl : lv_has ls 1 [(0, .int v0)] := hl
  have hx := C.1
  have hb := C.2.1
  have hown := C.2.2.2.2.2.1
  have hw := C.2.2.2.2.2.2.1
  unfold fX5_levelOf at hf
  refine lv_iload_n hx hb dX5_levelOf_0 rfl (lv_at hl 0 rfl) ?_
  by_cases c_1 : v0 = 38
  · replace hf := if_p c_1 hf
    refine lswI (k := 38) (off := 85) (tgt := 86) hx hb dX5_levelOf_1 (by decide) c_1 (by decide) (by decide) ?_
    refine lv_iconst (v := 1) hx hb dX5_levelOf_86 (by decide) ?_
    exact rtI C hS hf dX5_levelOf_87
  · replace hf := if_n c_1 hf
    by_cases c_2 : v0 = 42
    · replace hf := if_p c_2 hf
      refine lswI (k := 42) (off := 91) (tgt := 92) hx hb dX5_levelOf_1 (by decide) c_2 (by decide) (by decide) ?_
      refine lv_iconst (v := 4) hx hb dX5_levelOf_92 (by decide) ?_
      exact rtI C hS hf dX5_levelOf_93
    · replace hf := if_n c_2 hf
      by_cases c_3 : v0 = 43
      · replace hf := if_p c_3 hf
        refine lswI (k := 43) (off := 89) (tgt := 90) hx hb dX5_levelOf_1 (by decide) c_3 (by decide) (by decide) ?_
        refine lv_iconst (v := 3) hx hb dX5_levelOf_90 (by decide) ?_
        exact rtI C hS hf dX5_levelOf_91
      · replace hf := if_n c_3 hf
        by_cases c_4 : v0 = 45
        · replace hf := if_p c_4 hf
          refine lswI (k := 45) (off := 89) (tgt := 90) hx hb dX5_levelOf_1 (by decide) c_4 (by decide) (by decide) ?_
          refine lv_iconst (v := 3) hx hb dX5_levelOf_90 (by decide) ?_
          exact rtI C hS hf dX5_levelOf_91
        · replace hf := if_n c_4 hf
          by_cases c_5 : v0 = 47
          · replace hf := if_p c_5 hf
            refine lswI (k := 47) (off := 91) (tgt := 92) hx hb dX5_levelOf_1 (by decide) c_5 (by decide) (by decide) ?_
            refine lv_iconst (v := 4) hx hb dX5_levelOf_92 (by decide) ?_
            exact rtI C hS hf dX5_levelOf_93
          · replace hf := if_n c_5 hf
            by_cases c_6 : v0 = 60
            · replace hf := if_p c_6 hf
              refine lswI (k := 60) (off := 87) (tgt := 88) hx hb dX5_levelOf_1 (by decide) c_6 (by decide) (by decide) ?_
              refine lv_iconst (v := 2) hx hb dX5_levelOf_88 (by decide) ?_
              exact rtI C hS hf dX5_levelOf_89
            · replace hf := if_n c_6 hf
              by_cases c_7 : v0 = 61
              · replace hf := if_p c_7 hf
                refine lswI (k := 61) (off := 87) (tgt := 88) hx hb dX5_levelOf_1 (by decide) c_7 (by decide) (by decide) ?_
                refine lv_iconst (v := 2) hx hb dX5_levelOf_88 (by decide) ?_
                exact rtI C hS hf dX5_levelOf_89
              · replace hf := if_n c_7 hf
                by_cases c_8 : v0 = 62
                · replace hf := if_p c_8 hf
                  refine lswI (k := 62) (off := 87) (tgt := 88) hx hb dX5_levelOf_1 (by decide) c_8 (by decide) (by decide) ?_
                  refine lv_iconst (v := 2) hx hb dX5_levelOf_88 (by decide) ?_
                  exact rtI C hS hf dX5_levelOf_89
                · replace hf := if_n c_8 hf
                  by_cases c_9 : v0 = 124
                  · replace hf := if_p c_9 hf
                    refine lswI (k := 124) (off := 83) (tgt := 84) hx hb dX5_levelOf_1 (by decide) c_9 (by decide) (by decide) ?_
                    refine lv_iconst (v := 0) hx hb dX5_levelOf_84 (by decide) ?_
                    exact rtI C hS hf dX5_levelOf_85
                  · replace hf := if_n c_9 hf
                    refine lv_lookup (off := 93) (tgt := 94) hx hb dX5_levelOf_1 (by decide) ((lv_osw c_1 (by decide)).trans ((lv_osw c_2 (by decide)).trans ((lv_osw c_3 (by decide)).trans ((lv_osw c_4 (by decide)).trans ((lv_osw c_5 (by decide)).trans ((lv_osw c_6 (by decide)).trans ((lv_osw c_7 (by decide)).trans ((lv_osw c_8 (by decide)).trans ((lv_osw c_9 (by decide)).trans rfl))))))))) (by decide) ?_
                    refine lv_iconst (v := (-1)) hx hb dX5_levelOf_94 (by decide) ?_
                    exact rtI C hS hf dX5_levelOf_95
set_option maxRecDepth 100000 in
set_option maxHeartbeats 4000000 in
theorem wbX5_expression_h46 {p : Program} {l : Launch} {e : Env} {s : State} {m : MethodId} {args : Array Value} {below : List Frame} {meth : Method} {c : Code} {G : GT} {dp : Nat} {fE : Nat → Int32 → Int32 → Int32 → XS → Option (Int32 × XS)} {fP : Nat → Int32 → Int32 → XS → Option (Int32 × XS)} {a1 : Nat} {r : Int32} {z : XS} (hE : ∀ {a1 : Nat} {v2 : Int32} {v3 : Int32} {v4 : Int32} {x z : XS} {r : Int32}, tg a1 = 5 → fE a1 v2 v3 v4 x = some (r, z) → Ct G l yX5_expression (.code yX5_expression cX5_expression 8 (some .boolean)) (rmEP dp) [.ref (G.1 + 2), .ref (G.1 + a1), .int v2, .int v3, .int v4] x (some (.int r)) z) (hP : ∀ {a1 : Nat} {v2 : Int32} {v3 : Int32} {x z : XS} {r : Int32}, tg a1 = 5 → fP a1 v2 v3 x = some (r, z) → Ct G l yX5_piece (.code yX5_piece cX5_piece 4 (some .boolean)) (rmEP dp) [.ref (G.1 + 2), .ref (G.1 + a1), .int v2, .int v3] x (some (.int r)) z) (ha1 : tg a1 = 5) (C : CX G p s m args meth c cX5_expression 8 (some .boolean) RX5) {k46 : Int32 → Int32 → Int32 → Int32 → Int32 → XS → Option (Int32 × XS)} (hk46 : ∀ (u2 : Int32) (u3 : Int32) (u4 : Int32) (u5 : Int32) (u6 : Int32) (x : XS), k46 u2 u3 u4 u5 u6 x = some (r, z) → ∀ (H : Heap) (locs : List Loc) (ls : Array Slot), SR G x H locs → lv_has ls 8 [(0, .ref (G.1 + 2)), (1, .ref (G.1 + a1)), (2, .int u2), (3, .int u3), (4, .int u4), (5, .int u5), (6, .int u6)] → W p l e (rmEP (dp + 1)) s m args below meth c H locs 0 0 (MQ below (QC G (some (.int r)) z) args s 0 0 (AB G)) (F0 m 46 ls [])) : ∀ (u2 : Int32) (u3 : Int32) (u4 : Int32) (u5 : Int32) (u6 : Int32) (x : XS), bX5_expression_h46 fE fP a1 k46 u2 u3 u4 u5 u6 x = some (r, z) → ∀ (H : Heap) (locs : List Loc) (ls : Array Slot), SR G x H locs → lv_has ls 8 [(0, .ref (G.1 + 2)), (1, .ref (G.1 + a1)), (2, .int u2), (3, .int u3), (4, .int u4), (5, .int u5), (6, .int u6)] → W p l e (rmEP (dp + 1)) s m args below meth c H locs 0 0 (MQ below (QC G (some (.int r)) z) args s 0 0 (AB G)) (F0 m 46 ls []) := by
  intro u2 u3 u4 u5 u6 x hf H locs ls hS hl
  have hx := C.1
  have hb := C.2.1
  have hown := C.2.2.2.2.2.1
  have hw := C.2.2.2.2.2.2.1
  unfold bX5_expression_h46 at hf
  refine lv_iload hx hb dX5_expression_46 (lv_at hl 6 rfl) ?_
  refine lv_iload hx hb dX5_expression_48 (lv_at hl 5 rfl) ?_
  refine lv_icmp_ge (tgt := 110) hx hb dX5_expression_50 (by decide) (fun c_9 => ?_) (fun c_9 => ?_)
  · replace hf := if_p c_9 hf
    refine lv_iconst (v := 1) hx hb dX5_expression_110 (by decide) ?_
    exact rtZ C hS rfl hf dX5_expression_111
  · replace hf := if_n c_9 hf
    refine lv_aload_n hx hb dX5_expression_53 rfl (lv_at hl 0 rfl) ?_
    refine gf4_3 C hS (rfl) g_37 dX5_expression_54 ?_
    refine lv_iconst (v := 3) hx hb dX5_expression_57 (by decide) ?_
    refine lv_icmp_ne (tgt := 110) hx hb dX5_expression_58 (by decide) (fun c_10 => ?_) (fun c_10 => ?_)
    · replace hf := if_n c_10 hf
      refine lv_iconst (v := 1) hx hb dX5_expression_110 (by decide) ?_
      exact rtZ C hS rfl hf dX5_expression_111
    · replace hf := if_p c_10 hf
      refine lv_aload_n hx hb dX5_expression_61 rfl (lv_at hl 0 rfl) ?_
      obtain ⟨r_11, x_12, qr_11, hf⟩ := bd_out hf
      refine rvI (As := []) (rest := []) C hS (rfl) rfl KX5_sign (cX5_sign_ qr_11) g_679 ⟨rfl, rfl⟩ ⟨(rEP3 (by decide)), (rEP4 (by decide))⟩ hl.1 rfl rfl (Nat.le_of_ble_eq_true rfl) ⟨Nat.zero_le _, Nat.zero_le _⟩ dX5_expression_62 (fun H locs hS => ?_)
      obtain ⟨r_13, x_14, qr_13, hf⟩ := bd_out hf
      refine rsI (As := [.int r_11]) (rest := []) C hS KX5_levelOf (cX5_levelOf_ qr_13) g_687 ⟨rfl, rfl⟩ ⟨(rEP3 (by decide)), (rEP4 (by decide))⟩ hl.1 rfl rfl (Nat.le_of_ble_eq_true rfl) ⟨Nat.zero_le _, Nat.zero_le _⟩ dX5_expression_65 (fun H locs hS => ?_)
      refine lv_iload_n hx hb dX5_expression_68 rfl (lv_at hl 2 rfl) ?_
      refine lv_icmp_ne (tgt := 110) hx hb dX5_expression_69 (by decide) (fun c_15 => ?_) (fun c_15 => ?_)
      · replace hf := if_n c_15 hf
        refine lv_iconst (v := 1) hx hb dX5_expression_110 (by decide) ?_
        exact rtZ C hS rfl hf dX5_expression_111
      · replace hf := if_p c_15 hf
        refine lv_aload_n hx hb dX5_expression_72 rfl (lv_at hl 0 rfl) ?_
        obtain ⟨r_16, x_17, qr_16, hf⟩ := bd_out hf
        refine rvI (As := []) (rest := []) C hS (rfl) rfl KX5_sign (cX5_sign_ qr_16) g_679 ⟨rfl, rfl⟩ ⟨(rEP3 (by decide)), (rEP4 (by decide))⟩ hl.1 rfl rfl (Nat.le_of_ble_eq_true rfl) ⟨Nat.zero_le _, Nat.zero_le _⟩ dX5_expression_73 (fun H locs hS => ?_)
        refine lv_istore (lv' := [(7, .int r_16), (0, .ref (G.1 + 2)), (1, .ref (G.1 + a1)), (2, .int u2), (3, .int u3), (4, .int u4), (5, .int u5), (6, .int u6)]) hx hb dX5_expression_76 hl (by decide) rfl (fun ls hl => ?_)
        refine lv_aload_n hx hb dX5_expression_78 rfl (lv_at hl 1 rfl) ?_
        obtain ⟨r_18, x_19, qr_18, hf⟩ := bd_out hf
        refine rvV (As := []) (rest := []) C hS (rfl) rfl KX5_step (cX5_step_ qr_18) g_513 ⟨rfl, rfl⟩ ⟨(rEP3 (by decide)), (rEP4 (by decide))⟩ hl.1 rfl rfl (Nat.le_of_ble_eq_true rfl) ⟨Nat.zero_le _, Nat.zero_le _⟩ dX5_expression_79 (fun H locs hS => ?_)
        refine lv_aload_n hx hb dX5_expression_82 rfl (lv_at hl 1 rfl) ?_
        refine lv_aload_n hx hb dX5_expression_83 rfl (lv_at hl 2 rfl) ?_
        refine lv_iload_n hx hb dX5_expression_84 rfl (lv_at hl 3 rfl) ?_
        refine lv_iconst (v := 1) hx hb dX5_expression_85 (by decide) ?_
        refine lv_iadd hx hb dX5_expression_86 ?_
        refine lv_iload_n hx hb dX5_expression_87 rfl (lv_at hl 4 rfl) ?_
        refine lv_iload hx hb dX5_expression_88 (lv_at hl 5 rfl) ?_
        obtain ⟨r_20, x_21, qr_20, hf⟩ := bd_out hf
        refine rvI (As := [.ref (G.1 + a1), .int (u2 + 1), .int u3, .int u4]) (rest := []) C hS (rfl) rfl KX5_expression (hE ha1 qr_20) g_586 ⟨rfl, rfl⟩ ⟨(rEP1 dp), (rEP2 dp (by decide))⟩ hl.1 rfl rfl (Nat.le_of_ble_eq_true rfl) ⟨Nat.zero_le _, Nat.zero_le _⟩ dX5_expression_90 (fun H locs hS => ?_)
        refine lv_if_ne (tgt := 98) hx hb dX5_expression_93 (by decide) (fun c_22 => ?_) (fun c_22 => ?_)
        · replace hf := if_n c_22 hf
          refine lv_aload_n hx hb dX5_expression_98 rfl (lv_at hl 2 rfl) ?_
          refine lv_iload hx hb dX5_expression_99 (lv_at hl 0 rfl) ?_
          obtain ⟨r_23, x_24, qr_23, hf⟩ := bd_out hf
          refine rvV (As := [.int r_16]) (rest := []) C hS ha1 rfl KX6_addSign (cX6_addSign_ ha1 qr_23) g_683 ⟨rfl, rfl⟩ ⟨(rEP3 (by decide)), (rEP4 (by decide))⟩ hl.1 rfl rfl (Nat.le_of_ble_eq_true rfl) ⟨Nat.zero_le _, Nat.zero_le _⟩ dX5_expression_101 (fun H locs hS => ?_)
          obtain ⟨v_25, ev_25, hf⟩ := st_out hf
          refine lv_iinc (v := v_25) (lv' := [(6, .int v_25), (7, .int r_16), (0, .ref (G.1 + 2)), (1, .ref (G.1 + a1)), (2, .int u2), (3, .int u3), (4, .int u4), (5, .int u5)]) hx hb dX5_expression_104 hl (k := 7) rfl (by rw [ev_25]; rfl) (by decide) rfl (fun ls hl => ?_)
          refine lv_goto (tgt := 46) hx hb dX5_expression_107 (by decide) ?_
          exact hk46 u2 u3 u4 u5 v_25 x_24 hf _ _ _ hS (lv_sub hl [2, 3, 4, 5, 6, 7, 0] rfl)
        · replace hf := if_p c_22 hf
          refine lv_iconst (v := 0) hx hb dX5_expression_96 (by decide) ?_
          exact rtZ C hS rfl hf dX5_expression_97
theorem wlX5_expression_h46 {p : Program} {l : Launch} {e : Env} {s : State} {m : MethodId} {args : Array Value} {below : List Frame} {meth : Method} {c : Code} {G : GT} {dp : Nat} {fE : Nat → Int32 → Int32 → Int32 → XS → Option (Int32 × XS)} {fP : Nat → Int32 → Int32 → XS → Option (Int32 × XS)} {a1 : Nat} {r : Int32} {z : XS} (hE : ∀ {a1 : Nat} {v2 : Int32} {v3 : Int32} {v4 : Int32} {x z : XS} {r : Int32}, tg a1 = 5 → fE a1 v2 v3 v4 x = some (r, z) → Ct G l yX5_expression (.code yX5_expression cX5_expression 8 (some .boolean)) (rmEP dp) [.ref (G.1 + 2), .ref (G.1 + a1), .int v2, .int v3, .int v4] x (some (.int r)) z) (hP : ∀ {a1 : Nat} {v2 : Int32} {v3 : Int32} {x z : XS} {r : Int32}, tg a1 = 5 → fP a1 v2 v3 x = some (r, z) → Ct G l yX5_piece (.code yX5_piece cX5_piece 4 (some .boolean)) (rmEP dp) [.ref (G.1 + 2), .ref (G.1 + a1), .int v2, .int v3] x (some (.int r)) z) (ha1 : tg a1 = 5) (C : CX G p s m args meth c cX5_expression 8 (some .boolean) RX5) (n : Nat) : ∀ (u2 : Int32) (u3 : Int32) (u4 : Int32) (u5 : Int32) (u6 : Int32) (x : XS), lX5_expression_h46 fE fP a1 n u2 u3 u4 u5 u6 x = some (r, z) → ∀ (H : Heap) (locs : List Loc) (ls : Array Slot), SR G x H locs → lv_has ls 8 [(0, .ref (G.1 + 2)), (1, .ref (G.1 + a1)), (2, .int u2), (3, .int u3), (4, .int u4), (5, .int u5), (6, .int u6)] → W p l e (rmEP (dp + 1)) s m args below meth c H locs 0 0 (MQ below (QC G (some (.int r)) z) args s 0 0 (AB G)) (F0 m 46 ls []) := by
  induction n with
  | zero => intro u2 u3 u4 u5 u6 x hf H locs ls hS hl; exact absurd hf (by intro q; cases q)
  | succ n ih => exact wbX5_expression_h46 hE hP ha1 C ih
theorem wX5_expression_h46 {p : Program} {l : Launch} {e : Env} {s : State} {m : MethodId} {args : Array Value} {below : List Frame} {meth : Method} {c : Code} {G : GT} {dp : Nat} {fE : Nat → Int32 → Int32 → Int32 → XS → Option (Int32 × XS)} {fP : Nat → Int32 → Int32 → XS → Option (Int32 × XS)} {a1 : Nat} {r : Int32} {z : XS} (hE : ∀ {a1 : Nat} {v2 : Int32} {v3 : Int32} {v4 : Int32} {x z : XS} {r : Int32}, tg a1 = 5 → fE a1 v2 v3 v4 x = some (r, z) → Ct G l yX5_expression (.code yX5_expression cX5_expression 8 (some .boolean)) (rmEP dp) [.ref (G.1 + 2), .ref (G.1 + a1), .int v2, .int v3, .int v4] x (some (.int r)) z) (hP : ∀ {a1 : Nat} {v2 : Int32} {v3 : Int32} {x z : XS} {r : Int32}, tg a1 = 5 → fP a1 v2 v3 x = some (r, z) → Ct G l yX5_piece (.code yX5_piece cX5_piece 4 (some .boolean)) (rmEP dp) [.ref (G.1 + 2), .ref (G.1 + a1), .int v2, .int v3] x (some (.int r)) z) (ha1 : tg a1 = 5) (C : CX G p s m args meth c cX5_expression 8 (some .boolean) RX5) : ∀ (u2 : Int32) (u3 : Int32) (u4 : Int32) (u5 : Int32) (u6 : Int32) (x : XS), fX5_expression_h46 fE fP a1 u2 u3 u4 u5 u6 x = some (r, z) → ∀ (H : Heap) (locs : List Loc) (ls : Array Slot), SR G x H locs → lv_has ls 8 [(0, .ref (G.1 + 2)), (1, .ref (G.1 + a1)), (2, .int u2), (3, .int u3), (4, .int u4), (5, .int u5), (6, .int u6)] → W p l e (rmEP (dp + 1)) s m args below meth c H locs 0 0 (MQ below (QC G (some (.int r)) z) args s 0 0 (AB G)) (F0 m 46 ls []) := wlX5_expression_h46 hE hP ha1 C FU
set_option maxRecDepth 100000 in
set_option maxHeartbeats 4000000 in
theorem CX5_expression_ {G : GT} {l : Launch} {dp : Nat} {fE : Nat → Int32 → Int32 → Int32 → XS → Option (Int32 × XS)} {fP : Nat → Int32 → Int32 → XS → Option (Int32 × XS)} {a1 : Nat} {v2 : Int32} {v3 : Int32} {v4 : Int32} (hE : ∀ {a1 : Nat} {v2 : Int32} {v3 : Int32} {v4 : Int32} {x z : XS} {r : Int32}, tg a1 = 5 → fE a1 v2 v3 v4 x = some (r, z) → Ct G l yX5_expression (.code yX5_expression cX5_expression 8 (some .boolean)) (rmEP dp) [.ref (G.1 + 2), .ref (G.1 + a1), .int v2, .int v3, .int v4] x (some (.int r)) z) (hP : ∀ {a1 : Nat} {v2 : Int32} {v3 : Int32} {x z : XS} {r : Int32}, tg a1 = 5 → fP a1 v2 v3 x = some (r, z) → Ct G l yX5_piece (.code yX5_piece cX5_piece 4 (some .boolean)) (rmEP dp) [.ref (G.1 + 2), .ref (G.1 + a1), .int v2, .int v3] x (some (.int r)) z) (ha1 : tg a1 = 5) {x z : XS} {r : Int32} (hf : FX5_expression fE fP a1 v2 v3 v4 x = some (r, z)) : Ct G l yX5_expression (.code yX5_expression cX5_expression 8 (some .boolean)) (rmEP (dp + 1)) [.ref (G.1 + 2), .ref (G.1 + a1), .int v2, .int v3, .int v4] x (some (.int r)) z := by
  refine Ct.of (by decide +kernel) (Nat.le_of_ble_eq_true rfl) ?_
  intro p e s m args below meth c C ls hl hS
  have C : CX G p s m args meth c cX5_expression 8 (some .boolean) RX5 := C
  have hl : lv_has ls 8 [(0, .ref (G.1 + 2)), (1, .ref (G.1 + a1)), (2, .int v2), (3, .int v3), (4, .int v4)] := hl
  have hx := C.1
  have hb := C.2.1
  have hown := C.2.2.2.2.2.1
  have hw := C.2.2.2.2.2.2.1
  unfold FX5_expression at hf
  refine lv_iload_n hx hb dX5_expression_0 rfl (lv_at hl 2 rfl) ?_
  refine lv_iconst (v := 4) hx hb dX5_expression_1 (by decide) ?_
  refine lv_icmp_le (tgt := 14) hx hb dX5_expression_2 (by decide) (fun c_1 => ?_) (fun c_1 => ?_)
  · replace hf := if_p c_1 hf
    refine lv_aload_n hx hb dX5_expression_14 rfl (lv_at hl 0 rfl) ?_
    refine lv_aload_n hx hb dX5_expression_15 rfl (lv_at hl 1 rfl) ?_
    refine lv_iload_n hx hb dX5_expression_16 rfl (lv_at hl 2 rfl) ?_
    refine lv_iconst (v := 1) hx hb dX5_expression_17 (by decide) ?_
    refine lv_iadd hx hb dX5_expression_18 ?_
    refine lv_iload_n hx hb dX5_expression_19 rfl (lv_at hl 3 rfl) ?_
    refine lv_iload hx hb dX5_expression_20 (lv_at hl 4 rfl) ?_
    obtain ⟨r_2, x_3, qr_2, hf⟩ := bd_out hf
    refine rvI (As := [.ref (G.1 + a1), .int (v2 + 1), .int v3, .int v4]) (rest := []) C hS (rfl) rfl KX5_expression (hE ha1 qr_2) g_586 ⟨rfl, rfl⟩ ⟨(rEP1 dp), (rEP2 dp (by decide))⟩ hl.1 rfl rfl (Nat.le_of_ble_eq_true rfl) ⟨Nat.zero_le _, Nat.zero_le _⟩ dX5_expression_22 (fun H locs hS => ?_)
    refine lv_if_ne (tgt := 30) hx hb dX5_expression_25 (by decide) (fun c_4 => ?_) (fun c_4 => ?_)
    · replace hf := if_n c_4 hf
      refine lv_iload_n hx hb dX5_expression_30 rfl (lv_at hl 2 rfl) ?_
      refine lv_iconst (v := 2) hx hb dX5_expression_31 (by decide) ?_
      refine lv_icmp_ne (tgt := 39) hx hb dX5_expression_32 (by decide) (fun c_5 => ?_) (fun c_5 => ?_)
      · replace hf := if_n c_5 hf
        refine lv_bipush (v := 96) hx hb dX5_expression_39 (by decide) ?_
        refine lv_istore (lv' := [(5, .int 96), (0, .ref (G.1 + 2)), (1, .ref (G.1 + a1)), (2, .int v2), (3, .int v3), (4, .int v4)]) hx hb dX5_expression_41 hl (by decide) rfl (fun ls hl => ?_)
        refine lv_iconst (v := 0) hx hb dX5_expression_43 (by decide) ?_
        refine lv_istore (lv' := [(6, .int 0), (5, .int 96), (0, .ref (G.1 + 2)), (1, .ref (G.1 + a1)), (2, .int v2), (3, .int v3), (4, .int v4)]) hx hb dX5_expression_44 hl (by decide) rfl (fun ls hl => ?_)
        exact wX5_expression_h46 hE hP ha1 C v2 v3 v4 96 0 x_3 hf _ _ _ hS (lv_sub hl [2, 3, 4, 5, 6, 1, 0] rfl)
      · replace hf := if_p c_5 hf
        refine lv_iconst (v := 1) hx hb dX5_expression_35 (by decide) ?_
        refine lv_goto (tgt := 41) hx hb dX5_expression_36 (by decide) ?_
        refine lv_istore (lv' := [(5, .int 1), (0, .ref (G.1 + 2)), (1, .ref (G.1 + a1)), (2, .int v2), (3, .int v3), (4, .int v4)]) hx hb dX5_expression_41 hl (by decide) rfl (fun ls hl => ?_)
        refine lv_iconst (v := 0) hx hb dX5_expression_43 (by decide) ?_
        refine lv_istore (lv' := [(6, .int 0), (5, .int 1), (0, .ref (G.1 + 2)), (1, .ref (G.1 + a1)), (2, .int v2), (3, .int v3), (4, .int v4)]) hx hb dX5_expression_44 hl (by decide) rfl (fun ls hl => ?_)
        exact wX5_expression_h46 hE hP ha1 C v2 v3 v4 1 0 x_3 hf _ _ _ hS (lv_sub hl [2, 3, 4, 5, 6, 1, 0] rfl)
    · replace hf := if_p c_4 hf
      refine lv_iconst (v := 0) hx hb dX5_expression_28 (by decide) ?_
      exact rtZ C hS rfl hf dX5_expression_29
  · replace hf := if_n c_1 hf
    refine lv_aload_n hx hb dX5_expression_5 rfl (lv_at hl 0 rfl) ?_
    refine lv_aload_n hx hb dX5_expression_6 rfl (lv_at hl 1 rfl) ?_
    refine lv_iload_n hx hb dX5_expression_7 rfl (lv_at hl 3 rfl) ?_
    refine lv_iload hx hb dX5_expression_8 (lv_at hl 4 rfl) ?_
    obtain ⟨r_6, x_7, qr_6, hf⟩ := bd_out hf
    refine rvI (As := [.ref (G.1 + a1), .int v3, .int v4]) (rest := []) C hS (rfl) rfl KX5_piece (hP ha1 qr_6) g_590 ⟨rfl, rfl⟩ ⟨(rEP1 dp), (rEP2 dp (by decide))⟩ hl.1 rfl rfl (Nat.le_of_ble_eq_true rfl) ⟨Nat.zero_le _, Nat.zero_le _⟩ dX5_expression_10 (fun H locs hS => ?_)
    obtain ⟨gg_8, hf⟩ := gd_out hf
    exact rtZ C hS (isB_n gg_8) hf dX5_expression_13
theorem cEP {G : GT} {l : Launch} : ∀ d : Nat, (∀ {a1 : Nat} {v2 : Int32} {v3 : Int32} {v4 : Int32} {x z : XS} {r : Int32}, tg a1 = 5 → (fEP d).1 a1 v2 v3 v4 x = some (r, z) → Ct G l yX5_expression (.code yX5_expression cX5_expression 8 (some .boolean)) (rmEP d) [.ref (G.1 + 2), .ref (G.1 + a1), .int v2, .int v3, .int v4] x (some (.int r)) z) ∧ (∀ {a1 : Nat} {v2 : Int32} {v3 : Int32} {x z : XS} {r : Int32}, tg a1 = 5 → (fEP d).2 a1 v2 v3 x = some (r, z) → Ct G l yX5_piece (.code yX5_piece cX5_piece 4 (some .boolean)) (rmEP d) [.ref (G.1 + 2), .ref (G.1 + a1), .int v2, .int v3] x (some (.int r)) z)
  | 0 => ⟨fun _ hf => absurd hf (by intro q; cases q), fun _ hf => absurd hf (by intro q; cases q)⟩
  | d + 1 => ⟨fun ha hf => CX5_expression_ (cEP d).1 (cEP d).2 ha hf, fun ha hf => CX5_piece_ (cEP d).1 (cEP d).2 ha hf⟩
abbrev rmX5_useUp : Room := { frames := 208, cells := 0, slots := 0, locals := 8427 }
set_option maxRecDepth 100000 in
set_option maxHeartbeats 4000000 in
theorem cX5_useUp_ {G : GT} {l : Launch} {a1 : Nat} (ha1 : tg a1 = 5) {x z : XS} {r : Int32} (hf : fX5_useUp a1 x = some (r, z)) : Ct G l yX5_useUp (.code yX5_useUp cX5_useUp 3 (some .int)) rmX5_useUp [.ref (G.1 + 2), .ref (G.1 + a1)] x (some (.int r)) z := by
  refine Ct.of (by decide +kernel) (Nat.le_of_ble_eq_true rfl) ?_
  intro p e s m args below meth c C ls hl hS
  have C : CX G p s m args meth c cX5_useUp 3 (some .int) RX5 := C
  have hl : lv_has ls 3 [(0, .ref (G.1 + 2)), (1, .ref (G.1 + a1))] := hl
  have hx := C.1
  have hb := C.2.1
  have hown := C.2.2.2.2.2.1
  have hw := C.2.2.2.2.2.2.1
  unfold fX5_useUp at hf
  refine lv_aload_n hx hb dX5_useUp_0 rfl (lv_at hl 0 rfl) ?_
  refine lv_aload_n hx hb dX5_useUp_1 rfl (lv_at hl 0 rfl) ?_
  refine gf4_0 C hS (rfl) g_33 dX5_useUp_2 ?_
  obtain ⟨x_1, ex_1, hf⟩ := st_out hf
  refine pf4_2 C hS (rfl) g_36 ex_1 dX5_useUp_5 (fun H locs hS => ?_)
  refine lv_aload_n hx hb dX5_useUp_8 rfl (lv_at hl 0 rfl) ?_
  refine lv_iconst (v := 0) hx hb dX5_useUp_9 (by decide) ?_
  obtain ⟨x_2, ex_2, hf⟩ := st_out hf
  refine pf4_0 C hS (rfl) g_33 ex_2 dX5_useUp_10 (fun H locs hS => ?_)
  refine lv_aload_n hx hb dX5_useUp_13 rfl (lv_at hl 0 rfl) ?_
  refine lv_iconst (v := 0) hx hb dX5_useUp_14 (by decide) ?_
  obtain ⟨x_3, ex_3, hf⟩ := st_out hf
  refine pf4_5 C hS (rfl) g_39 ex_3 dX5_useUp_15 (fun H locs hS => ?_)
  refine lv_aload_n hx hb dX5_useUp_18 rfl (lv_at hl 0 rfl) ?_
  obtain ⟨r_4, x_5, qr_4, hf⟩ := bd_out hf
  refine rvV (As := []) (rest := []) C hS (rfl) rfl KX5_step (cX5_step_ qr_4) g_513 ⟨rfl, rfl⟩ ⟨(Nat.le_of_ble_eq_true rfl), (Nat.le_of_ble_eq_true rfl)⟩ hl.1 rfl rfl (Nat.le_of_ble_eq_true rfl) ⟨Nat.zero_le _, Nat.zero_le _⟩ dX5_useUp_19 (fun H locs hS => ?_)
  refine lv_aload_n hx hb dX5_useUp_22 rfl (lv_at hl 0 rfl) ?_
  obtain ⟨r_6, x_7, qr_6, hf⟩ := bd_out hf
  refine rvI (As := []) (rest := []) C hS (rfl) rfl KX5_keyRead (cX5_keyRead_ qr_6) g_523 ⟨rfl, rfl⟩ ⟨(Nat.le_of_ble_eq_true rfl), (Nat.le_of_ble_eq_true rfl)⟩ hl.1 rfl rfl (Nat.le_of_ble_eq_true rfl) ⟨Nat.zero_le _, Nat.zero_le _⟩ dX5_useUp_23 (fun H locs hS => ?_)
  refine lv_istore_n (lv' := [(2, .int r_6), (0, .ref (G.1 + 2)), (1, .ref (G.1 + a1))]) hx hb dX5_useUp_26 rfl hl (by decide) rfl (fun ls hl => ?_)
  refine lv_iload_n hx hb dX5_useUp_27 rfl (lv_at hl 0 rfl) ?_
  refine lv_if_ge (tgt := 36) hx hb dX5_useUp_28 (by decide) (fun c_8 => ?_) (fun c_8 => ?_)
  · replace hf := if_p c_8 hf
    refine lv_aload_n hx hb dX5_useUp_36 rfl (lv_at hl 2 rfl) ?_
    refine lv_iload_n hx hb dX5_useUp_37 rfl (lv_at hl 0 rfl) ?_
    obtain ⟨r_9, x_10, qr_9, hf⟩ := bd_out hf
    refine rvV (As := [.int r_6]) (rest := []) C hS ha1 rfl KX6_begin (cX6_begin_ ha1 qr_9) g_582 ⟨rfl, rfl⟩ ⟨(Nat.le_of_ble_eq_true rfl), (Nat.le_of_ble_eq_true rfl)⟩ hl.1 rfl rfl (Nat.le_of_ble_eq_true rfl) ⟨Nat.zero_le _, Nat.zero_le _⟩ dX5_useUp_38 (fun H locs hS => ?_)
    refine lv_aload_n hx hb dX5_useUp_41 rfl (lv_at hl 1 rfl) ?_
    obtain ⟨r_11, x_12, qr_11, hf⟩ := bd_out hf
    refine rvV (As := []) (rest := []) C hS (rfl) rfl KX5_step (cX5_step_ qr_11) g_513 ⟨rfl, rfl⟩ ⟨(Nat.le_of_ble_eq_true rfl), (Nat.le_of_ble_eq_true rfl)⟩ hl.1 rfl rfl (Nat.le_of_ble_eq_true rfl) ⟨Nat.zero_le _, Nat.zero_le _⟩ dX5_useUp_42 (fun H locs hS => ?_)
    refine lv_aload_n hx hb dX5_useUp_45 rfl (lv_at hl 1 rfl) ?_
    refine lv_aload_n hx hb dX5_useUp_46 rfl (lv_at hl 2 rfl) ?_
    refine lv_iconst (v := 0) hx hb dX5_useUp_47 (by decide) ?_
    refine lv_iconst (v := 0) hx hb dX5_useUp_48 (by decide) ?_
    refine lv_iconst (v := 0) hx hb dX5_useUp_49 (by decide) ?_
    obtain ⟨r_13, x_14, qr_13, hf⟩ := bd_out hf
    refine rvI (As := [.ref (G.1 + a1), .int 0, .int 0, .int 0]) (rest := []) C hS (rfl) rfl KX5_expression ((cEP 200).1 ha1 qr_13) g_586 ⟨rfl, rfl⟩ ⟨(Nat.le_of_ble_eq_true rfl), (Nat.le_of_ble_eq_true rfl)⟩ hl.1 rfl rfl (Nat.le_of_ble_eq_true rfl) ⟨Nat.zero_le _, Nat.zero_le _⟩ dX5_useUp_50 (fun H locs hS => ?_)
    refine lv_if_eq (tgt := 63) hx hb dX5_useUp_53 (by decide) (fun c_15 => ?_) (fun c_15 => ?_)
    · replace hf := if_p c_15 hf
      refine lv_aload_n hx hb dX5_useUp_63 rfl (lv_at hl 1 rfl) ?_
      refine gf4_4 C hS (rfl) g_38 dX5_useUp_64 ?_
      exact rtI C hS hf dX5_useUp_67
    · replace hf := if_n c_15 hf
      refine lv_aload_n hx hb dX5_useUp_56 rfl (lv_at hl 1 rfl) ?_
      refine gf4_3 C hS (rfl) g_37 dX5_useUp_57 ?_
      refine lv_if_eq (tgt := 68) hx hb dX5_useUp_60 (by decide) (fun c_16 => ?_) (fun c_16 => ?_)
      · replace hf := if_p c_16 hf
        refine lv_iconst (v := (-1)) hx hb dX5_useUp_68 (by decide) ?_
        exact rtI C hS hf dX5_useUp_69
      · replace hf := if_n c_16 hf
        refine lv_aload_n hx hb dX5_useUp_63 rfl (lv_at hl 1 rfl) ?_
        refine gf4_4 C hS (rfl) g_38 dX5_useUp_64 ?_
        exact rtI C hS hf dX5_useUp_67
  · replace hf := if_n c_8 hf
    refine lv_aload_n hx hb dX5_useUp_31 rfl (lv_at hl 1 rfl) ?_
    refine gf4_4 C hS (rfl) g_38 dX5_useUp_32 ?_
    exact rtI C hS hf dX5_useUp_35
