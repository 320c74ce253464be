abbrev rmX8_in : Room := { frames := 0, cells := 0, slots := 0, locals := 0 }
set_option maxRecDepth 100000 in
set_option maxHeartbeats 4000000 in
theorem cX8_in_ {G : GT} {l : Launch} {v0 : Int32} {v1 : Int32} {v2 : Int32} {x z : XS} {r : Int32} (hf : fX8_in v0 v1 v2 x = some (r, z)) : Ct G l yX8_in (.code yX8_in cX8_in 3 (some .boolean)) rmX8_in [.int v0, .int v1, .int v2] x (some (.int r)) z := by
  refine Ct.of (by decide +kernel) (Nat.le_of_ble_eq_true rfl) ?_
  intro p e s m args below meth c C ls hl hS
  have C : CX G p s m args meth c cX8_in 3 (some .boolean) RX8 := C
  have hl : lv_has ls 3 [(0, .int v0), (1, .int v1), (2, .int v2)] := hl
  have hx := C.1
  have hb := C.2.1
  have hown := C.2.2.2.2.2.1
  have hw := C.2.2.2.2.2.2.1
  unfold fX8_in at hf
  refine lv_iload_n hx hb dX8_in_0 rfl (lv_at hl 0 rfl) ?_
  refine lv_iload_n hx hb dX8_in_1 rfl (lv_at hl 1 rfl) ?_
  refine lv_icmp_lt (tgt := 14) hx hb dX8_in_2 (by decide) (fun c_1 => ?_) (fun c_1 => ?_)
  · replace hf := if_p c_1 hf
    refine lv_iconst (v := 0) hx hb dX8_in_14 (by decide) ?_
    exact rtZ C hS rfl hf dX8_in_15
  · replace hf := if_n c_1 hf
    refine lv_iload_n hx hb dX8_in_5 rfl (lv_at hl 0 rfl) ?_
    refine lv_iload_n hx hb dX8_in_6 rfl (lv_at hl 2 rfl) ?_
    refine lv_icmp_gt (tgt := 14) hx hb dX8_in_7 (by decide) (fun c_2 => ?_) (fun c_2 => ?_)
    · replace hf := if_p c_2 hf
      refine lv_iconst (v := 0) hx hb dX8_in_14 (by decide) ?_
      exact rtZ C hS rfl hf dX8_in_15
    · replace hf := if_n c_2 hf
      refine lv_iconst (v := 1) hx hb dX8_in_10 (by decide) ?_
      refine lv_goto (tgt := 15) hx hb dX8_in_11 (by decide) ?_
      exact rtZ C hS rfl hf dX8_in_15
abbrev rmX8_within : Room := { frames := 0, cells := 0, slots := 0, locals := 0 }
set_option maxRecDepth 100000 in
set_option maxHeartbeats 4000000 in
theorem cX8_within_ {G : GT} {l : Launch} {v0 : Int32} {v1 : Int32} {v2 : Int32} {x z : XS} {r : Int32} (hf : fX8_within v0 v1 v2 x = some (r, z)) : Ct G l yX8_within (.code yX8_within cX8_within 3 (some .int)) rmX8_within [.int v0, .int v1, .int v2] x (some (.int r)) z := by
  refine Ct.of (by decide +kernel) (Nat.le_of_ble_eq_true rfl) ?_
  intro p e s m args below meth c C ls hl hS
  have C : CX G p s m args meth c cX8_within 3 (some .int) RX8 := C
  have hl : lv_has ls 3 [(0, .int v0), (1, .int v1), (2, .int v2)] := hl
  have hx := C.1
  have hb := C.2.1
  have hown := C.2.2.2.2.2.1
  have hw := C.2.2.2.2.2.2.1
  unfold fX8_within at hf
  refine lv_iload_n hx hb dX8_within_0 rfl (lv_at hl 0 rfl) ?_
  refine lv_iload_n hx hb dX8_within_1 rfl (lv_at hl 1 rfl) ?_
  refine lv_icmp_ge (tgt := 9) hx hb dX8_within_2 (by decide) (fun c_1 => ?_) (fun c_1 => ?_)
  · replace hf := if_p c_1 hf
    refine lv_iload_n hx hb dX8_within_9 rfl (lv_at hl 0 rfl) ?_
    refine lv_iload_n hx hb dX8_within_10 rfl (lv_at hl 2 rfl) ?_
    refine lv_icmp_le (tgt := 18) hx hb dX8_within_11 (by decide) (fun c_2 => ?_) (fun c_2 => ?_)
    · replace hf := if_p c_2 hf
      refine lv_iload_n hx hb dX8_within_18 rfl (lv_at hl 0 rfl) ?_
      exact rtI C hS hf dX8_within_19
    · replace hf := if_n c_2 hf
      refine lv_iload_n hx hb dX8_within_14 rfl (lv_at hl 2 rfl) ?_
      refine lv_goto (tgt := 19) hx hb dX8_within_15 (by decide) ?_
      exact rtI C hS hf dX8_within_19
  · replace hf := if_n c_1 hf
    refine lv_iload_n hx hb dX8_within_5 rfl (lv_at hl 1 rfl) ?_
    refine lv_goto (tgt := 19) hx hb dX8_within_6 (by decide) ?_
    exact rtI C hS hf dX8_within_19
abbrev rmX8_copyAll : Room := { frames := 0, cells := 0, slots := 0, locals := 0 }
set_option maxRecDepth 100000 in
set_option maxHeartbeats 4000000 in
theorem wbX8_copyAll_h2 {p : Program} {l : Launch} {e : Env} {s : State} {m : MethodId} {args : Array Value} {below : List Frame} {meth : Method} {c : Code} {G : GT} {a0 : Nat} {a1 : Nat} {r : Unit} {z : XS} (ha0 : tg a0 = 8) (hn0 : ln a0 = 1437) (ha1 : tg a1 = 8) (hn1 : ln a1 = 1437) (C : CX G p s m args meth c cX8_copyAll 3 none RX8) {k2 : Int32 → XS → Option (Unit × XS)} (hk2 : ∀ (u2 : Int32) (x : XS), k2 u2 x = some (r, z) → ∀ (H : Heap) (locs : List Loc) (ls : Array Slot), SR G x H locs → lv_has ls 3 [(0, .ref (G.1 + a0)), (1, .ref (G.1 + a1)), (2, .int u2)] → W p l e rmX8_copyAll s m args below meth c H locs 0 0 (MQ below (QC G none z) args s 0 0 (AB G)) (F0 m 2 ls [])) : ∀ (u2 : Int32) (x : XS), bX8_copyAll_h2 a0 a1 k2 u2 x = some (r, z) → ∀ (H : Heap) (locs : List Loc) (ls : Array Slot), SR G x H locs → lv_has ls 3 [(0, .ref (G.1 + a0)), (1, .ref (G.1 + a1)), (2, .int u2)] → W p l e rmX8_copyAll s m args below meth c H locs 0 0 (MQ below (QC G none z) args s 0 0 (AB G)) (F0 m 2 ls []) := by
  intro u2 x hf H locs ls hS hl
  have hx := C.1
  have hb := C.2.1
  have hown := C.2.2.2.2.2.1
  have hw := C.2.2.2.2.2.2.1
  unfold bX8_copyAll_h2 at hf
  refine lv_iload_n hx hb dX8_copyAll_2 rfl (lv_at hl 2 rfl) ?_
  refine lv_sipush (v := 1437) hx hb dX8_copyAll_3 (by decide) ?_
  refine lv_icmp_ge (tgt := 21) hx hb dX8_copyAll_6 (by decide) (fun c_1 => ?_) (fun c_1 => ?_)
  · replace hf := if_p c_1 hf
    exact rtV C hS (r := ()) hf dX8_copyAll_21
  · replace hf := if_n c_1 hf
    refine lv_aload_n hx hb dX8_copyAll_9 rfl (lv_at hl 1 rfl) ?_
    refine lv_iload_n hx hb dX8_copyAll_10 rfl (lv_at hl 2 rfl) ?_
    refine lv_aload_n hx hb dX8_copyAll_11 rfl (lv_at hl 0 rfl) ?_
    refine lv_iload_n hx hb dX8_copyAll_12 rfl (lv_at hl 2 rfl) ?_
    obtain ⟨gg_2, hf⟩ := gd_out hf
    refine alI C hS ha0 hn0 gg_2 dX8_copyAll_13 ?_
    obtain ⟨gg_3, hf⟩ := gd_out hf
    obtain ⟨x_4, ex_4, hf⟩ := st_out hf
    refine asI C hS ha1 hn1 gg_3 ex_4 dX8_copyAll_14 (fun H locs hS => ?_)
    obtain ⟨v_5, ev_5, hf⟩ := st_out hf
    refine lv_iinc (v := v_5) (lv' := [(2, .int v_5), (0, .ref (G.1 + a0)), (1, .ref (G.1 + a1))]) hx hb dX8_copyAll_15 hl (k := 2) rfl (by rw [ev_5]; rfl) (by decide) rfl (fun ls hl => ?_)
    refine lv_goto (tgt := 2) hx hb dX8_copyAll_18 (by decide) ?_
    exact hk2 v_5 x_4 hf _ _ _ hS (lv_sub hl [1, 2, 0] rfl)
theorem wlX8_copyAll_h2 {p : Program} {l : Launch} {e : Env} {s : State} {m : MethodId} {args : Array Value} {below : List Frame} {meth : Method} {c : Code} {G : GT} {a0 : Nat} {a1 : Nat} {r : Unit} {z : XS} (ha0 : tg a0 = 8) (hn0 : ln a0 = 1437) (ha1 : tg a1 = 8) (hn1 : ln a1 = 1437) (C : CX G p s m args meth c cX8_copyAll 3 none RX8) (n : Nat) : ∀ (u2 : Int32) (x : XS), lX8_copyAll_h2 a0 a1 n u2 x = some (r, z) → ∀ (H : Heap) (locs : List Loc) (ls : Array Slot), SR G x H locs → lv_has ls 3 [(0, .ref (G.1 + a0)), (1, .ref (G.1 + a1)), (2, .int u2)] → W p l e rmX8_copyAll s m args below meth c H locs 0 0 (MQ below (QC G none z) args s 0 0 (AB G)) (F0 m 2 ls []) := by
  induction n with
  | zero => intro u2 x hf H locs ls hS hl; exact absurd hf (by intro q; cases q)
  | succ n ih => exact wbX8_copyAll_h2 ha0 hn0 ha1 hn1 C ih
theorem wX8_copyAll_h2 {p : Program} {l : Launch} {e : Env} {s : State} {m : MethodId} {args : Array Value} {below : List Frame} {meth : Method} {c : Code} {G : GT} {a0 : Nat} {a1 : Nat} {r : Unit} {z : XS} (ha0 : tg a0 = 8) (hn0 : ln a0 = 1437) (ha1 : tg a1 = 8) (hn1 : ln a1 = 1437) (C : CX G p s m args meth c cX8_copyAll 3 none RX8) : ∀ (u2 : Int32) (x : XS), fX8_copyAll_h2 a0 a1 u2 x = some (r, z) → ∀ (H : Heap) (locs : List Loc) (ls : Array Slot), SR G x H locs → lv_has ls 3 [(0, .ref (G.1 + a0)), (1, .ref (G.1 + a1)), (2, .int u2)] → W p l e rmX8_copyAll s m args below meth c H locs 0 0 (MQ below (QC G none z) args s 0 0 (AB G)) (F0 m 2 ls []) := wlX8_copyAll_h2 ha0 hn0 ha1 hn1 C FU
set_option maxRecDepth 100000 in
set_option maxHeartbeats 4000000 in
theorem cX8_copyAll_ {G : GT} {l : Launch} {a0 : Nat} {a1 : Nat} (ha0 : tg a0 = 8) (hn0 : ln a0 = 1437) (ha1 : tg a1 = 8) (hn1 : ln a1 = 1437) {x z : XS} {r : Unit} (hf : fX8_copyAll a0 a1 x = some (r, z)) : Ct G l yX8_copyAll (.code yX8_copyAll cX8_copyAll 3 none) rmX8_copyAll [.ref (G.1 + a0), .ref (G.1 + a1)] x none z := by
  refine Ct.of (by decide +kernel) (Nat.le_of_ble_eq_true rfl) ?_
  intro p e s m args below meth c C ls hl hS
  have C : CX G p s m args meth c cX8_copyAll 3 none RX8 := C
  have hl : lv_has ls 3 [(0, .ref (G.1 + a0)), (1, .ref (G.1 + a1))] := hl
  have hx := C.1
  have hb := C.2.1
  have hown := C.2.2.2.2.2.1
  have hw := C.2.2.2.2.2.2.1
  unfold fX8_copyAll at hf
  refine lv_iconst (v := 0) hx hb dX8_copyAll_0 (by decide) ?_
  refine lv_istore_n (lv' := [(2, .int 0), (0, .ref (G.1 + a0)), (1, .ref (G.1 + a1))]) hx hb dX8_copyAll_1 rfl hl (by decide) rfl (fun ls hl => ?_)
  exact wX8_copyAll_h2  ha0 hn0 ha1 hn1 C 0 x hf _ _ _ hS (lv_sub hl [1, 2, 0] rfl)
abbrev rmX8_told0 : Room := { frames := 0, cells := 0, slots := 0, locals := 0 }
set_option maxRecDepth 100000 in
set_option maxHeartbeats 4000000 in
theorem cX8_told0_ {G : GT} {l : Launch} {v0 : Int32} {x z : XS} {r : Int32} (hf : fX8_told0 v0 x = some (r, z)) : Ct G l yX8_told0 (.code yX8_told0 cX8_told0 1 (some .int)) rmX8_told0 [.int v0] x (some (.int r)) z := by
  refine Ct.of (by decide +kernel) (Nat.le_of_ble_eq_true rfl) ?_
  intro p e s m args below meth c C ls hl hS
  have C : CX G p s m args meth c cX8_told0 1 (some .int) RX8 := C
  have hl : lv_has ls 1 [(0, .int v0)] := hl
  have hx := C.1
  have hb := C.2.1
  have hown := C.2.2.2.2.2.1
  have hw := C.2.2.2.2.2.2.1
  unfold fX8_told0 at hf
  refine lv_iload_n hx hb dX8_told0_0 rfl (lv_at hl 0 rfl) ?_
  refine lv_if_ge (tgt := 9) hx hb dX8_told0_1 (by decide) (fun c_1 => ?_) (fun c_1 => ?_)
  · replace hf := if_p c_1 hf
    refine lv_iload_n hx hb dX8_told0_9 rfl (lv_at hl 0 rfl) ?_
    exact rtI C hS hf dX8_told0_10
  · replace hf := if_n c_1 hf
    refine lv_ldc (v := (-1000000005)) hx hb hown (hw _ g_1063) dX8_told0_4 ?_
    refine lv_goto (tgt := 10) hx hb dX8_told0_6 (by decide) ?_
    exact rtI C hS hf dX8_told0_10
abbrev rmX8_isBoy : Room := { frames := 1, cells := 0, slots := 0, locals := 22 }
set_option maxRecDepth 100000 in
set_option maxHeartbeats 4000000 in
theorem cX8_isBoy_ {G : GT} {l : Launch} {v1 : Int32} {x z : XS} {r : Int32} (hf : fX8_isBoy v1 x = some (r, z)) : Ct G l yX8_isBoy (.code yX8_isBoy cX8_isBoy 2 (some .boolean)) rmX8_isBoy [.ref (G.1 + 99), .int v1] x (some (.int r)) z := by
  refine Ct.of (by decide +kernel) (Nat.le_of_ble_eq_true rfl) ?_
  intro p e s m args below meth c C ls hl hS
  have C : CX G p s m args meth c cX8_isBoy 2 (some .boolean) RX8 := C
  have hl : lv_has ls 2 [(0, .ref (G.1 + 99)), (1, .int v1)] := hl
  have hx := C.1
  have hb := C.2.1
  have hown := C.2.2.2.2.2.1
  have hw := C.2.2.2.2.2.2.1
  unfold fX8_isBoy at hf
  refine lv_iload_n hx hb dX8_isBoy_0 rfl (lv_at hl 1 rfl) ?_
  refine lv_iconst (v := 0) hx hb dX8_isBoy_1 (by decide) ?_
  refine lv_aload_n hx hb dX8_isBoy_2 rfl (lv_at hl 0 rfl) ?_
  refine gf7_0 C hS (rfl) g_805 dX8_isBoy_3 ?_
  refine lv_iconst (v := 1) hx hb dX8_isBoy_6 (by decide) ?_
  obtain ⟨gg_1, hf⟩ := gd_out hf
  refine alI C hS (rfl) rfl gg_1 dX8_isBoy_7 ?_
  refine lv_iconst (v := 1) hx hb dX8_isBoy_8 (by decide) ?_
  refine lv_isub hx hb dX8_isBoy_9 ?_
  obtain ⟨r_2, x_3, qr_2, hf⟩ := bd_out hf
  refine rsI (As := [.int v1, .int 0, .int ((x 100 (ix 1)) - 1)]) (rest := []) C hS KX8_in (cX8_in_ qr_2) g_914 ⟨rfl, rfl⟩ ⟨(Nat.le_of_ble_eq_true rfl), (Nat.le_of_ble_eq_true rfl)⟩ hl.1 rfl rfl (Nat.le_of_ble_eq_true rfl) ⟨Nat.zero_le _, Nat.zero_le _⟩ dX8_isBoy_10 (fun H locs hS => ?_)
  obtain ⟨gg_4, hf⟩ := gd_out hf
  exact rtZ C hS (isB_n gg_4) hf dX8_isBoy_13
abbrev rmX8_of : Room := { frames := 0, cells := 0, slots := 0, locals := 0 }
set_option maxRecDepth 100000 in
set_option maxHeartbeats 4000000 in
theorem cX8_of_ {G : GT} {l : Launch} {v1 : Int32} {v2 : Int32} {x z : XS} {r : Int32} (hf : fX8_of v1 v2 x = some (r, z)) : Ct G l yX8_of (.code yX8_of cX8_of 3 (some .int)) rmX8_of [.ref (G.1 + 99), .int v1, .int v2] x (some (.int r)) z := by
  refine Ct.of (by decide +kernel) (Nat.le_of_ble_eq_true rfl) ?_
  intro p e s m args below meth c C ls hl hS
  have C : CX G p s m args meth c cX8_of 3 (some .int) RX8 := C
  have hl : lv_has ls 3 [(0, .ref (G.1 + 99)), (1, .int v1), (2, .int v2)] := hl
  have hx := C.1
  have hb := C.2.1
  have hown := C.2.2.2.2.2.1
  have hw := C.2.2.2.2.2.2.1
  unfold fX8_of at hf
  refine lv_aload_n hx hb dX8_of_0 rfl (lv_at hl 0 rfl) ?_
  refine gf7_0 C hS (rfl) g_805 dX8_of_1 ?_
  refine lv_bipush (v := 9) hx hb dX8_of_4 (by decide) ?_
  refine lv_bipush (v := 7) hx hb dX8_of_6 (by decide) ?_
  refine lv_iload_n hx hb dX8_of_8 rfl (lv_at hl 1 rfl) ?_
  refine lv_imul hx hb dX8_of_9 ?_
  refine lv_iadd hx hb dX8_of_10 ?_
  refine lv_iload_n hx hb dX8_of_11 rfl (lv_at hl 2 rfl) ?_
  refine lv_iadd hx hb dX8_of_12 ?_
  obtain ⟨gg_1, hf⟩ := gd_out hf
  refine alI C hS (rfl) rfl gg_1 dX8_of_13 ?_
  exact rtI C hS hf dX8_of_14
abbrev rmX8_put : Room := { frames := 0, cells := 0, slots := 0, locals := 0 }
set_option maxRecDepth 100000 in
set_option maxHeartbeats 4000000 in
theorem cX8_put_ {G : GT} {l : Launch} {v1 : Int32} {v2 : Int32} {v3 : Int32} {x z : XS} {r : Unit} (hf : fX8_put v1 v2 v3 x = some (r, z)) : Ct G l yX8_put (.code yX8_put cX8_put 4 none) rmX8_put [.ref (G.1 + 99), .int v1, .int v2, .int v3] x none z := by
  refine Ct.of (by decide +kernel) (Nat.le_of_ble_eq_true rfl) ?_
  intro p e s m args below meth c C ls hl hS
  have C : CX G p s m args meth c cX8_put 4 none RX8 := C
  have hl : lv_has ls 4 [(0, .ref (G.1 + 99)), (1, .int v1), (2, .int v2), (3, .int v3)] := hl
  have hx := C.1
  have hb := C.2.1
  have hown := C.2.2.2.2.2.1
  have hw := C.2.2.2.2.2.2.1
  unfold fX8_put at hf
  refine lv_aload_n hx hb dX8_put_0 rfl (lv_at hl 0 rfl) ?_
  refine gf7_0 C hS (rfl) g_805 dX8_put_1 ?_
  refine lv_bipush (v := 9) hx hb dX8_put_4 (by decide) ?_
  refine lv_bipush (v := 7) hx hb dX8_put_6 (by decide) ?_
  refine lv_iload_n hx hb dX8_put_8 rfl (lv_at hl 1 rfl) ?_
  refine lv_imul hx hb dX8_put_9 ?_
  refine lv_iadd hx hb dX8_put_10 ?_
  refine lv_iload_n hx hb dX8_put_11 rfl (lv_at hl 2 rfl) ?_
  refine lv_iadd hx hb dX8_put_12 ?_
  refine lv_iload_n hx hb dX8_put_13 rfl (lv_at hl 3 rfl) ?_
  obtain ⟨gg_1, hf⟩ := gd_out hf
  obtain ⟨x_2, ex_2, hf⟩ := st_out hf
  refine asI C hS (rfl) rfl gg_1 ex_2 dX8_put_14 (fun H locs hS => ?_)
  exact rtV C hS (r := ()) hf dX8_put_15
abbrev rmX8_becomes : Room := { frames := 0, cells := 0, slots := 0, locals := 0 }
set_option maxRecDepth 100000 in
set_option maxHeartbeats 4000000 in
theorem cX8_becomes_ {G : GT} {l : Launch} {v1 : Int32} {v2 : Int32} {x z : XS} {r : Int32} (hf : fX8_becomes v1 v2 x = some (r, z)) : Ct G l yX8_becomes (.code yX8_becomes cX8_becomes 4 (some .int)) rmX8_becomes [.ref (G.1 + 99), .int v1, .int v2] x (some (.int r)) z := by
  refine Ct.of (by decide +kernel) (Nat.le_of_ble_eq_true rfl) ?_
  intro p e s m args below meth c C ls hl hS
  have C : CX G p s m args meth c cX8_becomes 4 (some .int) RX8 := C
  have hl : lv_has ls 4 [(0, .ref (G.1 + 99)), (1, .int v1), (2, .int v2)] := hl
  have hx := C.1
  have hb := C.2.1
  have hown := C.2.2.2.2.2.1
  have hw := C.2.2.2.2.2.2.1
  unfold fX8_becomes at hf
  refine lv_aload_n hx hb dX8_becomes_0 rfl (lv_at hl 0 rfl) ?_
  refine gf7_0 C hS (rfl) g_805 dX8_becomes_1 ?_
  refine lv_iload_n hx hb dX8_becomes_4 rfl (lv_at hl 1 rfl) ?_
  obtain ⟨gg_1, hf⟩ := gd_out hf
  refine alI C hS (rfl) rfl gg_1 dX8_becomes_5 ?_
  obtain ⟨v_2, ev_2, hf⟩ := st_out hf
  refine topI ev_2 ?_
  refine lv_istore_n (lv' := [(3, .int v_2), (0, .ref (G.1 + 99)), (1, .int v1), (2, .int v2)]) hx hb dX8_becomes_6 rfl hl (by decide) rfl (fun ls hl => ?_)
  refine lv_aload_n hx hb dX8_becomes_7 rfl (lv_at hl 1 rfl) ?_
  refine gf7_0 C hS (rfl) g_805 dX8_becomes_8 ?_
  refine lv_iload_n hx hb dX8_becomes_11 rfl (lv_at hl 2 rfl) ?_
  refine lv_iload_n hx hb dX8_becomes_12 rfl (lv_at hl 3 rfl) ?_
  obtain ⟨gg_3, hf⟩ := gd_out hf
  obtain ⟨x_4, ex_4, hf⟩ := st_out hf
  refine asI C hS (rfl) rfl gg_3 ex_4 dX8_becomes_13 (fun H locs hS => ?_)
  refine lv_iload_n hx hb dX8_becomes_14 rfl (lv_at hl 0 rfl) ?_
  exact rtI C hS hf dX8_becomes_15
abbrev rmX8_comes : Room := { frames := 1, cells := 0, slots := 0, locals := 23 }
set_option maxRecDepth 100000 in
set_option maxHeartbeats 4000000 in
theorem cX8_comes_ {G : GT} {l : Launch} {v1 : Int32} {v2 : Int32} {v3 : Int32} {v4 : Int32} {x z : XS} {r : Int32} (hf : fX8_comes v1 v2 v3 v4 x = some (r, z)) : Ct G l yX8_comes (.code yX8_comes cX8_comes 6 (some .int)) rmX8_comes [.ref (G.1 + 99), .int v1, .int v2, .int v3, .int v4] x (some (.int r)) z := by
  refine Ct.of (by decide +kernel) (Nat.le_of_ble_eq_true rfl) ?_
  intro p e s m args below meth c C ls hl hS
  have C : CX G p s m args meth c cX8_comes 6 (some .int) RX8 := C
  have hl : lv_has ls 6 [(0, .ref (G.1 + 99)), (1, .int v1), (2, .int v2), (3, .int v3), (4, .int v4)] := hl
  have hx := C.1
  have hb := C.2.1
  have hown := C.2.2.2.2.2.1
  have hw := C.2.2.2.2.2.2.1
  unfold fX8_comes at hf
  refine lv_aload_n hx hb dX8_comes_0 rfl (lv_at hl 0 rfl) ?_
  refine gf7_0 C hS (rfl) g_805 dX8_comes_1 ?_
  refine lv_iconst (v := 1) hx hb dX8_comes_4 (by decide) ?_
  obtain ⟨gg_1, hf⟩ := gd_out hf
  refine alI C hS (rfl) rfl gg_1 dX8_comes_5 ?_
  obtain ⟨v_2, ev_2, hf⟩ := st_out hf
  refine topI ev_2 ?_
  refine lv_istore (lv' := [(5, .int v_2), (0, .ref (G.1 + 99)), (1, .int v1), (2, .int v2), (3, .int v3), (4, .int v4)]) hx hb dX8_comes_6 hl (by decide) rfl (fun ls hl => ?_)
  refine lv_aload_n hx hb dX8_comes_8 rfl (lv_at hl 1 rfl) ?_
  refine lv_iload hx hb dX8_comes_9 (lv_at hl 0 rfl) ?_
  refine lv_iconst (v := 0) hx hb dX8_comes_11 (by decide) ?_
  refine lv_iload_n hx hb dX8_comes_12 rfl (lv_at hl 2 rfl) ?_
  obtain ⟨r_3, x_4, qr_3, hf⟩ := bd_out hf
  refine rvV (As := [.int v_2, .int 0, .int v1]) (rest := []) C hS (rfl) rfl KX8_put (cX8_put_ qr_3) g_926 ⟨rfl, rfl⟩ ⟨(Nat.le_of_ble_eq_true rfl), (Nat.le_of_ble_eq_true rfl)⟩ hl.1 rfl rfl (Nat.le_of_ble_eq_true rfl) ⟨Nat.zero_le _, Nat.zero_le _⟩ dX8_comes_13 (fun H locs hS => ?_)
  refine lv_aload_n hx hb dX8_comes_16 rfl (lv_at hl 1 rfl) ?_
  refine lv_iload hx hb dX8_comes_17 (lv_at hl 0 rfl) ?_
  refine lv_iconst (v := 1) hx hb dX8_comes_19 (by decide) ?_
  refine lv_iload_n hx hb dX8_comes_20 rfl (lv_at hl 3 rfl) ?_
  obtain ⟨r_5, x_6, qr_5, hf⟩ := bd_out hf
  refine rvV (As := [.int v_2, .int 1, .int v2]) (rest := []) C hS (rfl) rfl KX8_put (cX8_put_ qr_5) g_926 ⟨rfl, rfl⟩ ⟨(Nat.le_of_ble_eq_true rfl), (Nat.le_of_ble_eq_true rfl)⟩ hl.1 rfl rfl (Nat.le_of_ble_eq_true rfl) ⟨Nat.zero_le _, Nat.zero_le _⟩ dX8_comes_21 (fun H locs hS => ?_)
  refine lv_aload_n hx hb dX8_comes_24 rfl (lv_at hl 1 rfl) ?_
  refine lv_iload hx hb dX8_comes_25 (lv_at hl 0 rfl) ?_
  refine lv_iconst (v := 2) hx hb dX8_comes_27 (by decide) ?_
  refine lv_iload_n hx hb dX8_comes_28 rfl (lv_at hl 4 rfl) ?_
  obtain ⟨r_7, x_8, qr_7, hf⟩ := bd_out hf
  refine rvV (As := [.int v_2, .int 2, .int v3]) (rest := []) C hS (rfl) rfl KX8_put (cX8_put_ qr_7) g_926 ⟨rfl, rfl⟩ ⟨(Nat.le_of_ble_eq_true rfl), (Nat.le_of_ble_eq_true rfl)⟩ hl.1 rfl rfl (Nat.le_of_ble_eq_true rfl) ⟨Nat.zero_le _, Nat.zero_le _⟩ dX8_comes_29 (fun H locs hS => ?_)
  refine lv_aload_n hx hb dX8_comes_32 rfl (lv_at hl 1 rfl) ?_
  refine lv_iload hx hb dX8_comes_33 (lv_at hl 0 rfl) ?_
  refine lv_iconst (v := 3) hx hb dX8_comes_35 (by decide) ?_
  refine lv_iload hx hb dX8_comes_36 (lv_at hl 5 rfl) ?_
  obtain ⟨r_9, x_10, qr_9, hf⟩ := bd_out hf
  refine rvV (As := [.int v_2, .int 3, .int v4]) (rest := []) C hS (rfl) rfl KX8_put (cX8_put_ qr_9) g_926 ⟨rfl, rfl⟩ ⟨(Nat.le_of_ble_eq_true rfl), (Nat.le_of_ble_eq_true rfl)⟩ hl.1 rfl rfl (Nat.le_of_ble_eq_true rfl) ⟨Nat.zero_le _, Nat.zero_le _⟩ dX8_comes_38 (fun H locs hS => ?_)
  refine lv_aload_n hx hb dX8_comes_41 rfl (lv_at hl 1 rfl) ?_
  refine lv_iload hx hb dX8_comes_42 (lv_at hl 0 rfl) ?_
  refine lv_iconst (v := 4) hx hb dX8_comes_44 (by decide) ?_
  refine lv_iconst (v := 0) hx hb dX8_comes_45 (by decide) ?_
  obtain ⟨r_11, x_12, qr_11, hf⟩ := bd_out hf
  refine rvV (As := [.int v_2, .int 4, .int 0]) (rest := []) C hS (rfl) rfl KX8_put (cX8_put_ qr_11) g_926 ⟨rfl, rfl⟩ ⟨(Nat.le_of_ble_eq_true rfl), (Nat.le_of_ble_eq_true rfl)⟩ hl.1 rfl rfl (Nat.le_of_ble_eq_true rfl) ⟨Nat.zero_le _, Nat.zero_le _⟩ dX8_comes_46 (fun H locs hS => ?_)
  refine lv_aload_n hx hb dX8_comes_49 rfl (lv_at hl 1 rfl) ?_
  refine lv_iload hx hb dX8_comes_50 (lv_at hl 0 rfl) ?_
  refine lv_iconst (v := 5) hx hb dX8_comes_52 (by decide) ?_
  refine lv_iconst (v := 0) hx hb dX8_comes_53 (by decide) ?_
  obtain ⟨r_13, x_14, qr_13, hf⟩ := bd_out hf
  refine rvV (As := [.int v_2, .int 5, .int 0]) (rest := []) C hS (rfl) rfl KX8_put (cX8_put_ qr_13) g_926 ⟨rfl, rfl⟩ ⟨(Nat.le_of_ble_eq_true rfl), (Nat.le_of_ble_eq_true rfl)⟩ hl.1 rfl rfl (Nat.le_of_ble_eq_true rfl) ⟨Nat.zero_le _, Nat.zero_le _⟩ dX8_comes_54 (fun H locs hS => ?_)
  refine lv_aload_n hx hb dX8_comes_57 rfl (lv_at hl 1 rfl) ?_
  refine lv_iload hx hb dX8_comes_58 (lv_at hl 0 rfl) ?_
  refine lv_bipush (v := 6) hx hb dX8_comes_60 (by decide) ?_
  refine lv_iconst (v := 0) hx hb dX8_comes_62 (by decide) ?_
  obtain ⟨r_15, x_16, qr_15, hf⟩ := bd_out hf
  refine rvV (As := [.int v_2, .int 6, .int 0]) (rest := []) C hS (rfl) rfl KX8_put (cX8_put_ qr_15) g_926 ⟨rfl, rfl⟩ ⟨(Nat.le_of_ble_eq_true rfl), (Nat.le_of_ble_eq_true rfl)⟩ hl.1 rfl rfl (Nat.le_of_ble_eq_true rfl) ⟨Nat.zero_le _, Nat.zero_le _⟩ dX8_comes_63 (fun H locs hS => ?_)
  refine lv_aload_n hx hb dX8_comes_66 rfl (lv_at hl 1 rfl) ?_
  refine gf7_0 C hS (rfl) g_805 dX8_comes_67 ?_
  refine lv_iconst (v := 1) hx hb dX8_comes_70 (by decide) ?_
  refine lv_dup2_11 hx hb dX8_comes_71 rfl rfl ?_
  obtain ⟨gg_17, hf⟩ := gd_out hf
  refine alI C hS (rfl) rfl gg_17 dX8_comes_72 ?_
  refine lv_iconst (v := 1) hx hb dX8_comes_73 (by decide) ?_
  refine lv_iadd hx hb dX8_comes_74 ?_
  obtain ⟨gg_18, hf⟩ := gd_out hf
  obtain ⟨x_19, ex_19, hf⟩ := st_out hf
  refine asI C hS (rfl) rfl gg_18 ex_19 dX8_comes_75 (fun H locs hS => ?_)
  refine lv_iload hx hb dX8_comes_76 (lv_at hl 0 rfl) ?_
  exact rtI C hS hf dX8_comes_78
abbrev rmX8_isOf : Room := { frames := 1, cells := 0, slots := 0, locals := 22 }
set_option maxRecDepth 100000 in
set_option maxHeartbeats 4000000 in
theorem wX8_isOf_h11 {p : Program} {l : Launch} {e : Env} {s : State} {m : MethodId} {args : Array Value} {below : List Frame} {meth : Method} {c : Code} {G : GT} {r : Int32} {z : XS} (C : CX G p s m args meth c cX8_isOf 2 (some .boolean) RX8) : ∀ (u0 : Int32) (s0 : Int32) (s1 : Int32) (x : XS), fX8_isOf_h11 u0 s0 s1 x = some (r, z) → ∀ (H : Heap) (locs : List Loc) (ls : Array Slot), SR G x H locs → lv_has ls 2 [(0, .int u0)] → W p l e rmX8_isOf s m args below meth c H locs 0 0 (MQ below (QC G (some (.int r)) z) args s 0 0 (AB G)) (F0 m 11 ls [.int s1, .int s0]) := by
  intro u0 s0 s1 x hf H locs ls hS hl
  have hx := C.1
  have hb := C.2.1
  have hown := C.2.2.2.2.2.1
  have hw := C.2.2.2.2.2.2.1
  unfold fX8_isOf_h11 at hf
  refine lv_iload_n hx hb dX8_isOf_11 rfl (lv_at hl 0 rfl) ?_
  refine lv_iconst (v := 1) hx hb dX8_isOf_12 (by decide) ?_
  refine lv_icmp_ne (tgt := 21) hx hb dX8_isOf_13 (by decide) (fun c_2 => ?_) (fun c_2 => ?_)
  · replace hf := if_n c_2 hf
    refine lv_iload_n hx hb dX8_isOf_21 rfl (lv_at hl 0 rfl) ?_
    refine lv_iconst (v := 2) hx hb dX8_isOf_22 (by decide) ?_
    refine lv_icmp_ne (tgt := 31) hx hb dX8_isOf_23 (by decide) (fun c_3 => ?_) (fun c_3 => ?_)
    · replace hf := if_n c_3 hf
      refine lv_bipush (v := 20) hx hb dX8_isOf_31 (by decide) ?_
      obtain ⟨r_4, x_5, qr_4, hf⟩ := bd_out hf
      refine rsI (As := [.int s0, .int s1, .int 20]) (rest := []) C hS KX8_in (cX8_in_ qr_4) g_914 ⟨rfl, rfl⟩ ⟨(Nat.le_of_ble_eq_true rfl), (Nat.le_of_ble_eq_true rfl)⟩ hl.1 rfl rfl (Nat.le_of_ble_eq_true rfl) ⟨Nat.zero_le _, Nat.zero_le _⟩ dX8_isOf_33 (fun H locs hS => ?_)
      obtain ⟨gg_6, hf⟩ := gd_out hf
      exact rtZ C hS (isB_n gg_6) hf dX8_isOf_36
    · replace hf := if_p c_3 hf
      refine lv_bipush (v := 99) hx hb dX8_isOf_26 (by decide) ?_
      refine lv_goto (tgt := 33) hx hb dX8_isOf_28 (by decide) ?_
      obtain ⟨r_7, x_8, qr_7, hf⟩ := bd_out hf
      refine rsI (As := [.int s0, .int s1, .int 99]) (rest := []) C hS KX8_in (cX8_in_ qr_7) g_914 ⟨rfl, rfl⟩ ⟨(Nat.le_of_ble_eq_true rfl), (Nat.le_of_ble_eq_true rfl)⟩ hl.1 rfl rfl (Nat.le_of_ble_eq_true rfl) ⟨Nat.zero_le _, Nat.zero_le _⟩ dX8_isOf_33 (fun H locs hS => ?_)
      obtain ⟨gg_9, hf⟩ := gd_out hf
      exact rtZ C hS (isB_n gg_9) hf dX8_isOf_36
  · replace hf := if_p c_2 hf
    refine lv_bipush (v := 9) hx hb dX8_isOf_16 (by decide) ?_
    refine lv_goto (tgt := 33) hx hb dX8_isOf_18 (by decide) ?_
    obtain ⟨r_10, x_11, qr_10, hf⟩ := bd_out hf
    refine rsI (As := [.int s0, .int s1, .int 9]) (rest := []) C hS KX8_in (cX8_in_ qr_10) g_914 ⟨rfl, rfl⟩ ⟨(Nat.le_of_ble_eq_true rfl), (Nat.le_of_ble_eq_true rfl)⟩ hl.1 rfl rfl (Nat.le_of_ble_eq_true rfl) ⟨Nat.zero_le _, Nat.zero_le _⟩ dX8_isOf_33 (fun H locs hS => ?_)
    obtain ⟨gg_12, hf⟩ := gd_out hf
    exact rtZ C hS (isB_n gg_12) hf dX8_isOf_36
set_option maxRecDepth 100000 in
set_option maxHeartbeats 4000000 in
theorem cX8_isOf_ {G : GT} {l : Launch} {v0 : Int32} {v1 : Int32} {x z : XS} {r : Int32} (hf : fX8_isOf v0 v1 x = some (r, z)) : Ct G l yX8_isOf (.code yX8_isOf cX8_isOf 2 (some .boolean)) rmX8_isOf [.int v0, .int v1] x (some (.int r)) z := by
  refine Ct.of (by decide +kernel) (Nat.le_of_ble_eq_true rfl) ?_
  intro p e s m args below meth c C ls hl hS
  have C : CX G p s m args meth c cX8_isOf 2 (some .boolean) RX8 := C
  have hl : lv_has ls 2 [(0, .int v0), (1, .int v1)] := hl
  have hx := C.1
  have hb := C.2.1
  have hown := C.2.2.2.2.2.1
  have hw := C.2.2.2.2.2.2.1
  unfold fX8_isOf at hf
  refine lv_iload_n hx hb dX8_isOf_0 rfl (lv_at hl 1 rfl) ?_
  refine lv_iload_n hx hb dX8_isOf_1 rfl (lv_at hl 0 rfl) ?_
  refine lv_iconst (v := 1) hx hb dX8_isOf_2 (by decide) ?_
  refine lv_icmp_ne (tgt := 10) hx hb dX8_isOf_3 (by decide) (fun c_1 => ?_) (fun c_1 => ?_)
  · replace hf := if_n c_1 hf
    refine lv_iconst (v := 1) hx hb dX8_isOf_10 (by decide) ?_
    exact wX8_isOf_h11  C v0 v1 1 x hf _ _ _ hS (lv_sub hl [0] rfl)
  · replace hf := if_p c_1 hf
    refine lv_iconst (v := 0) hx hb dX8_isOf_6 (by decide) ?_
    refine lv_goto (tgt := 11) hx hb dX8_isOf_7 (by decide) ?_
    exact wX8_isOf_h11  C v0 v1 0 x hf _ _ _ hS (lv_sub hl [0] rfl)
abbrev rmX8_boy : Room := { frames := 2, cells := 0, slots := 0, locals := 48 }
set_option maxRecDepth 100000 in
set_option maxHeartbeats 4000000 in
theorem cX8_boy_ {G : GT} {l : Launch} {v1 : Int32} {v2 : Int32} {v3 : Int32} {v4 : Int32} {x z : XS} {r : Int32} (hf : fX8_boy v1 v2 v3 v4 x = some (r, z)) : Ct G l yX8_boy (.code yX8_boy cX8_boy 5 (some .int)) rmX8_boy [.ref (G.1 + 99), .int v1, .int v2, .int v3, .int v4] x (some (.int r)) z := by
  refine Ct.of (by decide +kernel) (Nat.le_of_ble_eq_true rfl) ?_
  intro p e s m args below meth c C ls hl hS
  have C : CX G p s m args meth c cX8_boy 5 (some .int) RX8 := C
  have hl : lv_has ls 5 [(0, .ref (G.1 + 99)), (1, .int v1), (2, .int v2), (3, .int v3), (4, .int v4)] := hl
  have hx := C.1
  have hb := C.2.1
  have hown := C.2.2.2.2.2.1
  have hw := C.2.2.2.2.2.2.1
  unfold fX8_boy at hf
  refine lv_iload_n hx hb dX8_boy_0 rfl (lv_at hl 1 rfl) ?_
  refine lv_iconst (v := 0) hx hb dX8_boy_1 (by decide) ?_
  refine lv_iconst (v := 5) hx hb dX8_boy_2 (by decide) ?_
  obtain ⟨r_1, x_2, qr_1, hf⟩ := bd_out hf
  refine rsI (As := [.int v1, .int 0, .int 5]) (rest := []) C hS KX8_in (cX8_in_ qr_1) g_914 ⟨rfl, rfl⟩ ⟨(Nat.le_of_ble_eq_true rfl), (Nat.le_of_ble_eq_true rfl)⟩ hl.1 rfl rfl (Nat.le_of_ble_eq_true rfl) ⟨Nat.zero_le _, Nat.zero_le _⟩ dX8_boy_3 (fun H locs hS => ?_)
  refine lv_if_eq (tgt := 34) hx hb dX8_boy_6 (by decide) (fun c_3 => ?_) (fun c_3 => ?_)
  · replace hf := if_p c_3 hf
    refine lv_ldc (v := (-1000000001)) hx hb hown (hw _ g_920) dX8_boy_34 ?_
    exact rtI C hS hf dX8_boy_36
  · replace hf := if_n c_3 hf
    refine lv_iconst (v := 1) hx hb dX8_boy_9 (by decide) ?_
    refine lv_iload_n hx hb dX8_boy_10 rfl (lv_at hl 2 rfl) ?_
    obtain ⟨r_4, x_5, qr_4, hf⟩ := bd_out hf
    refine rsI (As := [.int 1, .int v2]) (rest := []) C hS KX8_isOf (cX8_isOf_ qr_4) g_917 ⟨rfl, rfl⟩ ⟨(Nat.le_of_ble_eq_true rfl), (Nat.le_of_ble_eq_true rfl)⟩ hl.1 rfl rfl (Nat.le_of_ble_eq_true rfl) ⟨Nat.zero_le _, Nat.zero_le _⟩ dX8_boy_11 (fun H locs hS => ?_)
    refine lv_if_eq (tgt := 34) hx hb dX8_boy_14 (by decide) (fun c_6 => ?_) (fun c_6 => ?_)
    · replace hf := if_p c_6 hf
      refine lv_ldc (v := (-1000000001)) hx hb hown (hw _ g_920) dX8_boy_34 ?_
      exact rtI C hS hf dX8_boy_36
    · replace hf := if_n c_6 hf
      refine lv_iconst (v := 2) hx hb dX8_boy_17 (by decide) ?_
      refine lv_iload_n hx hb dX8_boy_18 rfl (lv_at hl 3 rfl) ?_
      obtain ⟨r_7, x_8, qr_7, hf⟩ := bd_out hf
      refine rsI (As := [.int 2, .int v3]) (rest := []) C hS KX8_isOf (cX8_isOf_ qr_7) g_917 ⟨rfl, rfl⟩ ⟨(Nat.le_of_ble_eq_true rfl), (Nat.le_of_ble_eq_true rfl)⟩ hl.1 rfl rfl (Nat.le_of_ble_eq_true rfl) ⟨Nat.zero_le _, Nat.zero_le _⟩ dX8_boy_19 (fun H locs hS => ?_)
      refine lv_if_eq (tgt := 34) hx hb dX8_boy_22 (by decide) (fun c_9 => ?_) (fun c_9 => ?_)
      · replace hf := if_p c_9 hf
        refine lv_ldc (v := (-1000000001)) hx hb hown (hw _ g_920) dX8_boy_34 ?_
        exact rtI C hS hf dX8_boy_36
      · replace hf := if_n c_9 hf
        refine lv_iconst (v := 3) hx hb dX8_boy_25 (by decide) ?_
        refine lv_iload hx hb dX8_boy_26 (lv_at hl 4 rfl) ?_
        obtain ⟨r_10, x_11, qr_10, hf⟩ := bd_out hf
        refine rsI (As := [.int 3, .int v4]) (rest := []) C hS KX8_isOf (cX8_isOf_ qr_10) g_917 ⟨rfl, rfl⟩ ⟨(Nat.le_of_ble_eq_true rfl), (Nat.le_of_ble_eq_true rfl)⟩ hl.1 rfl rfl (Nat.le_of_ble_eq_true rfl) ⟨Nat.zero_le _, Nat.zero_le _⟩ dX8_boy_28 (fun H locs hS => ?_)
        refine lv_if_ne (tgt := 37) hx hb dX8_boy_31 (by decide) (fun c_12 => ?_) (fun c_12 => ?_)
        · replace hf := if_n c_12 hf
          refine lv_aload_n hx hb dX8_boy_37 rfl (lv_at hl 0 rfl) ?_
          refine gf7_0 C hS (rfl) g_805 dX8_boy_38 ?_
          refine lv_iconst (v := 1) hx hb dX8_boy_41 (by decide) ?_
          obtain ⟨gg_13, hf⟩ := gd_out hf
          refine alI C hS (rfl) rfl gg_13 dX8_boy_42 ?_
          refine lv_bipush (v := 8) hx hb dX8_boy_43 (by decide) ?_
          refine lv_icmp_ne (tgt := 53) hx hb dX8_boy_45 (by decide) (fun c_14 => ?_) (fun c_14 => ?_)
          · replace hf := if_n c_14 hf
            refine lv_aload_n hx hb dX8_boy_53 rfl (lv_at hl 0 rfl) ?_
            refine lv_iload_n hx hb dX8_boy_54 rfl (lv_at hl 1 rfl) ?_
            refine lv_iload_n hx hb dX8_boy_55 rfl (lv_at hl 2 rfl) ?_
            refine lv_iload_n hx hb dX8_boy_56 rfl (lv_at hl 3 rfl) ?_
            refine lv_iload hx hb dX8_boy_57 (lv_at hl 4 rfl) ?_
            obtain ⟨r_15, x_16, qr_15, hf⟩ := bd_out hf
            refine rvI (As := [.int v1, .int v2, .int v3, .int v4]) (rest := []) C hS (rfl) rfl KX8_comes (cX8_comes_ qr_15) g_922 ⟨rfl, rfl⟩ ⟨(Nat.le_of_ble_eq_true rfl), (Nat.le_of_ble_eq_true rfl)⟩ hl.1 rfl rfl (Nat.le_of_ble_eq_true rfl) ⟨Nat.zero_le _, Nat.zero_le _⟩ dX8_boy_59 (fun H locs hS => ?_)
            exact rtI C hS hf dX8_boy_62
          · replace hf := if_p c_14 hf
            refine lv_ldc (v := (-1000000003)) hx hb hown (hw _ g_921) dX8_boy_48 ?_
            refine lv_goto (tgt := 62) hx hb dX8_boy_50 (by decide) ?_
            exact rtI C hS hf dX8_boy_62
        · replace hf := if_p c_12 hf
          refine lv_ldc (v := (-1000000001)) hx hb hown (hw _ g_920) dX8_boy_34 ?_
          exact rtI C hS hf dX8_boy_36
abbrev rmX8_counts : Room := { frames := 0, cells := 0, slots := 0, locals := 0 }
set_option maxRecDepth 100000 in
set_option maxHeartbeats 4000000 in
theorem wbX8_counts_h10 {p : Program} {l : Launch} {e : Env} {s : State} {m : MethodId} {args : Array Value} {below : List Frame} {meth : Method} {c : Code} {G : GT} {r : Int32} {z : XS} (C : CX G p s m args meth c cX8_counts 3 (some .int) RX8) {k10 : Int32 → Int32 → XS → Option (Int32 × XS)} (hk10 : ∀ (u1 : Int32) (u2 : Int32) (x : XS), k10 u1 u2 x = some (r, z) → ∀ (H : Heap) (locs : List Loc) (ls : Array Slot), SR G x H locs → lv_has ls 3 [(0, .ref (G.1 + 99)), (1, .int u1), (2, .int u2)] → W p l e rmX8_counts s m args below meth c H locs 0 0 (MQ below (QC G (some (.int r)) z) args s 0 0 (AB G)) (F0 m 10 ls [])) : ∀ (u1 : Int32) (u2 : Int32) (x : XS), bX8_counts_h10 k10 u1 u2 x = some (r, z) → ∀ (H : Heap) (locs : List Loc) (ls : Array Slot), SR G x H locs → lv_has ls 3 [(0, .ref (G.1 + 99)), (1, .int u1), (2, .int u2)] → W p l e rmX8_counts s m args below meth c H locs 0 0 (MQ below (QC G (some (.int r)) z) args s 0 0 (AB G)) (F0 m 10 ls []) := by
  intro u1 u2 x hf H locs ls hS hl
  have hx := C.1
  have hb := C.2.1
  have hown := C.2.2.2.2.2.1
  have hw := C.2.2.2.2.2.2.1
  unfold bX8_counts_h10 at hf
  refine lv_iload_n hx hb dX8_counts_10 rfl (lv_at hl 2 rfl) ?_
  refine lv_if_lt (tgt := 41) hx hb dX8_counts_11 (by decide) (fun c_3 => ?_) (fun c_3 => ?_)
  · replace hf := if_p c_3 hf
    refine lv_iconst (v := (-1)) hx hb dX8_counts_41 (by decide) ?_
    exact rtI C hS hf dX8_counts_42
  · replace hf := if_n c_3 hf
    refine lv_aload_n hx hb dX8_counts_14 rfl (lv_at hl 0 rfl) ?_
    refine gf7_0 C hS (rfl) g_805 dX8_counts_15 ?_
    refine lv_bipush (v := 65) hx hb dX8_counts_18 (by decide) ?_
    refine lv_iconst (v := 2) hx hb dX8_counts_20 (by decide) ?_
    refine lv_iload_n hx hb dX8_counts_21 rfl (lv_at hl 2 rfl) ?_
    refine lv_imul hx hb dX8_counts_22 ?_
    refine lv_iadd hx hb dX8_counts_23 ?_
    obtain ⟨gg_4, hf⟩ := gd_out hf
    refine alI C hS (rfl) rfl gg_4 dX8_counts_24 ?_
    refine lv_sipush (v := 1000) hx hb dX8_counts_25 (by decide) ?_
    refine lv_idiv hx hb dX8_counts_28 (by decide) ?_
    obtain ⟨v_5, ev_5, hf⟩ := st_out hf
    refine topI ev_5 ?_
    refine lv_iload_n hx hb dX8_counts_29 rfl (lv_at hl 1 rfl) ?_
    refine lv_icmp_ne (tgt := 35) hx hb dX8_counts_30 (by decide) (fun c_6 => ?_) (fun c_6 => ?_)
    · replace hf := if_n c_6 hf
      obtain ⟨v_7, ev_7, hf⟩ := st_out hf
      refine lv_iinc (v := v_7) (lv' := [(2, .int v_7), (0, .ref (G.1 + 99)), (1, .int u1)]) hx hb dX8_counts_35 hl (k := 2) rfl (by rw [ev_7]; rfl) (by decide) rfl (fun ls hl => ?_)
      refine lv_goto (tgt := 10) hx hb dX8_counts_38 (by decide) ?_
      exact hk10 u1 v_7 x hf _ _ _ hS (lv_sub hl [1, 2, 0] rfl)
    · replace hf := if_p c_6 hf
      refine lv_iload_n hx hb dX8_counts_33 rfl (lv_at hl 2 rfl) ?_
      exact rtI C hS hf dX8_counts_34
theorem wlX8_counts_h10 {p : Program} {l : Launch} {e : Env} {s : State} {m : MethodId} {args : Array Value} {below : List Frame} {meth : Method} {c : Code} {G : GT} {r : Int32} {z : XS} (C : CX G p s m args meth c cX8_counts 3 (some .int) RX8) (n : Nat) : ∀ (u1 : Int32) (u2 : Int32) (x : XS), lX8_counts_h10 n u1 u2 x = some (r, z) → ∀ (H : Heap) (locs : List Loc) (ls : Array Slot), SR G x H locs → lv_has ls 3 [(0, .ref (G.1 + 99)), (1, .int u1), (2, .int u2)] → W p l e rmX8_counts s m args below meth c H locs 0 0 (MQ below (QC G (some (.int r)) z) args s 0 0 (AB G)) (F0 m 10 ls []) := by
  induction n with
  | zero => intro u1 u2 x hf H locs ls hS hl; exact absurd hf (by intro q; cases q)
  | succ n ih => exact wbX8_counts_h10 C ih
theorem wX8_counts_h10 {p : Program} {l : Launch} {e : Env} {s : State} {m : MethodId} {args : Array Value} {below : List Frame} {meth : Method} {c : Code} {G : GT} {r : Int32} {z : XS} (C : CX G p s m args meth c cX8_counts 3 (some .int) RX8) : ∀ (u1 : Int32) (u2 : Int32) (x : XS), fX8_counts_h10 u1 u2 x = some (r, z) → ∀ (H : Heap) (locs : List Loc) (ls : Array Slot), SR G x H locs → lv_has ls 3 [(0, .ref (G.1 + 99)), (1, .int u1), (2, .int u2)] → W p l e rmX8_counts s m args below meth c H locs 0 0 (MQ below (QC G (some (.int r)) z) args s 0 0 (AB G)) (F0 m 10 ls []) := wlX8_counts_h10 C FU
set_option maxRecDepth 100000 in
set_option maxHeartbeats 4000000 in
theorem cX8_counts_ {G : GT} {l : Launch} {v1 : Int32} {x z : XS} {r : Int32} (hf : fX8_counts v1 x = some (r, z)) : Ct G l yX8_counts (.code yX8_counts cX8_counts 3 (some .int)) rmX8_counts [.ref (G.1 + 99), .int v1] x (some (.int r)) z := by
  refine Ct.of (by decide +kernel) (Nat.le_of_ble_eq_true rfl) ?_
  intro p e s m args below meth c C ls hl hS
  have C : CX G p s m args meth c cX8_counts 3 (some .int) RX8 := C
  have hl : lv_has ls 3 [(0, .ref (G.1 + 99)), (1, .int v1)] := hl
  have hx := C.1
  have hb := C.2.1
  have hown := C.2.2.2.2.2.1
  have hw := C.2.2.2.2.2.2.1
  unfold fX8_counts at hf
  refine lv_aload_n hx hb dX8_counts_0 rfl (lv_at hl 0 rfl) ?_
  refine gf7_0 C hS (rfl) g_805 dX8_counts_1 ?_
  refine lv_bipush (v := 8) hx hb dX8_counts_4 (by decide) ?_
  obtain ⟨gg_1, hf⟩ := gd_out hf
  refine alI C hS (rfl) rfl gg_1 dX8_counts_6 ?_
  refine lv_iconst (v := 1) hx hb dX8_counts_7 (by decide) ?_
  refine lv_isub hx hb dX8_counts_8 ?_
  obtain ⟨v_2, ev_2, hf⟩ := st_out hf
  refine topI ev_2 ?_
  refine lv_istore_n (lv' := [(2, .int v_2), (0, .ref (G.1 + 99)), (1, .int v1)]) hx hb dX8_counts_9 rfl hl (by decide) rfl (fun ls hl => ?_)
  exact wX8_counts_h10  C v1 v_2 x hf _ _ _ hS (lv_sub hl [1, 2, 0] rfl)
abbrev rmX8_two : Room := { frames := 0, cells := 0, slots := 0, locals := 0 }
set_option maxRecDepth 100000 in
set_option maxHeartbeats 4000000 in
theorem cX8_two_ {G : GT} {l : Launch} {v0 : Int32} {v1 : Int32} {v2 : Int32} {x z : XS} {r : Int32} (hf : fX8_two v0 v1 v2 x = some (r, z)) : Ct G l yX8_two (.code yX8_two cX8_two 3 (some .int)) rmX8_two [.int v0, .int v1, .int v2] x (some (.int r)) z := by
  refine Ct.of (by decide +kernel) (Nat.le_of_ble_eq_true rfl) ?_
  intro p e s m args below meth c C ls hl hS
  have C : CX G p s m args meth c cX8_two 3 (some .int) RX8 := C
  have hl : lv_has ls 3 [(0, .int v0), (1, .int v1), (2, .int v2)] := hl
  have hx := C.1
  have hb := C.2.1
  have hown := C.2.2.2.2.2.1
  have hw := C.2.2.2.2.2.2.1
  unfold fX8_two at hf
  refine lv_iload_n hx hb dX8_two_0 rfl (lv_at hl 0 rfl) ?_
  by_cases c_1 : v0 = (-8)
  · replace hf := if_p c_1 hf
    refine tswI (k := (-8)) (off := 116) (tgt := 117) hx hb dX8_two_1 c_1 (by decide) rfl (by decide) ?_
    refine lv_iload_n hx hb dX8_two_117 rfl (lv_at hl 1 rfl) ?_
    refine lv_iload_n hx hb dX8_two_118 rfl (lv_at hl 2 rfl) ?_
    refine lv_imul hx hb dX8_two_119 ?_
    exact rtI C hS hf dX8_two_120
  · replace hf := if_n c_1 hf
    by_cases c_2 : v0 = (-7)
    · replace hf := if_p c_2 hf
      refine tswI (k := (-7)) (off := 112) (tgt := 113) hx hb dX8_two_1 c_2 (by decide) rfl (by decide) ?_
      refine lv_iload_n hx hb dX8_two_113 rfl (lv_at hl 1 rfl) ?_
      refine lv_iload_n hx hb dX8_two_114 rfl (lv_at hl 2 rfl) ?_
      refine lv_isub hx hb dX8_two_115 ?_
      exact rtI C hS hf dX8_two_116
    · replace hf := if_n c_2 hf
      by_cases c_3 : v0 = (-6)
      · replace hf := if_p c_3 hf
        refine tswI (k := (-6)) (off := 108) (tgt := 109) hx hb dX8_two_1 c_3 (by decide) rfl (by decide) ?_
        refine lv_iload_n hx hb dX8_two_109 rfl (lv_at hl 1 rfl) ?_
        refine lv_iload_n hx hb dX8_two_110 rfl (lv_at hl 2 rfl) ?_
        refine lv_iadd hx hb dX8_two_111 ?_
        exact rtI C hS hf dX8_two_112
      · replace hf := if_n c_3 hf
        by_cases c_4 : v0 = (-5)
        · replace hf := if_p c_4 hf
          refine tswI (k := (-5)) (off := 97) (tgt := 98) hx hb dX8_two_1 c_4 (by decide) rfl (by decide) ?_
          refine lv_iload_n hx hb dX8_two_98 rfl (lv_at hl 1 rfl) ?_
          refine lv_iload_n hx hb dX8_two_99 rfl (lv_at hl 2 rfl) ?_
          refine lv_icmp_le (tgt := 107) hx hb dX8_two_100 (by decide) (fun c_5 => ?_) (fun c_5 => ?_)
          · replace hf := if_p c_5 hf
            refine lv_iconst (v := 0) hx hb dX8_two_107 (by decide) ?_
            exact rtI C hS hf dX8_two_108
          · replace hf := if_n c_5 hf
            refine lv_iconst (v := 1) hx hb dX8_two_103 (by decide) ?_
            refine lv_goto (tgt := 108) hx hb dX8_two_104 (by decide) ?_
            exact rtI C hS hf dX8_two_108
        · replace hf := if_n c_4 hf
          by_cases c_6 : v0 = (-4)
          · replace hf := if_p c_6 hf
            refine tswI (k := (-4)) (off := 86) (tgt := 87) hx hb dX8_two_1 c_6 (by decide) rfl (by decide) ?_
            refine lv_iload_n hx hb dX8_two_87 rfl (lv_at hl 1 rfl) ?_
            refine lv_iload_n hx hb dX8_two_88 rfl (lv_at hl 2 rfl) ?_
            refine lv_icmp_ne (tgt := 96) hx hb dX8_two_89 (by decide) (fun c_7 => ?_) (fun c_7 => ?_)
            · replace hf := if_n c_7 hf
              refine lv_iconst (v := 0) hx hb dX8_two_96 (by decide) ?_
              exact rtI C hS hf dX8_two_97
            · replace hf := if_p c_7 hf
              refine lv_iconst (v := 1) hx hb dX8_two_92 (by decide) ?_
              refine lv_goto (tgt := 97) hx hb dX8_two_93 (by decide) ?_
              exact rtI C hS hf dX8_two_97
          · replace hf := if_n c_6 hf
            by_cases c_8 : v0 = (-3)
            · replace hf := if_p c_8 hf
              refine tswI (k := (-3)) (off := 75) (tgt := 76) hx hb dX8_two_1 c_8 (by decide) rfl (by decide) ?_
              refine lv_iload_n hx hb dX8_two_76 rfl (lv_at hl 1 rfl) ?_
              refine lv_iload_n hx hb dX8_two_77 rfl (lv_at hl 2 rfl) ?_
              refine lv_icmp_ge (tgt := 85) hx hb dX8_two_78 (by decide) (fun c_9 => ?_) (fun c_9 => ?_)
              · replace hf := if_p c_9 hf
                refine lv_iconst (v := 0) hx hb dX8_two_85 (by decide) ?_
                exact rtI C hS hf dX8_two_86
              · replace hf := if_n c_9 hf
                refine lv_iconst (v := 1) hx hb dX8_two_81 (by decide) ?_
                refine lv_goto (tgt := 86) hx hb dX8_two_82 (by decide) ?_
                exact rtI C hS hf dX8_two_86
            · replace hf := if_n c_8 hf
              by_cases c_10 : v0 = (-2)
              · replace hf := if_p c_10 hf
                refine tswI (k := (-2)) (off := 61) (tgt := 62) hx hb dX8_two_1 c_10 (by decide) rfl (by decide) ?_
                refine lv_iload_n hx hb dX8_two_62 rfl (lv_at hl 1 rfl) ?_
                refine lv_if_eq (tgt := 74) hx hb dX8_two_63 (by decide) (fun c_11 => ?_) (fun c_11 => ?_)
                · replace hf := if_p c_11 hf
                  refine lv_iconst (v := 0) hx hb dX8_two_74 (by decide) ?_
                  exact rtI C hS hf dX8_two_75
                · replace hf := if_n c_11 hf
                  refine lv_iload_n hx hb dX8_two_66 rfl (lv_at hl 2 rfl) ?_
                  refine lv_if_eq (tgt := 74) hx hb dX8_two_67 (by decide) (fun c_12 => ?_) (fun c_12 => ?_)
                  · replace hf := if_p c_12 hf
                    refine lv_iconst (v := 0) hx hb dX8_two_74 (by decide) ?_
                    exact rtI C hS hf dX8_two_75
                  · replace hf := if_n c_12 hf
                    refine lv_iconst (v := 1) hx hb dX8_two_70 (by decide) ?_
                    refine lv_goto (tgt := 75) hx hb dX8_two_71 (by decide) ?_
                    exact rtI C hS hf dX8_two_75
              · replace hf := if_n c_10 hf
                by_cases c_13 : v0 = (-1)
                · replace hf := if_p c_13 hf
                  refine tswI (k := (-1)) (off := 47) (tgt := 48) hx hb dX8_two_1 c_13 (by decide) rfl (by decide) ?_
                  refine lv_iload_n hx hb dX8_two_48 rfl (lv_at hl 1 rfl) ?_
                  refine lv_if_ne (tgt := 56) hx hb dX8_two_49 (by decide) (fun c_14 => ?_) (fun c_14 => ?_)
                  · replace hf := if_n c_14 hf
                    refine lv_iconst (v := 1) hx hb dX8_two_56 (by decide) ?_
                    refine lv_goto (tgt := 61) hx hb dX8_two_57 (by decide) ?_
                    exact rtI C hS hf dX8_two_61
                  · replace hf := if_p c_14 hf
                    refine lv_iload_n hx hb dX8_two_52 rfl (lv_at hl 2 rfl) ?_
                    refine lv_if_eq (tgt := 60) hx hb dX8_two_53 (by decide) (fun c_15 => ?_) (fun c_15 => ?_)
                    · replace hf := if_p c_15 hf
                      refine lv_iconst (v := 0) hx hb dX8_two_60 (by decide) ?_
                      exact rtI C hS hf dX8_two_61
                    · replace hf := if_n c_15 hf
                      refine lv_iconst (v := 1) hx hb dX8_two_56 (by decide) ?_
                      refine lv_goto (tgt := 61) hx hb dX8_two_57 (by decide) ?_
                      exact rtI C hS hf dX8_two_61
                · replace hf := if_n c_13 hf
                  refine lv_tableOut (tgt := 121) hx hb dX8_two_1 (by have zc_1 := lv_neT c_1 (a := (-8)) (by decide); have zc_2 := lv_neT c_2 (a := (-7)) (by decide); have zc_3 := lv_neT c_3 (a := (-6)) (by decide); have zc_4 := lv_neT c_4 (a := (-5)) (by decide); have zc_6 := lv_neT c_6 (a := (-4)) (by decide); have zc_8 := lv_neT c_8 (a := (-3)) (by decide); have zc_10 := lv_neT c_10 (a := (-2)) (by decide); have zc_13 := lv_neT c_13 (a := (-1)) (by decide); omega) (by decide) ?_
                  refine lv_iload_n hx hb dX8_two_121 rfl (lv_at hl 2 rfl) ?_
                  refine lv_if_ne (tgt := 129) hx hb dX8_two_122 (by decide) (fun c_16 => ?_) (fun c_16 => ?_)
                  · replace hf := if_n c_16 hf
                    refine lv_iload_n hx hb dX8_two_129 rfl (lv_at hl 1 rfl) ?_
                    refine lv_iload_n hx hb dX8_two_130 rfl (lv_at hl 2 rfl) ?_
                    obtain ⟨gg_17, hf⟩ := gd_out hf
                    refine lv_idiv hx hb dX8_two_131 (of_decide_eq_true gg_17) ?_
                    obtain ⟨v_18, ev_18, hf⟩ := st_out hf
                    refine topI ev_18 ?_
                    exact rtI C hS hf dX8_two_132
                  · replace hf := if_p c_16 hf
                    refine lv_iconst (v := 0) hx hb dX8_two_125 (by decide) ?_
                    refine lv_goto (tgt := 132) hx hb dX8_two_126 (by decide) ?_
                    exact rtI C hS hf dX8_two_132
abbrev rmX8_worksOut : Room := { frames := 1, cells := 0, slots := 0, locals := 22 }
set_option maxRecDepth 100000 in
set_option maxHeartbeats 4000000 in
theorem wbX8_worksOut_h21 {p : Program} {l : Launch} {e : Env} {s : State} {m : MethodId} {args : Array Value} {below : List Frame} {meth : Method} {c : Code} {G : GT} {r : Int32} {z : XS} (C : CX G p s m args meth c cX8_worksOut 6 (some .int) RX8) {k21 : Int32 → Int32 → Int32 → Int32 → XS → Option (Int32 × XS)} (hk21 : ∀ (u1 : Int32) (u2 : Int32) (u3 : Int32) (u4 : Int32) (x : XS), k21 u1 u2 u3 u4 x = some (r, z) → ∀ (H : Heap) (locs : List Loc) (ls : Array Slot), SR G x H locs → lv_has ls 6 [(0, .ref (G.1 + 99)), (1, .int u1), (2, .int u2), (3, .int u3), (4, .int u4)] → W p l e rmX8_worksOut s m args below meth c H locs 0 0 (MQ below (QC G (some (.int r)) z) args s 0 0 (AB G)) (F0 m 21 ls [])) : ∀ (u1 : Int32) (u2 : Int32) (u3 : Int32) (u4 : Int32) (x : XS), bX8_worksOut_h21 k21 u1 u2 u3 u4 x = some (r, z) → ∀ (H : Heap) (locs : List Loc) (ls : Array Slot), SR G x H locs → lv_has ls 6 [(0, .ref (G.1 + 99)), (1, .int u1), (2, .int u2), (3, .int u3), (4, .int u4)] → W p l e rmX8_worksOut s m args below meth c H locs 0 0 (MQ below (QC G (some (.int r)) z) args s 0 0 (AB G)) (F0 m 21 ls []) := by
  intro u1 u2 u3 u4 x hf H locs ls hS hl
  have hx := C.1
  have hb := C.2.1
  have hown := C.2.2.2.2.2.1
  have hw := C.2.2.2.2.2.2.1
  unfold bX8_worksOut_h21 at hf
  refine lv_iload hx hb dX8_worksOut_21 (lv_at hl 4 rfl) ?_
  refine lv_iload_n hx hb dX8_worksOut_23 rfl (lv_at hl 3 rfl) ?_
  refine lv_icmp_ge (tgt := 155) hx hb dX8_worksOut_24 (by decide) (fun c_3 => ?_) (fun c_3 => ?_)
  · replace hf := if_p c_3 hf
    refine lv_aload_n hx hb dX8_worksOut_155 rfl (lv_at hl 0 rfl) ?_
    refine gf7_22 C hS (rfl) g_827 dX8_worksOut_156 ?_
    refine lv_iconst (v := 0) hx hb dX8_worksOut_159 (by decide) ?_
    obtain ⟨gg_4, hf⟩ := gd_out hf
    refine alI C hS (rfl) rfl gg_4 dX8_worksOut_160 ?_
    exact rtI C hS hf dX8_worksOut_161
  · replace hf := if_n c_3 hf
    refine lv_aload_n hx hb dX8_worksOut_27 rfl (lv_at hl 0 rfl) ?_
    refine gf7_0 C hS (rfl) g_805 dX8_worksOut_28 ?_
    refine lv_bipush (v := 93) hx hb dX8_worksOut_31 (by decide) ?_
    refine lv_bipush (v := 96) hx hb dX8_worksOut_33 (by decide) ?_
    refine lv_iload_n hx hb dX8_worksOut_35 rfl (lv_at hl 1 rfl) ?_
    refine lv_imul hx hb dX8_worksOut_36 ?_
    refine lv_iadd hx hb dX8_worksOut_37 ?_
    refine lv_iload hx hb dX8_worksOut_38 (lv_at hl 4 rfl) ?_
    refine lv_iadd hx hb dX8_worksOut_40 ?_
    obtain ⟨gg_5, hf⟩ := gd_out hf
    refine alI C hS (rfl) rfl gg_5 dX8_worksOut_41 ?_
    obtain ⟨v_6, ev_6, hf⟩ := st_out hf
    refine topI ev_6 ?_
    refine lv_istore (lv' := [(5, .int v_6), (0, .ref (G.1 + 99)), (1, .int u1), (2, .int u2), (3, .int u3), (4, .int u4)]) hx hb dX8_worksOut_42 hl (by decide) rfl (fun ls hl => ?_)
    refine lv_iload hx hb dX8_worksOut_44 (lv_at hl 0 rfl) ?_
    refine lv_if_lt (tgt := 85) hx hb dX8_worksOut_46 (by decide) (fun c_7 => ?_) (fun c_7 => ?_)
    · replace hf := if_p c_7 hf
      refine lv_iload hx hb dX8_worksOut_85 (lv_at hl 0 rfl) ?_
      refine lv_bipush (v := (-10)) hx hb dX8_worksOut_87 (by decide) ?_
      refine lv_icmp_ne (tgt := 119) hx hb dX8_worksOut_89 (by decide) (fun c_8 => ?_) (fun c_8 => ?_)
      · replace hf := if_n c_8 hf
        obtain ⟨v_9, ev_9, hf⟩ := st_out hf
        refine lv_iinc (v := v_9) (lv' := [(2, .int v_9), (5, .int v_6), (0, .ref (G.1 + 99)), (1, .int u1), (3, .int u3), (4, .int u4)]) hx hb dX8_worksOut_119 hl (k := 3) rfl (by rw [ev_9]; rfl) (by decide) rfl (fun ls hl => ?_)
        refine lv_aload_n hx hb dX8_worksOut_122 rfl (lv_at hl 2 rfl) ?_
        refine gf7_22 C hS (rfl) g_827 dX8_worksOut_123 ?_
        refine lv_iload_n hx hb dX8_worksOut_126 rfl (lv_at hl 0 rfl) ?_
        refine lv_iconst (v := 1) hx hb dX8_worksOut_127 (by decide) ?_
        refine lv_isub hx hb dX8_worksOut_128 ?_
        refine lv_iload hx hb dX8_worksOut_129 (lv_at hl 1 rfl) ?_
        refine lv_aload_n hx hb dX8_worksOut_131 rfl (lv_at hl 2 rfl) ?_
        refine gf7_22 C hS (rfl) g_827 dX8_worksOut_132 ?_
        refine lv_iload_n hx hb dX8_worksOut_135 rfl (lv_at hl 0 rfl) ?_
        refine lv_iconst (v := 1) hx hb dX8_worksOut_136 (by decide) ?_
        refine lv_isub hx hb dX8_worksOut_137 ?_
        obtain ⟨gg_10, hf⟩ := gd_out hf
        refine alI C hS (rfl) rfl gg_10 dX8_worksOut_138 ?_
        refine lv_aload_n hx hb dX8_worksOut_139 rfl (lv_at hl 2 rfl) ?_
        refine gf7_22 C hS (rfl) g_827 dX8_worksOut_140 ?_
        refine lv_iload_n hx hb dX8_worksOut_143 rfl (lv_at hl 0 rfl) ?_
        obtain ⟨gg_11, hf⟩ := gd_out hf
        refine alI C hS (rfl) rfl gg_11 dX8_worksOut_144 ?_
        obtain ⟨r_12, x_13, qr_12, hf⟩ := bd_out hf
        refine rsI (As := [.int v_6, .int (x 110 (ix (v_9 - 1))), .int (x 110 (ix v_9))]) (rest := [.int (v_9 - 1), .ref (G.1 + 110)]) C hS KX8_two (cX8_two_ qr_12) g_974 ⟨rfl, rfl⟩ ⟨(Nat.le_of_ble_eq_true rfl), (Nat.le_of_ble_eq_true rfl)⟩ hl.1 rfl rfl (Nat.le_of_ble_eq_true rfl) ⟨Nat.zero_le _, Nat.zero_le _⟩ dX8_worksOut_145 (fun H locs hS => ?_)
        obtain ⟨gg_14, hf⟩ := gd_out hf
        obtain ⟨x_15, ex_15, hf⟩ := st_out hf
        refine asI C hS (rfl) rfl gg_14 ex_15 dX8_worksOut_148 (fun H locs hS => ?_)
        obtain ⟨v_16, ev_16, hf⟩ := st_out hf
        refine lv_iinc (v := v_16) (lv' := [(4, .int v_16), (2, .int v_9), (5, .int v_6), (0, .ref (G.1 + 99)), (1, .int u1), (3, .int u3)]) hx hb dX8_worksOut_149 hl (k := 5) rfl (by rw [ev_16]; rfl) (by decide) rfl (fun ls hl => ?_)
        refine lv_goto (tgt := 21) hx hb dX8_worksOut_152 (by decide) ?_
        exact hk21 u1 v_9 u3 v_16 x_15 hf _ _ _ hS (lv_sub hl [3, 4, 1, 5, 0] rfl)
      · replace hf := if_p c_8 hf
        refine lv_aload_n hx hb dX8_worksOut_92 rfl (lv_at hl 1 rfl) ?_
        refine gf7_22 C hS (rfl) g_827 dX8_worksOut_93 ?_
        refine lv_iload_n hx hb dX8_worksOut_96 rfl (lv_at hl 3 rfl) ?_
        refine lv_iconst (v := 1) hx hb dX8_worksOut_97 (by decide) ?_
        refine lv_isub hx hb dX8_worksOut_98 ?_
        refine lv_aload_n hx hb dX8_worksOut_99 rfl (lv_at hl 1 rfl) ?_
        refine gf7_22 C hS (rfl) g_827 dX8_worksOut_100 ?_
        refine lv_iload_n hx hb dX8_worksOut_103 rfl (lv_at hl 3 rfl) ?_
        refine lv_iconst (v := 1) hx hb dX8_worksOut_104 (by decide) ?_
        refine lv_isub hx hb dX8_worksOut_105 ?_
        obtain ⟨gg_17, hf⟩ := gd_out hf
        refine alI C hS (rfl) rfl gg_17 dX8_worksOut_106 ?_
        refine lv_if_ne (tgt := 114) hx hb dX8_worksOut_107 (by decide) (fun c_18 => ?_) (fun c_18 => ?_)
        · replace hf := if_n c_18 hf
          refine lv_iconst (v := 0) hx hb dX8_worksOut_114 (by decide) ?_
          obtain ⟨gg_19, hf⟩ := gd_out hf
          obtain ⟨x_20, ex_20, hf⟩ := st_out hf
          refine asI C hS (rfl) rfl gg_19 ex_20 dX8_worksOut_115 (fun H locs hS => ?_)
          refine lv_goto (tgt := 149) hx hb dX8_worksOut_116 (by decide) ?_
          obtain ⟨v_21, ev_21, hf⟩ := st_out hf
          refine lv_iinc (v := v_21) (lv' := [(4, .int v_21), (5, .int v_6), (0, .ref (G.1 + 99)), (1, .int u1), (2, .int u2), (3, .int u3)]) hx hb dX8_worksOut_149 hl (k := 5) rfl (by rw [ev_21]; rfl) (by decide) rfl (fun ls hl => ?_)
          refine lv_goto (tgt := 21) hx hb dX8_worksOut_152 (by decide) ?_
          exact hk21 u1 u2 u3 v_21 x_20 hf _ _ _ hS (lv_sub hl [2, 3, 4, 5, 0] rfl)
        · replace hf := if_p c_18 hf
          refine lv_iconst (v := 1) hx hb dX8_worksOut_110 (by decide) ?_
          refine lv_goto (tgt := 115) hx hb dX8_worksOut_111 (by decide) ?_
          obtain ⟨gg_22, hf⟩ := gd_out hf
          obtain ⟨x_23, ex_23, hf⟩ := st_out hf
          refine asI C hS (rfl) rfl gg_22 ex_23 dX8_worksOut_115 (fun H locs hS => ?_)
          refine lv_goto (tgt := 149) hx hb dX8_worksOut_116 (by decide) ?_
          obtain ⟨v_24, ev_24, hf⟩ := st_out hf
          refine lv_iinc (v := v_24) (lv' := [(4, .int v_24), (5, .int v_6), (0, .ref (G.1 + 99)), (1, .int u1), (2, .int u2), (3, .int u3)]) hx hb dX8_worksOut_149 hl (k := 5) rfl (by rw [ev_24]; rfl) (by decide) rfl (fun ls hl => ?_)
          refine lv_goto (tgt := 21) hx hb dX8_worksOut_152 (by decide) ?_
          exact hk21 u1 u2 u3 v_24 x_23 hf _ _ _ hS (lv_sub hl [2, 3, 4, 5, 0] rfl)
    · replace hf := if_n c_7 hf
      refine lv_aload_n hx hb dX8_worksOut_49 rfl (lv_at hl 1 rfl) ?_
      refine gf7_22 C hS (rfl) g_827 dX8_worksOut_50 ?_
      refine lv_iload_n hx hb dX8_worksOut_53 rfl (lv_at hl 3 rfl) ?_
      refine lv_iload hx hb dX8_worksOut_54 (lv_at hl 0 rfl) ?_
      refine lv_sipush (v := 10000) hx hb dX8_worksOut_56 (by decide) ?_
      refine lv_icmp_ge (tgt := 67) hx hb dX8_worksOut_59 (by decide) (fun c_25 => ?_) (fun c_25 => ?_)
      · replace hf := if_p c_25 hf
        refine lv_aload_n hx hb dX8_worksOut_67 rfl (lv_at hl 1 rfl) ?_
        refine gf7_23 C hS (rfl) g_828 dX8_worksOut_68 ?_
        refine lv_iload hx hb dX8_worksOut_71 (lv_at hl 0 rfl) ?_
        refine lv_sipush (v := 10000) hx hb dX8_worksOut_73 (by decide) ?_
        refine lv_isub hx hb dX8_worksOut_76 ?_
        obtain ⟨gg_26, hf⟩ := gd_out hf
        refine alI C hS (rfl) rfl gg_26 dX8_worksOut_77 ?_
        obtain ⟨gg_27, hf⟩ := gd_out hf
        obtain ⟨x_28, ex_28, hf⟩ := st_out hf
        refine asI C hS (rfl) rfl gg_27 ex_28 dX8_worksOut_78 (fun H locs hS => ?_)
        obtain ⟨v_29, ev_29, hf⟩ := st_out hf
        refine lv_iinc (v := v_29) (lv' := [(2, .int v_29), (5, .int v_6), (0, .ref (G.1 + 99)), (1, .int u1), (3, .int u3), (4, .int u4)]) hx hb dX8_worksOut_79 hl (k := 3) rfl (by rw [ev_29]; rfl) (by decide) rfl (fun ls hl => ?_)
        refine lv_goto (tgt := 149) hx hb dX8_worksOut_82 (by decide) ?_
        obtain ⟨v_30, ev_30, hf⟩ := st_out hf
        refine lv_iinc (v := v_30) (lv' := [(4, .int v_30), (2, .int v_29), (5, .int v_6), (0, .ref (G.1 + 99)), (1, .int u1), (3, .int u3)]) hx hb dX8_worksOut_149 hl (k := 5) rfl (by rw [ev_30]; rfl) (by decide) rfl (fun ls hl => ?_)
        refine lv_goto (tgt := 21) hx hb dX8_worksOut_152 (by decide) ?_
        exact hk21 u1 v_29 u3 v_30 x_28 hf _ _ _ hS (lv_sub hl [3, 4, 1, 5, 0] rfl)
      · replace hf := if_n c_25 hf
        refine lv_iload hx hb dX8_worksOut_62 (lv_at hl 0 rfl) ?_
        refine lv_goto (tgt := 78) hx hb dX8_worksOut_64 (by decide) ?_
        obtain ⟨gg_31, hf⟩ := gd_out hf
        obtain ⟨x_32, ex_32, hf⟩ := st_out hf
        refine asI C hS (rfl) rfl gg_31 ex_32 dX8_worksOut_78 (fun H locs hS => ?_)
        obtain ⟨v_33, ev_33, hf⟩ := st_out hf
        refine lv_iinc (v := v_33) (lv' := [(2, .int v_33), (5, .int v_6), (0, .ref (G.1 + 99)), (1, .int u1), (3, .int u3), (4, .int u4)]) hx hb dX8_worksOut_79 hl (k := 3) rfl (by rw [ev_33]; rfl) (by decide) rfl (fun ls hl => ?_)
        refine lv_goto (tgt := 149) hx hb dX8_worksOut_82 (by decide) ?_
        obtain ⟨v_34, ev_34, hf⟩ := st_out hf
        refine lv_iinc (v := v_34) (lv' := [(4, .int v_34), (2, .int v_33), (5, .int v_6), (0, .ref (G.1 + 99)), (1, .int u1), (3, .int u3)]) hx hb dX8_worksOut_149 hl (k := 5) rfl (by rw [ev_34]; rfl) (by decide) rfl (fun ls hl => ?_)
        refine lv_goto (tgt := 21) hx hb dX8_worksOut_152 (by decide) ?_
        exact hk21 u1 v_33 u3 v_34 x_32 hf _ _ _ hS (lv_sub hl [3, 4, 1, 5, 0] rfl)
theorem wlX8_worksOut_h21 {p : Program} {l : Launch} {e : Env} {s : State} {m : MethodId} {args : Array Value} {below : List Frame} {meth : Method} {c : Code} {G : GT} {r : Int32} {z : XS} (C : CX G p s m args meth c cX8_worksOut 6 (some .int) RX8) (n : Nat) : ∀ (u1 : Int32) (u2 : Int32) (u3 : Int32) (u4 : Int32) (x : XS), lX8_worksOut_h21 n u1 u2 u3 u4 x = some (r, z) → ∀ (H : Heap) (locs : List Loc) (ls : Array Slot), SR G x H locs → lv_has ls 6 [(0, .ref (G.1 + 99)), (1, .int u1), (2, .int u2), (3, .int u3), (4, .int u4)] → W p l e rmX8_worksOut s m args below meth c H locs 0 0 (MQ below (QC G (some (.int r)) z) args s 0 0 (AB G)) (F0 m 21 ls []) := by
  induction n with
  | zero => intro u1 u2 u3 u4 x hf H locs ls hS hl; exact absurd hf (by intro q; cases q)
  | succ n ih => exact wbX8_worksOut_h21 C ih
theorem wX8_worksOut_h21 {p : Program} {l : Launch} {e : Env} {s : State} {m : MethodId} {args : Array Value} {below : List Frame} {meth : Method} {c : Code} {G : GT} {r : Int32} {z : XS} (C : CX G p s m args meth c cX8_worksOut 6 (some .int) RX8) : ∀ (u1 : Int32) (u2 : Int32) (u3 : Int32) (u4 : Int32) (x : XS), fX8_worksOut_h21 u1 u2 u3 u4 x = some (r, z) → ∀ (H : Heap) (locs : List Loc) (ls : Array Slot), SR G x H locs → lv_has ls 6 [(0, .ref (G.1 + 99)), (1, .int u1), (2, .int u2), (3, .int u3), (4, .int u4)] → W p l e rmX8_worksOut s m args below meth c H locs 0 0 (MQ below (QC G (some (.int r)) z) args s 0 0 (AB G)) (F0 m 21 ls []) := wlX8_worksOut_h21 C FU
set_option maxRecDepth 100000 in
set_option maxHeartbeats 4000000 in
theorem cX8_worksOut_ {G : GT} {l : Launch} {v1 : Int32} {x z : XS} {r : Int32} (hf : fX8_worksOut v1 x = some (r, z)) : Ct G l yX8_worksOut (.code yX8_worksOut cX8_worksOut 6 (some .int)) rmX8_worksOut [.ref (G.1 + 99), .int v1] x (some (.int r)) z := by
  refine Ct.of (by decide +kernel) (Nat.le_of_ble_eq_true rfl) ?_
  intro p e s m args below meth c C ls hl hS
  have C : CX G p s m args meth c cX8_worksOut 6 (some .int) RX8 := C
  have hl : lv_has ls 6 [(0, .ref (G.1 + 99)), (1, .int v1)] := hl
  have hx := C.1
  have hb := C.2.1
  have hown := C.2.2.2.2.2.1
  have hw := C.2.2.2.2.2.2.1
  unfold fX8_worksOut at hf
  refine lv_iconst (v := 0) hx hb dX8_worksOut_0 (by decide) ?_
  refine lv_istore_n (lv' := [(2, .int 0), (0, .ref (G.1 + 99)), (1, .int v1)]) hx hb dX8_worksOut_1 rfl hl (by decide) rfl (fun ls hl => ?_)
  refine lv_aload_n hx hb dX8_worksOut_2 rfl (lv_at hl 1 rfl) ?_
  refine gf7_0 C hS (rfl) g_805 dX8_worksOut_3 ?_
  refine lv_bipush (v := 65) hx hb dX8_worksOut_6 (by decide) ?_
  refine lv_iconst (v := 2) hx hb dX8_worksOut_8 (by decide) ?_
  refine lv_iload_n hx hb dX8_worksOut_9 rfl (lv_at hl 2 rfl) ?_
  refine lv_imul hx hb dX8_worksOut_10 ?_
  refine lv_iadd hx hb dX8_worksOut_11 ?_
  obtain ⟨gg_1, hf⟩ := gd_out hf
  refine alI C hS (rfl) rfl gg_1 dX8_worksOut_12 ?_
  refine lv_sipush (v := 1000) hx hb dX8_worksOut_13 (by decide) ?_
  refine lv_irem hx hb dX8_worksOut_16 (by decide) ?_
  obtain ⟨v_2, ev_2, hf⟩ := st_out hf
  refine topI ev_2 ?_
  refine lv_istore_n (lv' := [(3, .int v_2), (2, .int 0), (0, .ref (G.1 + 99)), (1, .int v1)]) hx hb dX8_worksOut_17 rfl hl (by decide) rfl (fun ls hl => ?_)
  refine lv_iconst (v := 0) hx hb dX8_worksOut_18 (by decide) ?_
  refine lv_istore (lv' := [(4, .int 0), (3, .int v_2), (2, .int 0), (0, .ref (G.1 + 99)), (1, .int v1)]) hx hb dX8_worksOut_19 hl (by decide) rfl (fun ls hl => ?_)
  exact wX8_worksOut_h21  C v1 0 v_2 0 x hf _ _ _ hS (lv_sub hl [3, 4, 2, 1, 0] rfl)
abbrev rmX8_plainOf : Room := { frames := 2, cells := 0, slots := 0, locals := 47 }
set_option maxRecDepth 100000 in
set_option maxHeartbeats 4000000 in
theorem cX8_plainOf_ {G : GT} {l : Launch} {v1 : Int32} {v2 : Int32} {v3 : Int32} {x z : XS} {r : Int32} (hf : fX8_plainOf v1 v2 v3 x = some (r, z)) : Ct G l yX8_plainOf (.code yX8_plainOf cX8_plainOf 5 (some .int)) rmX8_plainOf [.ref (G.1 + 99), .int v1, .int v2, .int v3] x (some (.int r)) z := by
  refine Ct.of (by decide +kernel) (Nat.le_of_ble_eq_true rfl) ?_
  intro p e s m args below meth c C ls hl hS
  have C : CX G p s m args meth c cX8_plainOf 5 (some .int) RX8 := C
  have hl : lv_has ls 5 [(0, .ref (G.1 + 99)), (1, .int v1), (2, .int v2), (3, .int v3)] := hl
  have hx := C.1
  have hb := C.2.1
  have hown := C.2.2.2.2.2.1
  have hw := C.2.2.2.2.2.2.1
  unfold fX8_plainOf at hf
  refine lv_aload_n hx hb dX8_plainOf_0 rfl (lv_at hl 0 rfl) ?_
  refine lv_iconst (v := 0) hx hb dX8_plainOf_1 (by decide) ?_
  obtain ⟨r_1, x_2, qr_1, hf⟩ := bd_out hf
  refine rvI (As := [.int 0]) (rest := []) C hS (rfl) rfl KX8_counts (cX8_counts_ qr_1) g_966 ⟨rfl, rfl⟩ ⟨(Nat.le_of_ble_eq_true rfl), (Nat.le_of_ble_eq_true rfl)⟩ hl.1 rfl rfl (Nat.le_of_ble_eq_true rfl) ⟨Nat.zero_le _, Nat.zero_le _⟩ dX8_plainOf_2 (fun H locs hS => ?_)
  refine lv_istore (lv' := [(4, .int r_1), (0, .ref (G.1 + 99)), (1, .int v1), (2, .int v2), (3, .int v3)]) hx hb dX8_plainOf_5 hl (by decide) rfl (fun ls hl => ?_)
  refine lv_aload_n hx hb dX8_plainOf_7 rfl (lv_at hl 1 rfl) ?_
  refine gf7_23 C hS (rfl) g_828 dX8_plainOf_8 ?_
  refine lv_iconst (v := 0) hx hb dX8_plainOf_11 (by decide) ?_
  refine lv_iload_n hx hb dX8_plainOf_12 rfl (lv_at hl 3 rfl) ?_
  obtain ⟨gg_3, hf⟩ := gd_out hf
  obtain ⟨x_4, ex_4, hf⟩ := st_out hf
  refine asI C hS (rfl) rfl gg_3 ex_4 dX8_plainOf_13 (fun H locs hS => ?_)
  refine lv_aload_n hx hb dX8_plainOf_14 rfl (lv_at hl 1 rfl) ?_
  refine gf7_23 C hS (rfl) g_828 dX8_plainOf_15 ?_
  refine lv_iconst (v := 1) hx hb dX8_plainOf_18 (by decide) ?_
  refine lv_iload_n hx hb dX8_plainOf_19 rfl (lv_at hl 4 rfl) ?_
  obtain ⟨gg_5, hf⟩ := gd_out hf
  obtain ⟨x_6, ex_6, hf⟩ := st_out hf
  refine asI C hS (rfl) rfl gg_5 ex_6 dX8_plainOf_20 (fun H locs hS => ?_)
  refine lv_aload_n hx hb dX8_plainOf_21 rfl (lv_at hl 1 rfl) ?_
  refine gf7_23 C hS (rfl) g_828 dX8_plainOf_22 ?_
  refine lv_iconst (v := 2) hx hb dX8_plainOf_25 (by decide) ?_
  refine lv_aload_n hx hb dX8_plainOf_26 rfl (lv_at hl 1 rfl) ?_
  refine lv_iload_n hx hb dX8_plainOf_27 rfl (lv_at hl 2 rfl) ?_
  refine lv_iconst (v := 1) hx hb dX8_plainOf_28 (by decide) ?_
  obtain ⟨r_7, x_8, qr_7, hf⟩ := bd_out hf
  refine rvI (As := [.int v1, .int 1]) (rest := [.int 2, .ref (G.1 + 111)]) C hS (rfl) rfl KX8_of (cX8_of_ qr_7) g_938 ⟨rfl, rfl⟩ ⟨(Nat.le_of_ble_eq_true rfl), (Nat.le_of_ble_eq_true rfl)⟩ hl.1 rfl rfl (Nat.le_of_ble_eq_true rfl) ⟨Nat.zero_le _, Nat.zero_le _⟩ dX8_plainOf_29 (fun H locs hS => ?_)
  obtain ⟨gg_9, hf⟩ := gd_out hf
  obtain ⟨x_10, ex_10, hf⟩ := st_out hf
  refine asI C hS (rfl) rfl gg_9 ex_10 dX8_plainOf_32 (fun H locs hS => ?_)
  refine lv_iload hx hb dX8_plainOf_33 (lv_at hl 0 rfl) ?_
  refine lv_if_ge (tgt := 54) hx hb dX8_plainOf_35 (by decide) (fun c_11 => ?_) (fun c_11 => ?_)
  · replace hf := if_p c_11 hf
    refine lv_aload_n hx hb dX8_plainOf_54 rfl (lv_at hl 1 rfl) ?_
    refine lv_iload hx hb dX8_plainOf_55 (lv_at hl 0 rfl) ?_
    obtain ⟨r_12, x_13, qr_12, hf⟩ := bd_out hf
    refine rvI (As := [.int r_1]) (rest := []) C hS (rfl) rfl KX8_worksOut (cX8_worksOut_ qr_12) g_970 ⟨rfl, rfl⟩ ⟨(Nat.le_of_ble_eq_true rfl), (Nat.le_of_ble_eq_true rfl)⟩ hl.1 rfl rfl (Nat.le_of_ble_eq_true rfl) ⟨Nat.zero_le _, Nat.zero_le _⟩ dX8_plainOf_57 (fun H locs hS => ?_)
    refine lv_iconst (v := 0) hx hb dX8_plainOf_60 (by decide) ?_
    refine lv_sipush (v := 999) hx hb dX8_plainOf_61 (by decide) ?_
    obtain ⟨r_14, x_15, qr_14, hf⟩ := bd_out hf
    refine rsI (As := [.int r_12, .int 0, .int 999]) (rest := []) C hS KX8_within (cX8_within_ qr_14) g_977 ⟨rfl, rfl⟩ ⟨(Nat.le_of_ble_eq_true rfl), (Nat.le_of_ble_eq_true rfl)⟩ hl.1 rfl rfl (Nat.le_of_ble_eq_true rfl) ⟨Nat.zero_le _, Nat.zero_le _⟩ dX8_plainOf_64 (fun H locs hS => ?_)
    exact rtI C hS hf dX8_plainOf_67
  · replace hf := if_n c_11 hf
    refine lv_bipush (v := 100) hx hb dX8_plainOf_38 (by decide) ?_
    refine lv_bipush (v := 60) hx hb dX8_plainOf_40 (by decide) ?_
    refine lv_iconst (v := 1) hx hb dX8_plainOf_42 (by decide) ?_
    refine lv_iload_n hx hb dX8_plainOf_43 rfl (lv_at hl 3 rfl) ?_
    refine lv_iadd hx hb dX8_plainOf_44 ?_
    obtain ⟨gg_16, hf⟩ := gd_out hf
    refine lv_idiv hx hb dX8_plainOf_45 (of_decide_eq_true gg_16) ?_
    obtain ⟨v_17, ev_17, hf⟩ := st_out hf
    refine topI ev_17 ?_
    refine lv_isub hx hb dX8_plainOf_46 ?_
    refine lv_iconst (v := 3) hx hb dX8_plainOf_47 (by decide) ?_
    refine lv_iload_n hx hb dX8_plainOf_48 rfl (lv_at hl 4 rfl) ?_
    refine lv_imul hx hb dX8_plainOf_49 ?_
    refine lv_isub hx hb dX8_plainOf_50 ?_
    refine lv_goto (tgt := 60) hx hb dX8_plainOf_51 (by decide) ?_
    refine lv_iconst (v := 0) hx hb dX8_plainOf_60 (by decide) ?_
    refine lv_sipush (v := 999) hx hb dX8_plainOf_61 (by decide) ?_
    obtain ⟨r_18, x_19, qr_18, hf⟩ := bd_out hf
    refine rsI (As := [.int ((100 - v_17) - (3 * v3)), .int 0, .int 999]) (rest := []) C hS KX8_within (cX8_within_ qr_18) g_977 ⟨rfl, rfl⟩ ⟨(Nat.le_of_ble_eq_true rfl), (Nat.le_of_ble_eq_true rfl)⟩ hl.1 rfl rfl (Nat.le_of_ble_eq_true rfl) ⟨Nat.zero_le _, Nat.zero_le _⟩ dX8_plainOf_64 (fun H locs hS => ?_)
    exact rtI C hS hf dX8_plainOf_67
abbrev rmX8_shineOf : Room := { frames := 3, cells := 0, slots := 0, locals := 71 }
set_option maxRecDepth 100000 in
set_option maxHeartbeats 4000000 in
theorem cX8_shineOf_ {G : GT} {l : Launch} {v1 : Int32} {v2 : Int32} {v3 : Int32} {x z : XS} {r : Int32} (hf : fX8_shineOf v1 v2 v3 x = some (r, z)) : Ct G l yX8_shineOf (.code yX8_shineOf cX8_shineOf 4 (some .int)) rmX8_shineOf [.ref (G.1 + 99), .int v1, .int v2, .int v3] x (some (.int r)) z := by
  refine Ct.of (by decide +kernel) (Nat.le_of_ble_eq_true rfl) ?_
  intro p e s m args below meth c C ls hl hS
  have C : CX G p s m args meth c cX8_shineOf 4 (some .int) RX8 := C
  have hl : lv_has ls 4 [(0, .ref (G.1 + 99)), (1, .int v1), (2, .int v2), (3, .int v3)] := hl
  have hx := C.1
  have hb := C.2.1
  have hown := C.2.2.2.2.2.1
  have hw := C.2.2.2.2.2.2.1
  unfold fX8_shineOf at hf
  refine lv_aload_n hx hb dX8_shineOf_0 rfl (lv_at hl 0 rfl) ?_
  refine lv_iload_n hx hb dX8_shineOf_1 rfl (lv_at hl 1 rfl) ?_
  refine lv_iconst (v := 0) hx hb dX8_shineOf_2 (by decide) ?_
  obtain ⟨r_1, x_2, qr_1, hf⟩ := bd_out hf
  refine rvI (As := [.int v1, .int 0]) (rest := []) C hS (rfl) rfl KX8_of (cX8_of_ qr_1) g_938 ⟨rfl, rfl⟩ ⟨(Nat.le_of_ble_eq_true rfl), (Nat.le_of_ble_eq_true rfl)⟩ hl.1 rfl rfl (Nat.le_of_ble_eq_true rfl) ⟨Nat.zero_le _, Nat.zero_le _⟩ dX8_shineOf_3 (fun H locs hS => ?_)
  by_cases c_3 : r_1 = 1
  · replace hf := if_p c_3 hf
    refine tswI (k := 1) (off := 34) (tgt := 40) hx hb dX8_shineOf_6 c_3 (by decide) rfl (by decide) ?_
    refine lv_aload_n hx hb dX8_shineOf_40 rfl (lv_at hl 0 rfl) ?_
    refine lv_iload_n hx hb dX8_shineOf_41 rfl (lv_at hl 1 rfl) ?_
    refine lv_iload_n hx hb dX8_shineOf_42 rfl (lv_at hl 2 rfl) ?_
    refine lv_iload_n hx hb dX8_shineOf_43 rfl (lv_at hl 3 rfl) ?_
    obtain ⟨r_4, x_5, qr_4, hf⟩ := bd_out hf
    refine rvI (As := [.int v1, .int v2, .int v3]) (rest := []) C hS (rfl) rfl KX8_plainOf (cX8_plainOf_ qr_4) g_962 ⟨rfl, rfl⟩ ⟨(Nat.le_of_ble_eq_true rfl), (Nat.le_of_ble_eq_true rfl)⟩ hl.1 rfl rfl (Nat.le_of_ble_eq_true rfl) ⟨Nat.zero_le _, Nat.zero_le _⟩ dX8_shineOf_44 (fun H locs hS => ?_)
    refine lv_iconst (v := 5) hx hb dX8_shineOf_47 (by decide) ?_
    refine lv_isub hx hb dX8_shineOf_48 ?_
    refine lv_iconst (v := 0) hx hb dX8_shineOf_49 (by decide) ?_
    refine lv_sipush (v := 999) hx hb dX8_shineOf_50 (by decide) ?_
    obtain ⟨r_6, x_7, qr_6, hf⟩ := bd_out hf
    refine rsI (As := [.int (r_4 - 5), .int 0, .int 999]) (rest := []) C hS KX8_within (cX8_within_ qr_6) g_977 ⟨rfl, rfl⟩ ⟨(Nat.le_of_ble_eq_true rfl), (Nat.le_of_ble_eq_true rfl)⟩ hl.1 rfl rfl (Nat.le_of_ble_eq_true rfl) ⟨Nat.zero_le _, Nat.zero_le _⟩ dX8_shineOf_53 (fun H locs hS => ?_)
    exact rtI C hS hf dX8_shineOf_56
  · replace hf := if_n c_3 hf
    by_cases c_8 : r_1 = 2
    · replace hf := if_p c_8 hf
      refine tswI (k := 2) (off := 51) (tgt := 57) hx hb dX8_shineOf_6 c_8 (by decide) rfl (by decide) ?_
      refine lv_aload_n hx hb dX8_shineOf_57 rfl (lv_at hl 0 rfl) ?_
      refine lv_iload_n hx hb dX8_shineOf_58 rfl (lv_at hl 1 rfl) ?_
      refine lv_iload_n hx hb dX8_shineOf_59 rfl (lv_at hl 2 rfl) ?_
      refine lv_iload_n hx hb dX8_shineOf_60 rfl (lv_at hl 3 rfl) ?_
      obtain ⟨r_9, x_10, qr_9, hf⟩ := bd_out hf
      refine rvI (As := [.int v1, .int v2, .int v3]) (rest := []) C hS (rfl) rfl KX8_plainOf (cX8_plainOf_ qr_9) g_962 ⟨rfl, rfl⟩ ⟨(Nat.le_of_ble_eq_true rfl), (Nat.le_of_ble_eq_true rfl)⟩ hl.1 rfl rfl (Nat.le_of_ble_eq_true rfl) ⟨Nat.zero_le _, Nat.zero_le _⟩ dX8_shineOf_61 (fun H locs hS => ?_)
      refine lv_bipush (v := 10) hx hb dX8_shineOf_64 (by decide) ?_
      refine lv_iadd hx hb dX8_shineOf_66 ?_
      exact rtI C hS hf dX8_shineOf_67
    · replace hf := if_n c_8 hf
      by_cases c_11 : r_1 = 3
      · replace hf := if_p c_11 hf
        refine tswI (k := 3) (off := 62) (tgt := 68) hx hb dX8_shineOf_6 c_11 (by decide) rfl (by decide) ?_
        refine lv_aload_n hx hb dX8_shineOf_68 rfl (lv_at hl 0 rfl) ?_
        refine lv_iload_n hx hb dX8_shineOf_69 rfl (lv_at hl 1 rfl) ?_
        refine lv_iconst (v := 2) hx hb dX8_shineOf_70 (by decide) ?_
        refine lv_iload_n hx hb dX8_shineOf_71 rfl (lv_at hl 2 rfl) ?_
        refine lv_imul hx hb dX8_shineOf_72 ?_
        refine lv_iload_n hx hb dX8_shineOf_73 rfl (lv_at hl 3 rfl) ?_
        obtain ⟨r_12, x_13, qr_12, hf⟩ := bd_out hf
        refine rvI (As := [.int v1, .int (2 * v2), .int v3]) (rest := []) C hS (rfl) rfl KX8_plainOf (cX8_plainOf_ qr_12) g_962 ⟨rfl, rfl⟩ ⟨(Nat.le_of_ble_eq_true rfl), (Nat.le_of_ble_eq_true rfl)⟩ hl.1 rfl rfl (Nat.le_of_ble_eq_true rfl) ⟨Nat.zero_le _, Nat.zero_le _⟩ dX8_shineOf_74 (fun H locs hS => ?_)
        refine lv_iconst (v := 5) hx hb dX8_shineOf_77 (by decide) ?_
        refine lv_isub hx hb dX8_shineOf_78 ?_
        refine lv_iconst (v := 0) hx hb dX8_shineOf_79 (by decide) ?_
        refine lv_sipush (v := 999) hx hb dX8_shineOf_80 (by decide) ?_
        obtain ⟨r_14, x_15, qr_14, hf⟩ := bd_out hf
        refine rsI (As := [.int (r_12 - 5), .int 0, .int 999]) (rest := []) C hS KX8_within (cX8_within_ qr_14) g_977 ⟨rfl, rfl⟩ ⟨(Nat.le_of_ble_eq_true rfl), (Nat.le_of_ble_eq_true rfl)⟩ hl.1 rfl rfl (Nat.le_of_ble_eq_true rfl) ⟨Nat.zero_le _, Nat.zero_le _⟩ dX8_shineOf_83 (fun H locs hS => ?_)
        exact rtI C hS hf dX8_shineOf_86
      · replace hf := if_n c_11 hf
        by_cases c_16 : r_1 = 4
        · replace hf := if_p c_16 hf
          refine tswI (k := 4) (off := 81) (tgt := 87) hx hb dX8_shineOf_6 c_16 (by decide) rfl (by decide) ?_
          refine lv_aload_n hx hb dX8_shineOf_87 rfl (lv_at hl 0 rfl) ?_
          refine lv_iload_n hx hb dX8_shineOf_88 rfl (lv_at hl 1 rfl) ?_
          refine lv_iload_n hx hb dX8_shineOf_89 rfl (lv_at hl 2 rfl) ?_
          refine lv_iload_n hx hb dX8_shineOf_90 rfl (lv_at hl 3 rfl) ?_
          obtain ⟨r_17, x_18, qr_17, hf⟩ := bd_out hf
          refine rvI (As := [.int v1, .int v2, .int v3]) (rest := []) C hS (rfl) rfl KX8_plainOf (cX8_plainOf_ qr_17) g_962 ⟨rfl, rfl⟩ ⟨(Nat.le_of_ble_eq_true rfl), (Nat.le_of_ble_eq_true rfl)⟩ hl.1 rfl rfl (Nat.le_of_ble_eq_true rfl) ⟨Nat.zero_le _, Nat.zero_le _⟩ dX8_shineOf_91 (fun H locs hS => ?_)
          refine lv_bipush (v := 10) hx hb dX8_shineOf_94 (by decide) ?_
          refine lv_iadd hx hb dX8_shineOf_96 ?_
          refine lv_iload_n hx hb dX8_shineOf_97 rfl (lv_at hl 2 rfl) ?_
          refine lv_bipush (v := 12) hx hb dX8_shineOf_98 (by decide) ?_
          refine lv_icmp_le (tgt := 107) hx hb dX8_shineOf_100 (by decide) (fun c_19 => ?_) (fun c_19 => ?_)
          · replace hf := if_p c_19 hf
            refine lv_iconst (v := 1) hx hb dX8_shineOf_107 (by decide) ?_
            refine lv_idiv hx hb dX8_shineOf_108 (by decide) ?_
            obtain ⟨v_20, ev_20, hf⟩ := st_out hf
            refine topI ev_20 ?_
            exact rtI C hS hf dX8_shineOf_109
          · replace hf := if_n c_19 hf
            refine lv_iconst (v := 2) hx hb dX8_shineOf_103 (by decide) ?_
            refine lv_goto (tgt := 108) hx hb dX8_shineOf_104 (by decide) ?_
            refine lv_idiv hx hb dX8_shineOf_108 (by decide) ?_
            obtain ⟨v_21, ev_21, hf⟩ := st_out hf
            refine topI ev_21 ?_
            exact rtI C hS hf dX8_shineOf_109
        · replace hf := if_n c_16 hf
          by_cases c_22 : r_1 = 5
          · replace hf := if_p c_22 hf
            refine tswI (k := 5) (off := 104) (tgt := 110) hx hb dX8_shineOf_6 c_22 (by decide) rfl (by decide) ?_
            refine lv_aload_n hx hb dX8_shineOf_110 rfl (lv_at hl 0 rfl) ?_
            refine lv_iload_n hx hb dX8_shineOf_111 rfl (lv_at hl 1 rfl) ?_
            refine lv_iload_n hx hb dX8_shineOf_112 rfl (lv_at hl 2 rfl) ?_
            refine lv_iconst (v := 0) hx hb dX8_shineOf_113 (by decide) ?_
            obtain ⟨r_23, x_24, qr_23, hf⟩ := bd_out hf
            refine rvI (As := [.int v1, .int v2, .int 0]) (rest := []) C hS (rfl) rfl KX8_plainOf (cX8_plainOf_ qr_23) g_962 ⟨rfl, rfl⟩ ⟨(Nat.le_of_ble_eq_true rfl), (Nat.le_of_ble_eq_true rfl)⟩ hl.1 rfl rfl (Nat.le_of_ble_eq_true rfl) ⟨Nat.zero_le _, Nat.zero_le _⟩ dX8_shineOf_114 (fun H locs hS => ?_)
            exact rtI C hS hf dX8_shineOf_117
          · replace hf := if_n c_22 hf
            refine lv_tableOut (tgt := 118) hx hb dX8_shineOf_6 (by have zc_3 := lv_neT c_3 (a := 1) (by decide); have zc_8 := lv_neT c_8 (a := 2) (by decide); have zc_11 := lv_neT c_11 (a := 3) (by decide); have zc_16 := lv_neT c_16 (a := 4) (by decide); have zc_22 := lv_neT c_22 (a := 5) (by decide); omega) (by decide) ?_
            refine lv_aload_n hx hb dX8_shineOf_118 rfl (lv_at hl 0 rfl) ?_
            refine lv_iload_n hx hb dX8_shineOf_119 rfl (lv_at hl 1 rfl) ?_
            refine lv_iload_n hx hb dX8_shineOf_120 rfl (lv_at hl 2 rfl) ?_
            refine lv_iload_n hx hb dX8_shineOf_121 rfl (lv_at hl 3 rfl) ?_
            obtain ⟨r_25, x_26, qr_25, hf⟩ := bd_out hf
            refine rvI (As := [.int v1, .int v2, .int v3]) (rest := []) C hS (rfl) rfl KX8_plainOf (cX8_plainOf_ qr_25) g_962 ⟨rfl, rfl⟩ ⟨(Nat.le_of_ble_eq_true rfl), (Nat.le_of_ble_eq_true rfl)⟩ hl.1 rfl rfl (Nat.le_of_ble_eq_true rfl) ⟨Nat.zero_le _, Nat.zero_le _⟩ dX8_shineOf_122 (fun H locs hS => ?_)
            exact rtI C hS hf dX8_shineOf_125
abbrev rmX8_takesOf : Room := { frames := 1, cells := 0, slots := 0, locals := 22 }
set_option maxRecDepth 100000 in
set_option maxHeartbeats 4000000 in
theorem cX8_takesOf_ {G : GT} {l : Launch} {v1 : Int32} {x z : XS} {r : Int32} (hf : fX8_takesOf v1 x = some (r, z)) : Ct G l yX8_takesOf (.code yX8_takesOf cX8_takesOf 3 (some .int)) rmX8_takesOf [.ref (G.1 + 99), .int v1] x (some (.int r)) z := by
  refine Ct.of (by decide +kernel) (Nat.le_of_ble_eq_true rfl) ?_
  intro p e s m args below meth c C ls hl hS
  have C : CX G p s m args meth c cX8_takesOf 3 (some .int) RX8 := C
  have hl : lv_has ls 3 [(0, .ref (G.1 + 99)), (1, .int v1)] := hl
  have hx := C.1
  have hb := C.2.1
  have hown := C.2.2.2.2.2.1
  have hw := C.2.2.2.2.2.2.1
  unfold fX8_takesOf at hf
  refine lv_aload_n hx hb dX8_takesOf_0 rfl (lv_at hl 0 rfl) ?_
  refine lv_iload_n hx hb dX8_takesOf_1 rfl (lv_at hl 1 rfl) ?_
  refine lv_iconst (v := 3) hx hb dX8_takesOf_2 (by decide) ?_
  obtain ⟨r_1, x_2, qr_1, hf⟩ := bd_out hf
  refine rvI (As := [.int v1, .int 3]) (rest := []) C hS (rfl) rfl KX8_of (cX8_of_ qr_1) g_938 ⟨rfl, rfl⟩ ⟨(Nat.le_of_ble_eq_true rfl), (Nat.le_of_ble_eq_true rfl)⟩ hl.1 rfl rfl (Nat.le_of_ble_eq_true rfl) ⟨Nat.zero_le _, Nat.zero_le _⟩ dX8_takesOf_3 (fun H locs hS => ?_)
  refine lv_istore_n (lv' := [(2, .int r_1), (0, .ref (G.1 + 99)), (1, .int v1)]) hx hb dX8_takesOf_6 rfl hl (by decide) rfl (fun ls hl => ?_)
  refine lv_aload_n hx hb dX8_takesOf_7 rfl (lv_at hl 1 rfl) ?_
  refine lv_iload_n hx hb dX8_takesOf_8 rfl (lv_at hl 2 rfl) ?_
  refine lv_iconst (v := 0) hx hb dX8_takesOf_9 (by decide) ?_
  obtain ⟨r_3, x_4, qr_3, hf⟩ := bd_out hf
  refine rvI (As := [.int v1, .int 0]) (rest := []) C hS (rfl) rfl KX8_of (cX8_of_ qr_3) g_938 ⟨rfl, rfl⟩ ⟨(Nat.le_of_ble_eq_true rfl), (Nat.le_of_ble_eq_true rfl)⟩ hl.1 rfl rfl (Nat.le_of_ble_eq_true rfl) ⟨Nat.zero_le _, Nat.zero_le _⟩ dX8_takesOf_10 (fun H locs hS => ?_)
  by_cases c_5 : r_3 = 1
  · replace hf := if_p c_5 hf
    refine tswI (k := 1) (off := 31) (tgt := 44) hx hb dX8_takesOf_13 c_5 (by decide) rfl (by decide) ?_
    refine lv_iconst (v := 1) hx hb dX8_takesOf_44 (by decide) ?_
    refine lv_iload_n hx hb dX8_takesOf_45 rfl (lv_at hl 0 rfl) ?_
    refine lv_iconst (v := 4) hx hb dX8_takesOf_46 (by decide) ?_
    refine lv_idiv hx hb dX8_takesOf_47 (by decide) ?_
    obtain ⟨v_6, ev_6, hf⟩ := st_out hf
    refine topI ev_6 ?_
    refine lv_iadd hx hb dX8_takesOf_48 ?_
    exact rtI C hS hf dX8_takesOf_49
  · replace hf := if_n c_5 hf
    by_cases c_7 : r_3 = 2
    · replace hf := if_p c_7 hf
      refine tswI (k := 2) (off := 37) (tgt := 50) hx hb dX8_takesOf_13 c_7 (by decide) rfl (by decide) ?_
      refine lv_iconst (v := 3) hx hb dX8_takesOf_50 (by decide) ?_
      refine lv_iload_n hx hb dX8_takesOf_51 rfl (lv_at hl 0 rfl) ?_
      refine lv_iconst (v := 2) hx hb dX8_takesOf_52 (by decide) ?_
      refine lv_idiv hx hb dX8_takesOf_53 (by decide) ?_
      obtain ⟨v_8, ev_8, hf⟩ := st_out hf
      refine topI ev_8 ?_
      refine lv_iadd hx hb dX8_takesOf_54 ?_
      exact rtI C hS hf dX8_takesOf_55
    · replace hf := if_n c_7 hf
      by_cases c_9 : r_3 = 3
      · replace hf := if_p c_9 hf
        refine tswI (k := 3) (off := 43) (tgt := 56) hx hb dX8_takesOf_13 c_9 (by decide) rfl (by decide) ?_
        refine lv_iconst (v := 1) hx hb dX8_takesOf_56 (by decide) ?_
        refine lv_iload_n hx hb dX8_takesOf_57 rfl (lv_at hl 0 rfl) ?_
        refine lv_bipush (v := 6) hx hb dX8_takesOf_58 (by decide) ?_
        refine lv_idiv hx hb dX8_takesOf_60 (by decide) ?_
        obtain ⟨v_10, ev_10, hf⟩ := st_out hf
        refine topI ev_10 ?_
        refine lv_iadd hx hb dX8_takesOf_61 ?_
        exact rtI C hS hf dX8_takesOf_62
      · replace hf := if_n c_9 hf
        by_cases c_11 : r_3 = 4
        · replace hf := if_p c_11 hf
          refine tswI (k := 4) (off := 37) (tgt := 50) hx hb dX8_takesOf_13 c_11 (by decide) rfl (by decide) ?_
          refine lv_iconst (v := 3) hx hb dX8_takesOf_50 (by decide) ?_
          refine lv_iload_n hx hb dX8_takesOf_51 rfl (lv_at hl 0 rfl) ?_
          refine lv_iconst (v := 2) hx hb dX8_takesOf_52 (by decide) ?_
          refine lv_idiv hx hb dX8_takesOf_53 (by decide) ?_
          obtain ⟨v_12, ev_12, hf⟩ := st_out hf
          refine topI ev_12 ?_
          refine lv_iadd hx hb dX8_takesOf_54 ?_
          exact rtI C hS hf dX8_takesOf_55
        · replace hf := if_n c_11 hf
          refine lv_tableOut (tgt := 63) hx hb dX8_takesOf_13 (by have zc_5 := lv_neT c_5 (a := 1) (by decide); have zc_7 := lv_neT c_7 (a := 2) (by decide); have zc_9 := lv_neT c_9 (a := 3) (by decide); have zc_11 := lv_neT c_11 (a := 4) (by decide); omega) (by decide) ?_
          refine lv_iconst (v := 1) hx hb dX8_takesOf_63 (by decide) ?_
          refine lv_iload_n hx hb dX8_takesOf_64 rfl (lv_at hl 0 rfl) ?_
          refine lv_iconst (v := 2) hx hb dX8_takesOf_65 (by decide) ?_
          refine lv_idiv hx hb dX8_takesOf_66 (by decide) ?_
          obtain ⟨v_13, ev_13, hf⟩ := st_out hf
          refine topI ev_13 ?_
          refine lv_iadd hx hb dX8_takesOf_67 ?_
          exact rtI C hS hf dX8_takesOf_68
abbrev rmX8_asksOf : Room := { frames := 1, cells := 0, slots := 0, locals := 22 }
set_option maxRecDepth 100000 in
set_option maxHeartbeats 4000000 in
theorem cX8_asksOf_ {G : GT} {l : Launch} {v1 : Int32} {x z : XS} {r : Int32} (hf : fX8_asksOf v1 x = some (r, z)) : Ct G l yX8_asksOf (.code yX8_asksOf cX8_asksOf 3 (some .int)) rmX8_asksOf [.ref (G.1 + 99), .int v1] x (some (.int r)) z := by
  refine Ct.of (by decide +kernel) (Nat.le_of_ble_eq_true rfl) ?_
  intro p e s m args below meth c C ls hl hS
  have C : CX G p s m args meth c cX8_asksOf 3 (some .int) RX8 := C
  have hl : lv_has ls 3 [(0, .ref (G.1 + 99)), (1, .int v1)] := hl
  have hx := C.1
  have hb := C.2.1
  have hown := C.2.2.2.2.2.1
  have hw := C.2.2.2.2.2.2.1
  unfold fX8_asksOf at hf
  refine lv_aload_n hx hb dX8_asksOf_0 rfl (lv_at hl 0 rfl) ?_
  refine lv_iload_n hx hb dX8_asksOf_1 rfl (lv_at hl 1 rfl) ?_
  refine lv_iconst (v := 2) hx hb dX8_asksOf_2 (by decide) ?_
  obtain ⟨r_1, x_2, qr_1, hf⟩ := bd_out hf
  refine rvI (As := [.int v1, .int 2]) (rest := []) C hS (rfl) rfl KX8_of (cX8_of_ qr_1) g_938 ⟨rfl, rfl⟩ ⟨(Nat.le_of_ble_eq_true rfl), (Nat.le_of_ble_eq_true rfl)⟩ hl.1 rfl rfl (Nat.le_of_ble_eq_true rfl) ⟨Nat.zero_le _, Nat.zero_le _⟩ dX8_asksOf_3 (fun H locs hS => ?_)
  refine lv_istore_n (lv' := [(2, .int r_1), (0, .ref (G.1 + 99)), (1, .int v1)]) hx hb dX8_asksOf_6 rfl hl (by decide) rfl (fun ls hl => ?_)
  refine lv_aload_n hx hb dX8_asksOf_7 rfl (lv_at hl 1 rfl) ?_
  refine lv_iload_n hx hb dX8_asksOf_8 rfl (lv_at hl 2 rfl) ?_
  refine lv_iconst (v := 0) hx hb dX8_asksOf_9 (by decide) ?_
  obtain ⟨r_3, x_4, qr_3, hf⟩ := bd_out hf
  refine rvI (As := [.int v1, .int 0]) (rest := []) C hS (rfl) rfl KX8_of (cX8_of_ qr_3) g_938 ⟨rfl, rfl⟩ ⟨(Nat.le_of_ble_eq_true rfl), (Nat.le_of_ble_eq_true rfl)⟩ hl.1 rfl rfl (Nat.le_of_ble_eq_true rfl) ⟨Nat.zero_le _, Nat.zero_le _⟩ dX8_asksOf_10 (fun H locs hS => ?_)
  by_cases c_5 : r_3 = 2
  · replace hf := if_p c_5 hf
    refine tswI (k := 2) (off := 31) (tgt := 44) hx hb dX8_asksOf_13 c_5 (by decide) rfl (by decide) ?_
    refine lv_iload_n hx hb dX8_asksOf_44 rfl (lv_at hl 0 rfl) ?_
    refine lv_iconst (v := 3) hx hb dX8_asksOf_45 (by decide) ?_
    refine lv_iadd hx hb dX8_asksOf_46 ?_
    exact rtI C hS hf dX8_asksOf_47
  · replace hf := if_n c_5 hf
    by_cases c_6 : r_3 = 3
    · replace hf := if_p c_6 hf
      refine tswI (k := 3) (off := 54) (tgt := 67) hx hb dX8_asksOf_13 c_6 (by decide) rfl (by decide) ?_
      refine lv_iload_n hx hb dX8_asksOf_67 rfl (lv_at hl 0 rfl) ?_
      exact rtI C hS hf dX8_asksOf_68
    · replace hf := if_n c_6 hf
      by_cases c_7 : r_3 = 4
      · replace hf := if_p c_7 hf
        refine tswI (k := 4) (off := 35) (tgt := 48) hx hb dX8_asksOf_13 c_7 (by decide) rfl (by decide) ?_
        refine lv_iconst (v := 2) hx hb dX8_asksOf_48 (by decide) ?_
        refine lv_iload_n hx hb dX8_asksOf_49 rfl (lv_at hl 0 rfl) ?_
        refine lv_iconst (v := 3) hx hb dX8_asksOf_50 (by decide) ?_
        refine lv_iadd hx hb dX8_asksOf_51 ?_
        refine lv_imul hx hb dX8_asksOf_52 ?_
        exact rtI C hS hf dX8_asksOf_53
      · replace hf := if_n c_7 hf
        by_cases c_8 : r_3 = 5
        · replace hf := if_p c_8 hf
          refine tswI (k := 5) (off := 41) (tgt := 54) hx hb dX8_asksOf_13 c_8 (by decide) rfl (by decide) ?_
          refine lv_iload_n hx hb dX8_asksOf_54 rfl (lv_at hl 0 rfl) ?_
          refine lv_iconst (v := 3) hx hb dX8_asksOf_55 (by decide) ?_
          refine lv_icmp_ge (tgt := 63) hx hb dX8_asksOf_56 (by decide) (fun c_9 => ?_) (fun c_9 => ?_)
          · replace hf := if_p c_9 hf
            refine lv_iload_n hx hb dX8_asksOf_63 rfl (lv_at hl 0 rfl) ?_
            refine lv_iconst (v := 2) hx hb dX8_asksOf_64 (by decide) ?_
            refine lv_isub hx hb dX8_asksOf_65 ?_
            exact rtI C hS hf dX8_asksOf_66
          · replace hf := if_n c_9 hf
            refine lv_iconst (v := 1) hx hb dX8_asksOf_59 (by decide) ?_
            refine lv_goto (tgt := 66) hx hb dX8_asksOf_60 (by decide) ?_
            exact rtI C hS hf dX8_asksOf_66
        · replace hf := if_n c_8 hf
          refine lv_tableOut (tgt := 67) hx hb dX8_asksOf_13 (by have zc_5 := lv_neT c_5 (a := 2) (by decide); have zc_6 := lv_neT c_6 (a := 3) (by decide); have zc_7 := lv_neT c_7 (a := 4) (by decide); have zc_8 := lv_neT c_8 (a := 5) (by decide); omega) (by decide) ?_
          refine lv_iload_n hx hb dX8_asksOf_67 rfl (lv_at hl 0 rfl) ?_
          exact rtI C hS hf dX8_asksOf_68
abbrev rmX8_worthOf : Room := { frames := 1, cells := 0, slots := 0, locals := 22 }
set_option maxRecDepth 100000 in
set_option maxHeartbeats 4000000 in
theorem cX8_worthOf_ {G : GT} {l : Launch} {v1 : Int32} {x z : XS} {r : Int32} (hf : fX8_worthOf v1 x = some (r, z)) : Ct G l yX8_worthOf (.code yX8_worthOf cX8_worthOf 3 (some .int)) rmX8_worthOf [.ref (G.1 + 99), .int v1] x (some (.int r)) z := by
  refine Ct.of (by decide +kernel) (Nat.le_of_ble_eq_true rfl) ?_
  intro p e s m args below meth c C ls hl hS
  have C : CX G p s m args meth c cX8_worthOf 3 (some .int) RX8 := C
  have hl : lv_has ls 3 [(0, .ref (G.1 + 99)), (1, .int v1)] := hl
  have hx := C.1
  have hb := C.2.1
  have hown := C.2.2.2.2.2.1
  have hw := C.2.2.2.2.2.2.1
  unfold fX8_worthOf at hf
  refine lv_aload_n hx hb dX8_worthOf_0 rfl (lv_at hl 0 rfl) ?_
  refine lv_iload_n hx hb dX8_worthOf_1 rfl (lv_at hl 1 rfl) ?_
  refine lv_iconst (v := 2) hx hb dX8_worthOf_2 (by decide) ?_
  obtain ⟨r_1, x_2, qr_1, hf⟩ := bd_out hf
  refine rvI (As := [.int v1, .int 2]) (rest := []) C hS (rfl) rfl KX8_of (cX8_of_ qr_1) g_938 ⟨rfl, rfl⟩ ⟨(Nat.le_of_ble_eq_true rfl), (Nat.le_of_ble_eq_true rfl)⟩ hl.1 rfl rfl (Nat.le_of_ble_eq_true rfl) ⟨Nat.zero_le _, Nat.zero_le _⟩ dX8_worthOf_3 (fun H locs hS => ?_)
  refine lv_istore_n (lv' := [(2, .int r_1), (0, .ref (G.1 + 99)), (1, .int v1)]) hx hb dX8_worthOf_6 rfl hl (by decide) rfl (fun ls hl => ?_)
  refine lv_aload_n hx hb dX8_worthOf_7 rfl (lv_at hl 1 rfl) ?_
  refine lv_iload_n hx hb dX8_worthOf_8 rfl (lv_at hl 2 rfl) ?_
  refine lv_iconst (v := 0) hx hb dX8_worthOf_9 (by decide) ?_
  obtain ⟨r_3, x_4, qr_3, hf⟩ := bd_out hf
  refine rvI (As := [.int v1, .int 0]) (rest := []) C hS (rfl) rfl KX8_of (cX8_of_ qr_3) g_938 ⟨rfl, rfl⟩ ⟨(Nat.le_of_ble_eq_true rfl), (Nat.le_of_ble_eq_true rfl)⟩ hl.1 rfl rfl (Nat.le_of_ble_eq_true rfl) ⟨Nat.zero_le _, Nat.zero_le _⟩ dX8_worthOf_10 (fun H locs hS => ?_)
  by_cases c_5 : r_3 = 1
  · replace hf := if_p c_5 hf
    refine tswI (k := 1) (off := 35) (tgt := 48) hx hb dX8_worthOf_13 c_5 (by decide) rfl (by decide) ?_
    refine lv_iload_n hx hb dX8_worthOf_48 rfl (lv_at hl 0 rfl) ?_
    refine lv_bipush (v := 8) hx hb dX8_worthOf_49 (by decide) ?_
    refine lv_iadd hx hb dX8_worthOf_51 ?_
    exact rtI C hS hf dX8_worthOf_52
  · replace hf := if_n c_5 hf
    by_cases c_6 : r_3 = 2
    · replace hf := if_p c_6 hf
      refine tswI (k := 2) (off := 40) (tgt := 53) hx hb dX8_worthOf_13 c_6 (by decide) rfl (by decide) ?_
      refine lv_bipush (v := 99) hx hb dX8_worthOf_53 (by decide) ?_
      refine lv_iload_n hx hb dX8_worthOf_55 rfl (lv_at hl 0 rfl) ?_
      refine lv_isub hx hb dX8_worthOf_56 ?_
      exact rtI C hS hf dX8_worthOf_57
    · replace hf := if_n c_6 hf
      by_cases c_7 : r_3 = 3
      · replace hf := if_p c_7 hf
        refine tswI (k := 3) (off := 45) (tgt := 58) hx hb dX8_worthOf_13 c_7 (by decide) rfl (by decide) ?_
        refine lv_iconst (v := 2) hx hb dX8_worthOf_58 (by decide) ?_
        refine lv_iload_n hx hb dX8_worthOf_59 rfl (lv_at hl 0 rfl) ?_
        refine lv_bipush (v := 8) hx hb dX8_worthOf_60 (by decide) ?_
        refine lv_iadd hx hb dX8_worthOf_62 ?_
        refine lv_imul hx hb dX8_worthOf_63 ?_
        exact rtI C hS hf dX8_worthOf_64
      · replace hf := if_n c_7 hf
        by_cases c_8 : r_3 = 4
        · replace hf := if_p c_8 hf
          refine tswI (k := 4) (off := 52) (tgt := 65) hx hb dX8_worthOf_13 c_8 (by decide) rfl (by decide) ?_
          refine lv_bipush (v := 94) hx hb dX8_worthOf_65 (by decide) ?_
          refine lv_iload_n hx hb dX8_worthOf_67 rfl (lv_at hl 0 rfl) ?_
          refine lv_isub hx hb dX8_worthOf_68 ?_
          exact rtI C hS hf dX8_worthOf_69
        · replace hf := if_n c_8 hf
          by_cases c_9 : r_3 = 5
          · replace hf := if_p c_9 hf
            refine tswI (k := 5) (off := 57) (tgt := 70) hx hb dX8_worthOf_13 c_9 (by decide) rfl (by decide) ?_
            refine lv_iconst (v := 2) hx hb dX8_worthOf_70 (by decide) ?_
            exact rtI C hS hf dX8_worthOf_71
          · replace hf := if_n c_9 hf
            refine lv_tableOut (tgt := 72) hx hb dX8_worthOf_13 (by have zc_5 := lv_neT c_5 (a := 1) (by decide); have zc_6 := lv_neT c_6 (a := 2) (by decide); have zc_7 := lv_neT c_7 (a := 3) (by decide); have zc_8 := lv_neT c_8 (a := 4) (by decide); have zc_9 := lv_neT c_9 (a := 5) (by decide); omega) (by decide) ?_
            refine lv_iload_n hx hb dX8_worthOf_72 rfl (lv_at hl 0 rfl) ?_
            exact rtI C hS hf dX8_worthOf_73
abbrev rmX8_told : Room := { frames := 2, cells := 0, slots := 0, locals := 44 }
set_option maxRecDepth 100000 in
set_option maxHeartbeats 4000000 in
theorem cX8_told_ {G : GT} {l : Launch} {v1 : Int32} {v2 : Int32} {x z : XS} {r : Int32} (hf : fX8_told v1 v2 x = some (r, z)) : Ct G l yX8_told (.code yX8_told cX8_told 3 (some .int)) rmX8_told [.ref (G.1 + 99), .int v1, .int v2] x (some (.int r)) z := by
  refine Ct.of (by decide +kernel) (Nat.le_of_ble_eq_true rfl) ?_
  intro p e s m args below meth c C ls hl hS
  have C : CX G p s m args meth c cX8_told 3 (some .int) RX8 := C
  have hl : lv_has ls 3 [(0, .ref (G.1 + 99)), (1, .int v1), (2, .int v2)] := hl
  have hx := C.1
  have hb := C.2.1
  have hown := C.2.2.2.2.2.1
  have hw := C.2.2.2.2.2.2.1
  unfold fX8_told at hf
  refine lv_aload_n hx hb dX8_told_0 rfl (lv_at hl 0 rfl) ?_
  refine lv_iload_n hx hb dX8_told_1 rfl (lv_at hl 1 rfl) ?_
  obtain ⟨r_1, x_2, qr_1, hf⟩ := bd_out hf
  refine rvI (As := [.int v1]) (rest := []) C hS (rfl) rfl KX8_isBoy (cX8_isBoy_ qr_1) g_934 ⟨rfl, rfl⟩ ⟨(Nat.le_of_ble_eq_true rfl), (Nat.le_of_ble_eq_true rfl)⟩ hl.1 rfl rfl (Nat.le_of_ble_eq_true rfl) ⟨Nat.zero_le _, Nat.zero_le _⟩ dX8_told_2 (fun H locs hS => ?_)
  refine lv_if_eq (tgt := 18) hx hb dX8_told_5 (by decide) (fun c_3 => ?_) (fun c_3 => ?_)
  · replace hf := if_p c_3 hf
    refine lv_ldc (v := (-1000000001)) hx hb hown (hw _ g_920) dX8_told_18 ?_
    exact rtI C hS hf dX8_told_20
  · replace hf := if_n c_3 hf
    refine lv_iload_n hx hb dX8_told_8 rfl (lv_at hl 2 rfl) ?_
    refine lv_iconst (v := 0) hx hb dX8_told_9 (by decide) ?_
    refine lv_bipush (v := 9) hx hb dX8_told_10 (by decide) ?_
    obtain ⟨r_4, x_5, qr_4, hf⟩ := bd_out hf
    refine rsI (As := [.int v2, .int 0, .int 9]) (rest := []) C hS KX8_in (cX8_in_ qr_4) g_914 ⟨rfl, rfl⟩ ⟨(Nat.le_of_ble_eq_true rfl), (Nat.le_of_ble_eq_true rfl)⟩ hl.1 rfl rfl (Nat.le_of_ble_eq_true rfl) ⟨Nat.zero_le _, Nat.zero_le _⟩ dX8_told_12 (fun H locs hS => ?_)
    refine lv_if_ne (tgt := 21) hx hb dX8_told_15 (by decide) (fun c_6 => ?_) (fun c_6 => ?_)
    · replace hf := if_n c_6 hf
      refine lv_iload_n hx hb dX8_told_21 rfl (lv_at hl 2 rfl) ?_
      refine lv_bipush (v := 7) hx hb dX8_told_22 (by decide) ?_
      refine lv_icmp_ge (tgt := 36) hx hb dX8_told_24 (by decide) (fun c_7 => ?_) (fun c_7 => ?_)
      · replace hf := if_p c_7 hf
        refine lv_iload_n hx hb dX8_told_36 rfl (lv_at hl 2 rfl) ?_
        refine lv_bipush (v := 7) hx hb dX8_told_37 (by decide) ?_
        refine lv_icmp_ne (tgt := 50) hx hb dX8_told_39 (by decide) (fun c_8 => ?_) (fun c_8 => ?_)
        · replace hf := if_n c_8 hf
          refine lv_iload_n hx hb dX8_told_50 rfl (lv_at hl 2 rfl) ?_
          refine lv_bipush (v := 8) hx hb dX8_told_51 (by decide) ?_
          refine lv_icmp_ne (tgt := 64) hx hb dX8_told_53 (by decide) (fun c_9 => ?_) (fun c_9 => ?_)
          · replace hf := if_n c_9 hf
            refine lv_aload_n hx hb dX8_told_64 rfl (lv_at hl 0 rfl) ?_
            refine lv_iload_n hx hb dX8_told_65 rfl (lv_at hl 1 rfl) ?_
            obtain ⟨r_10, x_11, qr_10, hf⟩ := bd_out hf
            refine rvI (As := [.int v1]) (rest := []) C hS (rfl) rfl KX8_worthOf (cX8_worthOf_ qr_10) g_950 ⟨rfl, rfl⟩ ⟨(Nat.le_of_ble_eq_true rfl), (Nat.le_of_ble_eq_true rfl)⟩ hl.1 rfl rfl (Nat.le_of_ble_eq_true rfl) ⟨Nat.zero_le _, Nat.zero_le _⟩ dX8_told_66 (fun H locs hS => ?_)
            exact rtI C hS hf dX8_told_69
          · replace hf := if_p c_9 hf
            refine lv_aload_n hx hb dX8_told_56 rfl (lv_at hl 0 rfl) ?_
            refine lv_iload_n hx hb dX8_told_57 rfl (lv_at hl 1 rfl) ?_
            obtain ⟨r_12, x_13, qr_12, hf⟩ := bd_out hf
            refine rvI (As := [.int v1]) (rest := []) C hS (rfl) rfl KX8_asksOf (cX8_asksOf_ qr_12) g_946 ⟨rfl, rfl⟩ ⟨(Nat.le_of_ble_eq_true rfl), (Nat.le_of_ble_eq_true rfl)⟩ hl.1 rfl rfl (Nat.le_of_ble_eq_true rfl) ⟨Nat.zero_le _, Nat.zero_le _⟩ dX8_told_58 (fun H locs hS => ?_)
            refine lv_goto (tgt := 69) hx hb dX8_told_61 (by decide) ?_
            exact rtI C hS hf dX8_told_69
        · replace hf := if_p c_8 hf
          refine lv_aload_n hx hb dX8_told_42 rfl (lv_at hl 0 rfl) ?_
          refine lv_iload_n hx hb dX8_told_43 rfl (lv_at hl 1 rfl) ?_
          obtain ⟨r_14, x_15, qr_14, hf⟩ := bd_out hf
          refine rvI (As := [.int v1]) (rest := []) C hS (rfl) rfl KX8_takesOf (cX8_takesOf_ qr_14) g_942 ⟨rfl, rfl⟩ ⟨(Nat.le_of_ble_eq_true rfl), (Nat.le_of_ble_eq_true rfl)⟩ hl.1 rfl rfl (Nat.le_of_ble_eq_true rfl) ⟨Nat.zero_le _, Nat.zero_le _⟩ dX8_told_44 (fun H locs hS => ?_)
          refine lv_goto (tgt := 69) hx hb dX8_told_47 (by decide) ?_
          exact rtI C hS hf dX8_told_69
      · replace hf := if_n c_7 hf
        refine lv_aload_n hx hb dX8_told_27 rfl (lv_at hl 0 rfl) ?_
        refine lv_iload_n hx hb dX8_told_28 rfl (lv_at hl 1 rfl) ?_
        refine lv_iload_n hx hb dX8_told_29 rfl (lv_at hl 2 rfl) ?_
        obtain ⟨r_16, x_17, qr_16, hf⟩ := bd_out hf
        refine rvI (As := [.int v1, .int v2]) (rest := []) C hS (rfl) rfl KX8_of (cX8_of_ qr_16) g_938 ⟨rfl, rfl⟩ ⟨(Nat.le_of_ble_eq_true rfl), (Nat.le_of_ble_eq_true rfl)⟩ hl.1 rfl rfl (Nat.le_of_ble_eq_true rfl) ⟨Nat.zero_le _, Nat.zero_le _⟩ dX8_told_30 (fun H locs hS => ?_)
        refine lv_goto (tgt := 69) hx hb dX8_told_33 (by decide) ?_
        exact rtI C hS hf dX8_told_69
    · replace hf := if_p c_6 hf
      refine lv_ldc (v := (-1000000001)) hx hb hown (hw _ g_920) dX8_told_18 ?_
      exact rtI C hS hf dX8_told_20
abbrev rmX8_shine : Room := { frames := 4, cells := 0, slots := 0, locals := 94 }
set_option maxRecDepth 100000 in
set_option maxHeartbeats 4000000 in
theorem cX8_shine_ {G : GT} {l : Launch} {v1 : Int32} {v2 : Int32} {v3 : Int32} {x z : XS} {r : Int32} (hf : fX8_shine v1 v2 v3 x = some (r, z)) : Ct G l yX8_shine (.code yX8_shine cX8_shine 4 (some .int)) rmX8_shine [.ref (G.1 + 99), .int v1, .int v2, .int v3] x (some (.int r)) z := by
  refine Ct.of (by decide +kernel) (Nat.le_of_ble_eq_true rfl) ?_
  intro p e s m args below meth c C ls hl hS
  have C : CX G p s m args meth c cX8_shine 4 (some .int) RX8 := C
  have hl : lv_has ls 4 [(0, .ref (G.1 + 99)), (1, .int v1), (2, .int v2), (3, .int v3)] := hl
  have hx := C.1
  have hb := C.2.1
  have hown := C.2.2.2.2.2.1
  have hw := C.2.2.2.2.2.2.1
  unfold fX8_shine at hf
  refine lv_aload_n hx hb dX8_shine_0 rfl (lv_at hl 0 rfl) ?_
  refine lv_iload_n hx hb dX8_shine_1 rfl (lv_at hl 1 rfl) ?_
  obtain ⟨r_1, x_2, qr_1, hf⟩ := bd_out hf
  refine rvI (As := [.int v1]) (rest := []) C hS (rfl) rfl KX8_isBoy (cX8_isBoy_ qr_1) g_934 ⟨rfl, rfl⟩ ⟨(Nat.le_of_ble_eq_true rfl), (Nat.le_of_ble_eq_true rfl)⟩ hl.1 rfl rfl (Nat.le_of_ble_eq_true rfl) ⟨Nat.zero_le _, Nat.zero_le _⟩ dX8_shine_2 (fun H locs hS => ?_)
  refine lv_if_eq (tgt := 38) hx hb dX8_shine_5 (by decide) (fun c_3 => ?_) (fun c_3 => ?_)
  · replace hf := if_p c_3 hf
    refine lv_ldc (v := (-1000000001)) hx hb hown (hw _ g_920) dX8_shine_38 ?_
    exact rtI C hS hf dX8_shine_40
  · replace hf := if_n c_3 hf
    refine lv_iload_n hx hb dX8_shine_8 rfl (lv_at hl 2 rfl) ?_
    refine lv_iconst (v := 0) hx hb dX8_shine_9 (by decide) ?_
    refine lv_bipush (v := 40) hx hb dX8_shine_10 (by decide) ?_
    obtain ⟨r_4, x_5, qr_4, hf⟩ := bd_out hf
    refine rsI (As := [.int v2, .int 0, .int 40]) (rest := []) C hS KX8_in (cX8_in_ qr_4) g_914 ⟨rfl, rfl⟩ ⟨(Nat.le_of_ble_eq_true rfl), (Nat.le_of_ble_eq_true rfl)⟩ hl.1 rfl rfl (Nat.le_of_ble_eq_true rfl) ⟨Nat.zero_le _, Nat.zero_le _⟩ dX8_shine_12 (fun H locs hS => ?_)
    refine lv_if_eq (tgt := 38) hx hb dX8_shine_15 (by decide) (fun c_6 => ?_) (fun c_6 => ?_)
    · replace hf := if_p c_6 hf
      refine lv_ldc (v := (-1000000001)) hx hb hown (hw _ g_920) dX8_shine_38 ?_
      exact rtI C hS hf dX8_shine_40
    · replace hf := if_n c_6 hf
      refine lv_iload_n hx hb dX8_shine_18 rfl (lv_at hl 3 rfl) ?_
      refine lv_iconst (v := 0) hx hb dX8_shine_19 (by decide) ?_
      refine lv_bipush (v := 9) hx hb dX8_shine_20 (by decide) ?_
      obtain ⟨r_7, x_8, qr_7, hf⟩ := bd_out hf
      refine rsI (As := [.int v3, .int 0, .int 9]) (rest := []) C hS KX8_in (cX8_in_ qr_7) g_914 ⟨rfl, rfl⟩ ⟨(Nat.le_of_ble_eq_true rfl), (Nat.le_of_ble_eq_true rfl)⟩ hl.1 rfl rfl (Nat.le_of_ble_eq_true rfl) ⟨Nat.zero_le _, Nat.zero_le _⟩ dX8_shine_22 (fun H locs hS => ?_)
      refine lv_if_eq (tgt := 38) hx hb dX8_shine_25 (by decide) (fun c_9 => ?_) (fun c_9 => ?_)
      · replace hf := if_p c_9 hf
        refine lv_ldc (v := (-1000000001)) hx hb hown (hw _ g_920) dX8_shine_38 ?_
        exact rtI C hS hf dX8_shine_40
      · replace hf := if_n c_9 hf
        refine lv_aload_n hx hb dX8_shine_28 rfl (lv_at hl 0 rfl) ?_
        refine lv_iload_n hx hb dX8_shine_29 rfl (lv_at hl 1 rfl) ?_
        refine lv_iload_n hx hb dX8_shine_30 rfl (lv_at hl 2 rfl) ?_
        refine lv_iload_n hx hb dX8_shine_31 rfl (lv_at hl 3 rfl) ?_
        obtain ⟨r_10, x_11, qr_10, hf⟩ := bd_out hf
        refine rvI (As := [.int v1, .int v2, .int v3]) (rest := []) C hS (rfl) rfl KX8_shineOf (cX8_shineOf_ qr_10) g_958 ⟨rfl, rfl⟩ ⟨(Nat.le_of_ble_eq_true rfl), (Nat.le_of_ble_eq_true rfl)⟩ hl.1 rfl rfl (Nat.le_of_ble_eq_true rfl) ⟨Nat.zero_le _, Nat.zero_le _⟩ dX8_shine_32 (fun H locs hS => ?_)
        refine lv_goto (tgt := 40) hx hb dX8_shine_35 (by decide) ?_
        exact rtI C hS hf dX8_shine_40
abbrev rmX8_isUnder : Room := { frames := 0, cells := 0, slots := 0, locals := 0 }
set_option maxRecDepth 100000 in
set_option maxHeartbeats 4000000 in
theorem wX8_isUnder_h19 {p : Program} {l : Launch} {e : Env} {s : State} {m : MethodId} {args : Array Value} {below : List Frame} {meth : Method} {c : Code} {G : GT} {r : Int32} {z : XS} (C : CX G p s m args meth c cX8_isUnder 2 (some .boolean) RX8) : ∀ (u0 : Int32) (u1 : Int32) (x : XS), fX8_isUnder_h19 u0 u1 x = some (r, z) → ∀ (H : Heap) (locs : List Loc) (ls : Array Slot), SR G x H locs → lv_has ls 2 [(0, .int u0), (1, .int u1)] → W p l e rmX8_isUnder s m args below meth c H locs 0 0 (MQ below (QC G (some (.int r)) z) args s 0 0 (AB G)) (F0 m 19 ls []) := by
  intro u0 u1 x hf H locs ls hS hl
  have hx := C.1
  have hb := C.2.1
  have hown := C.2.2.2.2.2.1
  have hw := C.2.2.2.2.2.2.1
  unfold fX8_isUnder_h19 at hf
  refine lv_iload_n hx hb dX8_isUnder_19 rfl (lv_at hl 1 rfl) ?_
  refine lv_iconst (v := 2) hx hb dX8_isUnder_20 (by decide) ?_
  refine lv_icmp_ne (tgt := 33) hx hb dX8_isUnder_21 (by decide) (fun c_5 => ?_) (fun c_5 => ?_)
  · replace hf := if_n c_5 hf
    refine lv_iconst (v := 0) hx hb dX8_isUnder_33 (by decide) ?_
    exact rtZ C hS rfl hf dX8_isUnder_34
  · replace hf := if_p c_5 hf
    refine lv_iload_n hx hb dX8_isUnder_24 rfl (lv_at hl 0 rfl) ?_
    refine lv_iconst (v := 4) hx hb dX8_isUnder_25 (by decide) ?_
    refine lv_icmp_ne (tgt := 33) hx hb dX8_isUnder_26 (by decide) (fun c_6 => ?_) (fun c_6 => ?_)
    · replace hf := if_n c_6 hf
      refine lv_iconst (v := 0) hx hb dX8_isUnder_33 (by decide) ?_
      exact rtZ C hS rfl hf dX8_isUnder_34
    · replace hf := if_p c_6 hf
      refine lv_iconst (v := 1) hx hb dX8_isUnder_29 (by decide) ?_
      refine lv_goto (tgt := 34) hx hb dX8_isUnder_30 (by decide) ?_
      exact rtZ C hS rfl hf dX8_isUnder_34
set_option maxRecDepth 100000 in
set_option maxHeartbeats 4000000 in
theorem cX8_isUnder_ {G : GT} {l : Launch} {v0 : Int32} {v1 : Int32} {x z : XS} {r : Int32} (hf : fX8_isUnder v0 v1 x = some (r, z)) : Ct G l yX8_isUnder (.code yX8_isUnder cX8_isUnder 2 (some .boolean)) rmX8_isUnder [.int v0, .int v1] x (some (.int r)) z := by
  refine Ct.of (by decide +kernel) (Nat.le_of_ble_eq_true rfl) ?_
  intro p e s m args below meth c C ls hl hS
  have C : CX G p s m args meth c cX8_isUnder 2 (some .boolean) RX8 := C
  have hl : lv_has ls 2 [(0, .int v0), (1, .int v1)] := hl
  have hx := C.1
  have hb := C.2.1
  have hown := C.2.2.2.2.2.1
  have hw := C.2.2.2.2.2.2.1
  unfold fX8_isUnder at hf
  refine lv_iload_n hx hb dX8_isUnder_0 rfl (lv_at hl 1 rfl) ?_
  refine lv_if_eq (tgt := 29) hx hb dX8_isUnder_1 (by decide) (fun c_1 => ?_) (fun c_1 => ?_)
  · replace hf := if_p c_1 hf
    refine lv_iconst (v := 1) hx hb dX8_isUnder_29 (by decide) ?_
    refine lv_goto (tgt := 34) hx hb dX8_isUnder_30 (by decide) ?_
    exact rtZ C hS rfl hf dX8_isUnder_34
  · replace hf := if_n c_1 hf
    refine lv_iload_n hx hb dX8_isUnder_4 rfl (lv_at hl 0 rfl) ?_
    refine lv_iload_n hx hb dX8_isUnder_5 rfl (lv_at hl 1 rfl) ?_
    refine lv_icmp_eq (tgt := 29) hx hb dX8_isUnder_6 (by decide) (fun c_2 => ?_) (fun c_2 => ?_)
    · replace hf := if_p c_2 hf
      refine lv_iconst (v := 1) hx hb dX8_isUnder_29 (by decide) ?_
      refine lv_goto (tgt := 34) hx hb dX8_isUnder_30 (by decide) ?_
      exact rtZ C hS rfl hf dX8_isUnder_34
    · replace hf := if_n c_2 hf
      refine lv_iload_n hx hb dX8_isUnder_9 rfl (lv_at hl 1 rfl) ?_
      refine lv_iconst (v := 1) hx hb dX8_isUnder_10 (by decide) ?_
      refine lv_icmp_ne (tgt := 19) hx hb dX8_isUnder_11 (by decide) (fun c_3 => ?_) (fun c_3 => ?_)
      · replace hf := if_n c_3 hf
        exact wX8_isUnder_h19  C v0 v1 x hf _ _ _ hS (lv_sub hl [0, 1] rfl)
      · replace hf := if_p c_3 hf
        refine lv_iload_n hx hb dX8_isUnder_14 rfl (lv_at hl 0 rfl) ?_
        refine lv_iconst (v := 3) hx hb dX8_isUnder_15 (by decide) ?_
        refine lv_icmp_eq (tgt := 29) hx hb dX8_isUnder_16 (by decide) (fun c_4 => ?_) (fun c_4 => ?_)
        · replace hf := if_p c_4 hf
          refine lv_iconst (v := 1) hx hb dX8_isUnder_29 (by decide) ?_
          refine lv_goto (tgt := 34) hx hb dX8_isUnder_30 (by decide) ?_
          exact rtZ C hS rfl hf dX8_isUnder_34
        · replace hf := if_n c_4 hf
          exact wX8_isUnder_h19  C v0 v1 x hf _ _ _ hS (lv_sub hl [0, 1] rfl)
abbrev rmX8_as : Room := { frames := 2, cells := 0, slots := 0, locals := 43 }
set_option maxRecDepth 100000 in
set_option maxHeartbeats 4000000 in
theorem cX8_as_ {G : GT} {l : Launch} {v1 : Int32} {v2 : Int32} {x z : XS} {r : Int32} (hf : fX8_as v1 v2 x = some (r, z)) : Ct G l yX8_as (.code yX8_as cX8_as 3 (some .int)) rmX8_as [.ref (G.1 + 99), .int v1, .int v2] x (some (.int r)) z := by
  refine Ct.of (by decide +kernel) (Nat.le_of_ble_eq_true rfl) ?_
  intro p e s m args below meth c C ls hl hS
  have C : CX G p s m args meth c cX8_as 3 (some .int) RX8 := C
  have hl : lv_has ls 3 [(0, .ref (G.1 + 99)), (1, .int v1), (2, .int v2)] := hl
  have hx := C.1
  have hb := C.2.1
  have hown := C.2.2.2.2.2.1
  have hw := C.2.2.2.2.2.2.1
  unfold fX8_as at hf
  refine lv_aload_n hx hb dX8_as_0 rfl (lv_at hl 0 rfl) ?_
  refine lv_iload_n hx hb dX8_as_1 rfl (lv_at hl 1 rfl) ?_
  obtain ⟨r_1, x_2, qr_1, hf⟩ := bd_out hf
  refine rvI (As := [.int v1]) (rest := []) C hS (rfl) rfl KX8_isBoy (cX8_isBoy_ qr_1) g_934 ⟨rfl, rfl⟩ ⟨(Nat.le_of_ble_eq_true rfl), (Nat.le_of_ble_eq_true rfl)⟩ hl.1 rfl rfl (Nat.le_of_ble_eq_true rfl) ⟨Nat.zero_le _, Nat.zero_le _⟩ dX8_as_2 (fun H locs hS => ?_)
  refine lv_if_eq (tgt := 17) hx hb dX8_as_5 (by decide) (fun c_3 => ?_) (fun c_3 => ?_)
  · replace hf := if_p c_3 hf
    refine lv_ldc (v := (-1000000001)) hx hb hown (hw _ g_920) dX8_as_17 ?_
    exact rtI C hS hf dX8_as_19
  · replace hf := if_n c_3 hf
    refine lv_iload_n hx hb dX8_as_8 rfl (lv_at hl 2 rfl) ?_
    refine lv_iconst (v := 0) hx hb dX8_as_9 (by decide) ?_
    refine lv_iconst (v := 5) hx hb dX8_as_10 (by decide) ?_
    obtain ⟨r_4, x_5, qr_4, hf⟩ := bd_out hf
    refine rsI (As := [.int v2, .int 0, .int 5]) (rest := []) C hS KX8_in (cX8_in_ qr_4) g_914 ⟨rfl, rfl⟩ ⟨(Nat.le_of_ble_eq_true rfl), (Nat.le_of_ble_eq_true rfl)⟩ hl.1 rfl rfl (Nat.le_of_ble_eq_true rfl) ⟨Nat.zero_le _, Nat.zero_le _⟩ dX8_as_11 (fun H locs hS => ?_)
    refine lv_if_ne (tgt := 20) hx hb dX8_as_14 (by decide) (fun c_6 => ?_) (fun c_6 => ?_)
    · replace hf := if_n c_6 hf
      refine lv_aload_n hx hb dX8_as_20 rfl (lv_at hl 0 rfl) ?_
      refine lv_iload_n hx hb dX8_as_21 rfl (lv_at hl 1 rfl) ?_
      refine lv_iconst (v := 0) hx hb dX8_as_22 (by decide) ?_
      obtain ⟨r_7, x_8, qr_7, hf⟩ := bd_out hf
      refine rvI (As := [.int v1, .int 0]) (rest := []) C hS (rfl) rfl KX8_of (cX8_of_ qr_7) g_938 ⟨rfl, rfl⟩ ⟨(Nat.le_of_ble_eq_true rfl), (Nat.le_of_ble_eq_true rfl)⟩ hl.1 rfl rfl (Nat.le_of_ble_eq_true rfl) ⟨Nat.zero_le _, Nat.zero_le _⟩ dX8_as_23 (fun H locs hS => ?_)
      refine lv_iload_n hx hb dX8_as_26 rfl (lv_at hl 2 rfl) ?_
      obtain ⟨r_9, x_10, qr_9, hf⟩ := bd_out hf
      refine rsI (As := [.int r_7, .int v2]) (rest := []) C hS KX8_isUnder (cX8_isUnder_ qr_9) g_984 ⟨rfl, rfl⟩ ⟨(Nat.le_of_ble_eq_true rfl), (Nat.le_of_ble_eq_true rfl)⟩ hl.1 rfl rfl (Nat.le_of_ble_eq_true rfl) ⟨Nat.zero_le _, Nat.zero_le _⟩ dX8_as_27 (fun H locs hS => ?_)
      refine lv_if_eq (tgt := 42) hx hb dX8_as_30 (by decide) (fun c_11 => ?_) (fun c_11 => ?_)
      · replace hf := if_p c_11 hf
        refine lv_ldc (v := (-1000000012)) hx hb hown (hw _ g_987) dX8_as_42 ?_
        exact rtI C hS hf dX8_as_44
      · replace hf := if_n c_11 hf
        refine lv_aload_n hx hb dX8_as_33 rfl (lv_at hl 0 rfl) ?_
        refine lv_iload_n hx hb dX8_as_34 rfl (lv_at hl 1 rfl) ?_
        refine lv_iconst (v := 2) hx hb dX8_as_35 (by decide) ?_
        obtain ⟨r_12, x_13, qr_12, hf⟩ := bd_out hf
        refine rvI (As := [.int v1, .int 2]) (rest := []) C hS (rfl) rfl KX8_of (cX8_of_ qr_12) g_938 ⟨rfl, rfl⟩ ⟨(Nat.le_of_ble_eq_true rfl), (Nat.le_of_ble_eq_true rfl)⟩ hl.1 rfl rfl (Nat.le_of_ble_eq_true rfl) ⟨Nat.zero_le _, Nat.zero_le _⟩ dX8_as_36 (fun H locs hS => ?_)
        refine lv_goto (tgt := 44) hx hb dX8_as_39 (by decide) ?_
        exact rtI C hS hf dX8_as_44
    · replace hf := if_p c_6 hf
      refine lv_ldc (v := (-1000000001)) hx hb hown (hw _ g_920) dX8_as_17 ?_
      exact rtI C hS hf dX8_as_19
abbrev rmX8_turns : Room := { frames := 2, cells := 0, slots := 0, locals := 43 }
set_option maxRecDepth 100000 in
set_option maxHeartbeats 4000000 in
theorem cX8_turns_ {G : GT} {l : Launch} {v1 : Int32} {v2 : Int32} {x z : XS} {r : Int32} (hf : fX8_turns v1 v2 x = some (r, z)) : Ct G l yX8_turns (.code yX8_turns cX8_turns 3 (some .int)) rmX8_turns [.ref (G.1 + 99), .int v1, .int v2] x (some (.int r)) z := by
  refine Ct.of (by decide +kernel) (Nat.le_of_ble_eq_true rfl) ?_
  intro p e s m args below meth c C ls hl hS
  have C : CX G p s m args meth c cX8_turns 3 (some .int) RX8 := C
  have hl : lv_has ls 3 [(0, .ref (G.1 + 99)), (1, .int v1), (2, .int v2)] := hl
  have hx := C.1
  have hb := C.2.1
  have hown := C.2.2.2.2.2.1
  have hw := C.2.2.2.2.2.2.1
  unfold fX8_turns at hf
  refine lv_aload_n hx hb dX8_turns_0 rfl (lv_at hl 0 rfl) ?_
  refine lv_iload_n hx hb dX8_turns_1 rfl (lv_at hl 1 rfl) ?_
  obtain ⟨r_1, x_2, qr_1, hf⟩ := bd_out hf
  refine rvI (As := [.int v1]) (rest := []) C hS (rfl) rfl KX8_isBoy (cX8_isBoy_ qr_1) g_934 ⟨rfl, rfl⟩ ⟨(Nat.le_of_ble_eq_true rfl), (Nat.le_of_ble_eq_true rfl)⟩ hl.1 rfl rfl (Nat.le_of_ble_eq_true rfl) ⟨Nat.zero_le _, Nat.zero_le _⟩ dX8_turns_2 (fun H locs hS => ?_)
  refine lv_if_eq (tgt := 32) hx hb dX8_turns_5 (by decide) (fun c_3 => ?_) (fun c_3 => ?_)
  · replace hf := if_p c_3 hf
    refine lv_ldc (v := (-1000000001)) hx hb hown (hw _ g_920) dX8_turns_32 ?_
    exact rtI C hS hf dX8_turns_34
  · replace hf := if_n c_3 hf
    refine lv_iload_n hx hb dX8_turns_8 rfl (lv_at hl 2 rfl) ?_
    refine lv_iconst (v := 0) hx hb dX8_turns_9 (by decide) ?_
    refine lv_iconst (v := 5) hx hb dX8_turns_10 (by decide) ?_
    obtain ⟨r_4, x_5, qr_4, hf⟩ := bd_out hf
    refine rsI (As := [.int v2, .int 0, .int 5]) (rest := []) C hS KX8_in (cX8_in_ qr_4) g_914 ⟨rfl, rfl⟩ ⟨(Nat.le_of_ble_eq_true rfl), (Nat.le_of_ble_eq_true rfl)⟩ hl.1 rfl rfl (Nat.le_of_ble_eq_true rfl) ⟨Nat.zero_le _, Nat.zero_le _⟩ dX8_turns_11 (fun H locs hS => ?_)
    refine lv_if_eq (tgt := 32) hx hb dX8_turns_14 (by decide) (fun c_6 => ?_) (fun c_6 => ?_)
    · replace hf := if_p c_6 hf
      refine lv_ldc (v := (-1000000001)) hx hb hown (hw _ g_920) dX8_turns_32 ?_
      exact rtI C hS hf dX8_turns_34
    · replace hf := if_n c_6 hf
      refine lv_aload_n hx hb dX8_turns_17 rfl (lv_at hl 0 rfl) ?_
      refine lv_bipush (v := 9) hx hb dX8_turns_18 (by decide) ?_
      refine lv_bipush (v := 7) hx hb dX8_turns_20 (by decide) ?_
      refine lv_iload_n hx hb dX8_turns_22 rfl (lv_at hl 1 rfl) ?_
      refine lv_imul hx hb dX8_turns_23 ?_
      refine lv_iadd hx hb dX8_turns_24 ?_
      refine lv_iload_n hx hb dX8_turns_25 rfl (lv_at hl 2 rfl) ?_
      obtain ⟨r_7, x_8, qr_7, hf⟩ := bd_out hf
      refine rvI (As := [.int (9 + (7 * v1)), .int v2]) (rest := []) C hS (rfl) rfl KX8_becomes (cX8_becomes_ qr_7) g_992 ⟨rfl, rfl⟩ ⟨(Nat.le_of_ble_eq_true rfl), (Nat.le_of_ble_eq_true rfl)⟩ hl.1 rfl rfl (Nat.le_of_ble_eq_true rfl) ⟨Nat.zero_le _, Nat.zero_le _⟩ dX8_turns_26 (fun H locs hS => ?_)
      refine lv_goto (tgt := 34) hx hb dX8_turns_29 (by decide) ?_
      exact rtI C hS hf dX8_turns_34
abbrev rmX8_set : Room := { frames := 2, cells := 0, slots := 0, locals := 43 }
set_option maxRecDepth 100000 in
set_option maxHeartbeats 4000000 in
theorem cX8_set_ {G : GT} {l : Launch} {v1 : Int32} {v2 : Int32} {v3 : Int32} {x z : XS} {r : Int32} (hf : fX8_set v1 v2 v3 x = some (r, z)) : Ct G l yX8_set (.code yX8_set cX8_set 4 (some .int)) rmX8_set [.ref (G.1 + 99), .int v1, .int v2, .int v3] x (some (.int r)) z := by
  refine Ct.of (by decide +kernel) (Nat.le_of_ble_eq_true rfl) ?_
  intro p e s m args below meth c C ls hl hS
  have C : CX G p s m args meth c cX8_set 4 (some .int) RX8 := C
  have hl : lv_has ls 4 [(0, .ref (G.1 + 99)), (1, .int v1), (2, .int v2), (3, .int v3)] := hl
  have hx := C.1
  have hb := C.2.1
  have hown := C.2.2.2.2.2.1
  have hw := C.2.2.2.2.2.2.1
  unfold fX8_set at hf
  refine lv_aload_n hx hb dX8_set_0 rfl (lv_at hl 0 rfl) ?_
  refine lv_iload_n hx hb dX8_set_1 rfl (lv_at hl 1 rfl) ?_
  obtain ⟨r_1, x_2, qr_1, hf⟩ := bd_out hf
  refine rvI (As := [.int v1]) (rest := []) C hS (rfl) rfl KX8_isBoy (cX8_isBoy_ qr_1) g_934 ⟨rfl, rfl⟩ ⟨(Nat.le_of_ble_eq_true rfl), (Nat.le_of_ble_eq_true rfl)⟩ hl.1 rfl rfl (Nat.le_of_ble_eq_true rfl) ⟨Nat.zero_le _, Nat.zero_le _⟩ dX8_set_2 (fun H locs hS => ?_)
  refine lv_if_eq (tgt := 42) hx hb dX8_set_5 (by decide) (fun c_3 => ?_) (fun c_3 => ?_)
  · replace hf := if_p c_3 hf
    refine lv_ldc (v := (-1000000001)) hx hb hown (hw _ g_920) dX8_set_42 ?_
    exact rtI C hS hf dX8_set_44
  · replace hf := if_n c_3 hf
    refine lv_iload_n hx hb dX8_set_8 rfl (lv_at hl 2 rfl) ?_
    refine lv_iconst (v := 1) hx hb dX8_set_9 (by decide) ?_
    refine lv_iconst (v := 3) hx hb dX8_set_10 (by decide) ?_
    obtain ⟨r_4, x_5, qr_4, hf⟩ := bd_out hf
    refine rsI (As := [.int v2, .int 1, .int 3]) (rest := []) C hS KX8_in (cX8_in_ qr_4) g_914 ⟨rfl, rfl⟩ ⟨(Nat.le_of_ble_eq_true rfl), (Nat.le_of_ble_eq_true rfl)⟩ hl.1 rfl rfl (Nat.le_of_ble_eq_true rfl) ⟨Nat.zero_le _, Nat.zero_le _⟩ dX8_set_11 (fun H locs hS => ?_)
    refine lv_if_eq (tgt := 42) hx hb dX8_set_14 (by decide) (fun c_6 => ?_) (fun c_6 => ?_)
    · replace hf := if_p c_6 hf
      refine lv_ldc (v := (-1000000001)) hx hb hown (hw _ g_920) dX8_set_42 ?_
      exact rtI C hS hf dX8_set_44
    · replace hf := if_n c_6 hf
      refine lv_iload_n hx hb dX8_set_17 rfl (lv_at hl 2 rfl) ?_
      refine lv_iload_n hx hb dX8_set_18 rfl (lv_at hl 3 rfl) ?_
      obtain ⟨r_7, x_8, qr_7, hf⟩ := bd_out hf
      refine rsI (As := [.int v2, .int v3]) (rest := []) C hS KX8_isOf (cX8_isOf_ qr_7) g_917 ⟨rfl, rfl⟩ ⟨(Nat.le_of_ble_eq_true rfl), (Nat.le_of_ble_eq_true rfl)⟩ hl.1 rfl rfl (Nat.le_of_ble_eq_true rfl) ⟨Nat.zero_le _, Nat.zero_le _⟩ dX8_set_19 (fun H locs hS => ?_)
      refine lv_if_eq (tgt := 42) hx hb dX8_set_22 (by decide) (fun c_9 => ?_) (fun c_9 => ?_)
      · replace hf := if_p c_9 hf
        refine lv_ldc (v := (-1000000001)) hx hb hown (hw _ g_920) dX8_set_42 ?_
        exact rtI C hS hf dX8_set_44
      · replace hf := if_n c_9 hf
        refine lv_aload_n hx hb dX8_set_25 rfl (lv_at hl 0 rfl) ?_
        refine lv_bipush (v := 9) hx hb dX8_set_26 (by decide) ?_
        refine lv_bipush (v := 7) hx hb dX8_set_28 (by decide) ?_
        refine lv_iload_n hx hb dX8_set_30 rfl (lv_at hl 1 rfl) ?_
        refine lv_imul hx hb dX8_set_31 ?_
        refine lv_iadd hx hb dX8_set_32 ?_
        refine lv_iload_n hx hb dX8_set_33 rfl (lv_at hl 2 rfl) ?_
        refine lv_iadd hx hb dX8_set_34 ?_
        refine lv_iload_n hx hb dX8_set_35 rfl (lv_at hl 3 rfl) ?_
        obtain ⟨r_10, x_11, qr_10, hf⟩ := bd_out hf
        refine rvI (As := [.int ((9 + (7 * v1)) + v2), .int v3]) (rest := []) C hS (rfl) rfl KX8_becomes (cX8_becomes_ qr_10) g_992 ⟨rfl, rfl⟩ ⟨(Nat.le_of_ble_eq_true rfl), (Nat.le_of_ble_eq_true rfl)⟩ hl.1 rfl rfl (Nat.le_of_ble_eq_true rfl) ⟨Nat.zero_le _, Nat.zero_le _⟩ dX8_set_36 (fun H locs hS => ?_)
        refine lv_goto (tgt := 44) hx hb dX8_set_39 (by decide) ?_
        exact rtI C hS hf dX8_set_44
abbrev rmX8_draw : Room := { frames := 0, cells := 0, slots := 0, locals := 0 }
set_option maxRecDepth 100000 in
set_option maxHeartbeats 4000000 in
theorem cX8_draw_ {G : GT} {l : Launch} {x z : XS} {r : Int32} (hf : fX8_draw x = some (r, z)) : Ct G l yX8_draw (.code yX8_draw cX8_draw 1 (some .int)) rmX8_draw [.ref (G.1 + 99)] x (some (.int r)) z := by
  refine Ct.of (by decide +kernel) (Nat.le_of_ble_eq_true rfl) ?_
  intro p e s m args below meth c C ls hl hS
  have C : CX G p s m args meth c cX8_draw 1 (some .int) RX8 := C
  have hl : lv_has ls 1 [(0, .ref (G.1 + 99))] := hl
  have hx := C.1
  have hb := C.2.1
  have hown := C.2.2.2.2.2.1
  have hw := C.2.2.2.2.2.2.1
  unfold fX8_draw at hf
  refine lv_aload_n hx hb dX8_draw_0 rfl (lv_at hl 0 rfl) ?_
  refine gf7_0 C hS (rfl) g_805 dX8_draw_1 ?_
  refine lv_iconst (v := 0) hx hb dX8_draw_4 (by decide) ?_
  refine lv_aload_n hx hb dX8_draw_5 rfl (lv_at hl 0 rfl) ?_
  refine gf7_0 C hS (rfl) g_805 dX8_draw_6 ?_
  refine lv_iconst (v := 0) hx hb dX8_draw_9 (by decide) ?_
  obtain ⟨gg_1, hf⟩ := gd_out hf
  refine alI C hS (rfl) rfl gg_1 dX8_draw_10 ?_
  refine lv_ldc (v := 1103515245) hx hb hown (hw _ g_1008) dX8_draw_11 ?_
  refine lv_imul hx hb dX8_draw_13 ?_
  refine lv_sipush (v := 12345) hx hb dX8_draw_14 (by decide) ?_
  refine lv_iadd hx hb dX8_draw_17 ?_
  obtain ⟨gg_2, hf⟩ := gd_out hf
  obtain ⟨x_3, ex_3, hf⟩ := st_out hf
  refine asI C hS (rfl) rfl gg_2 ex_3 dX8_draw_18 (fun H locs hS => ?_)
  refine lv_aload_n hx hb dX8_draw_19 rfl (lv_at hl 0 rfl) ?_
  refine gf7_0 C hS (rfl) g_805 dX8_draw_20 ?_
  refine lv_iconst (v := 0) hx hb dX8_draw_23 (by decide) ?_
  obtain ⟨gg_4, hf⟩ := gd_out hf
  refine alI C hS (rfl) rfl gg_4 dX8_draw_24 ?_
  refine lv_bipush (v := 8) hx hb dX8_draw_25 (by decide) ?_
  obtain ⟨v_5, ev_5, hf⟩ := st_out hf
  refine lv_iushr (v := v_5) hx hb dX8_draw_27 ev_5.symm ?_
  exact rtI C hS hf dX8_draw_28
abbrev rmX8_deal : Room := { frames := 2, cells := 0, slots := 0, locals := 48 }
set_option maxRecDepth 100000 in
set_option maxHeartbeats 4000000 in
theorem wbX8_deal_h15 {p : Program} {l : Launch} {e : Env} {s : State} {m : MethodId} {args : Array Value} {below : List Frame} {meth : Method} {c : Code} {G : GT} {r : Int32} {z : XS} (C : CX G p s m args meth c cX8_deal 7 (some .int) RX8) {k15 : Int32 → Int32 → XS → Option (Int32 × XS)} (hk15 : ∀ (u1 : Int32) (u2 : Int32) (x : XS), k15 u1 u2 x = some (r, z) → ∀ (H : Heap) (locs : List Loc) (ls : Array Slot), SR G x H locs → lv_has ls 7 [(0, .ref (G.1 + 99)), (1, .int u1), (2, .int u2)] → W p l e rmX8_deal s m args below meth c H locs 0 0 (MQ below (QC G (some (.int r)) z) args s 0 0 (AB G)) (F0 m 15 ls [])) : ∀ (u1 : Int32) (u2 : Int32) (x : XS), bX8_deal_h15 k15 u1 u2 x = some (r, z) → ∀ (H : Heap) (locs : List Loc) (ls : Array Slot), SR G x H locs → lv_has ls 7 [(0, .ref (G.1 + 99)), (1, .int u1), (2, .int u2)] → W p l e rmX8_deal s m args below meth c H locs 0 0 (MQ below (QC G (some (.int r)) z) args s 0 0 (AB G)) (F0 m 15 ls []) := by
  intro u1 u2 x hf H locs ls hS hl
  have hx := C.1
  have hb := C.2.1
  have hown := C.2.2.2.2.2.1
  have hw := C.2.2.2.2.2.2.1
  unfold bX8_deal_h15 at hf
  refine lv_iload_n hx hb dX8_deal_15 rfl (lv_at hl 2 rfl) ?_
  refine lv_iload_n hx hb dX8_deal_16 rfl (lv_at hl 1 rfl) ?_
  refine lv_icmp_ge (tgt := 85) hx hb dX8_deal_17 (by decide) (fun c_4 => ?_) (fun c_4 => ?_)
  · replace hf := if_p c_4 hf
    refine lv_iload_n hx hb dX8_deal_85 rfl (lv_at hl 2 rfl) ?_
    exact rtI C hS hf dX8_deal_86
  · replace hf := if_n c_4 hf
    refine lv_aload_n hx hb dX8_deal_20 rfl (lv_at hl 0 rfl) ?_
    refine gf7_0 C hS (rfl) g_805 dX8_deal_21 ?_
    refine lv_iconst (v := 1) hx hb dX8_deal_24 (by decide) ?_
    obtain ⟨gg_5, hf⟩ := gd_out hf
    refine alI C hS (rfl) rfl gg_5 dX8_deal_25 ?_
    refine lv_bipush (v := 8) hx hb dX8_deal_26 (by decide) ?_
    refine lv_icmp_ge (tgt := 85) hx hb dX8_deal_28 (by decide) (fun c_6 => ?_) (fun c_6 => ?_)
    · replace hf := if_p c_6 hf
      refine lv_iload_n hx hb dX8_deal_85 rfl (lv_at hl 2 rfl) ?_
      exact rtI C hS hf dX8_deal_86
    · replace hf := if_n c_6 hf
      refine lv_aload_n hx hb dX8_deal_31 rfl (lv_at hl 0 rfl) ?_
      obtain ⟨r_7, x_8, qr_7, hf⟩ := bd_out hf
      refine rvI (As := []) (rest := []) C hS (rfl) rfl KX8_draw (cX8_draw_ qr_7) g_1004 ⟨rfl, rfl⟩ ⟨(Nat.le_of_ble_eq_true rfl), (Nat.le_of_ble_eq_true rfl)⟩ hl.1 rfl rfl (Nat.le_of_ble_eq_true rfl) ⟨Nat.zero_le _, Nat.zero_le _⟩ dX8_deal_32 (fun H locs hS => ?_)
      refine lv_bipush (v := 6) hx hb dX8_deal_35 (by decide) ?_
      refine lv_irem hx hb dX8_deal_37 (by decide) ?_
      obtain ⟨v_9, ev_9, hf⟩ := st_out hf
      refine topI ev_9 ?_
      refine lv_istore_n (lv' := [(3, .int v_9), (0, .ref (G.1 + 99)), (1, .int u1), (2, .int u2)]) hx hb dX8_deal_38 rfl hl (by decide) rfl (fun ls hl => ?_)
      refine lv_aload_n hx hb dX8_deal_39 rfl (lv_at hl 1 rfl) ?_
      obtain ⟨r_10, x_11, qr_10, hf⟩ := bd_out hf
      refine rvI (As := []) (rest := []) C hS (rfl) rfl KX8_draw (cX8_draw_ qr_10) g_1004 ⟨rfl, rfl⟩ ⟨(Nat.le_of_ble_eq_true rfl), (Nat.le_of_ble_eq_true rfl)⟩ hl.1 rfl rfl (Nat.le_of_ble_eq_true rfl) ⟨Nat.zero_le _, Nat.zero_le _⟩ dX8_deal_40 (fun H locs hS => ?_)
      refine lv_bipush (v := 10) hx hb dX8_deal_43 (by decide) ?_
      refine lv_irem hx hb dX8_deal_45 (by decide) ?_
      obtain ⟨v_12, ev_12, hf⟩ := st_out hf
      refine topI ev_12 ?_
      refine lv_istore (lv' := [(4, .int v_12), (3, .int v_9), (0, .ref (G.1 + 99)), (1, .int u1), (2, .int u2)]) hx hb dX8_deal_46 hl (by decide) rfl (fun ls hl => ?_)
      refine lv_iconst (v := 1) hx hb dX8_deal_48 (by decide) ?_
      refine lv_aload_n hx hb dX8_deal_49 rfl (lv_at hl 2 rfl) ?_
      obtain ⟨r_13, x_14, qr_13, hf⟩ := bd_out hf
      refine rvI (As := []) (rest := [.int 1]) C hS (rfl) rfl KX8_draw (cX8_draw_ qr_13) g_1004 ⟨rfl, rfl⟩ ⟨(Nat.le_of_ble_eq_true rfl), (Nat.le_of_ble_eq_true rfl)⟩ hl.1 rfl rfl (Nat.le_of_ble_eq_true rfl) ⟨Nat.zero_le _, Nat.zero_le _⟩ dX8_deal_50 (fun H locs hS => ?_)
      refine lv_bipush (v := 20) hx hb dX8_deal_53 (by decide) ?_
      refine lv_irem hx hb dX8_deal_55 (by decide) ?_
      obtain ⟨v_15, ev_15, hf⟩ := st_out hf
      refine topI ev_15 ?_
      refine lv_iadd hx hb dX8_deal_56 ?_
      obtain ⟨v_16, ev_16, hf⟩ := st_out hf
      refine topI ev_16 ?_
      refine lv_istore (lv' := [(5, .int v_16), (4, .int v_12), (3, .int v_9), (0, .ref (G.1 + 99)), (1, .int u1), (2, .int u2)]) hx hb dX8_deal_57 hl (by decide) rfl (fun ls hl => ?_)
      refine lv_aload_n hx hb dX8_deal_59 rfl (lv_at hl 3 rfl) ?_
      refine lv_iload_n hx hb dX8_deal_60 rfl (lv_at hl 2 rfl) ?_
      refine lv_iload hx hb dX8_deal_61 (lv_at hl 1 rfl) ?_
      refine lv_iload hx hb dX8_deal_63 (lv_at hl 0 rfl) ?_
      refine lv_iconst (v := 1) hx hb dX8_deal_65 (by decide) ?_
      refine lv_aload_n hx hb dX8_deal_66 rfl (lv_at hl 3 rfl) ?_
      obtain ⟨r_17, x_18, qr_17, hf⟩ := bd_out hf
      refine rvI (As := []) (rest := [.int 1, .int v_16, .int v_12, .int v_9, .ref (G.1 + 99)]) C hS (rfl) rfl KX8_draw (cX8_draw_ qr_17) g_1004 ⟨rfl, rfl⟩ ⟨(Nat.le_of_ble_eq_true rfl), (Nat.le_of_ble_eq_true rfl)⟩ hl.1 rfl rfl (Nat.le_of_ble_eq_true rfl) ⟨Nat.zero_le _, Nat.zero_le _⟩ dX8_deal_67 (fun H locs hS => ?_)
      refine lv_bipush (v := 12) hx hb dX8_deal_70 (by decide) ?_
      refine lv_irem hx hb dX8_deal_72 (by decide) ?_
      obtain ⟨v_19, ev_19, hf⟩ := st_out hf
      refine topI ev_19 ?_
      refine lv_iadd hx hb dX8_deal_73 ?_
      obtain ⟨r_20, x_21, qr_20, hf⟩ := bd_out hf
      refine rvI (As := [.int v_9, .int v_12, .int v_16, .int (1 + v_19)]) (rest := []) C hS (rfl) rfl KX8_comes (cX8_comes_ qr_20) g_922 ⟨rfl, rfl⟩ ⟨(Nat.le_of_ble_eq_true rfl), (Nat.le_of_ble_eq_true rfl)⟩ hl.1 rfl rfl (Nat.le_of_ble_eq_true rfl) ⟨Nat.zero_le _, Nat.zero_le _⟩ dX8_deal_74 (fun H locs hS => ?_)
      refine lv_istore (lv' := [(6, .int r_20), (5, .int v_16), (4, .int v_12), (3, .int v_9), (0, .ref (G.1 + 99)), (1, .int u1), (2, .int u2)]) hx hb dX8_deal_77 hl (by decide) rfl (fun ls hl => ?_)
      obtain ⟨v_22, ev_22, hf⟩ := st_out hf
      refine lv_iinc (v := v_22) (lv' := [(2, .int v_22), (6, .int r_20), (5, .int v_16), (4, .int v_12), (3, .int v_9), (0, .ref (G.1 + 99)), (1, .int u1)]) hx hb dX8_deal_79 hl (k := 6) rfl (by rw [ev_22]; rfl) (by decide) rfl (fun ls hl => ?_)
      refine lv_goto (tgt := 15) hx hb dX8_deal_82 (by decide) ?_
      exact hk15 u1 v_22 x_21 hf _ _ _ hS (lv_sub hl [5, 6, 0] rfl)
theorem wlX8_deal_h15 {p : Program} {l : Launch} {e : Env} {s : State} {m : MethodId} {args : Array Value} {below : List Frame} {meth : Method} {c : Code} {G : GT} {r : Int32} {z : XS} (C : CX G p s m args meth c cX8_deal 7 (some .int) RX8) (n : Nat) : ∀ (u1 : Int32) (u2 : Int32) (x : XS), lX8_deal_h15 n u1 u2 x = some (r, z) → ∀ (H : Heap) (locs : List Loc) (ls : Array Slot), SR G x H locs → lv_has ls 7 [(0, .ref (G.1 + 99)), (1, .int u1), (2, .int u2)] → W p l e rmX8_deal s m args below meth c H locs 0 0 (MQ below (QC G (some (.int r)) z) args s 0 0 (AB G)) (F0 m 15 ls []) := by
  induction n with
  | zero => intro u1 u2 x hf H locs ls hS hl; exact absurd hf (by intro q; cases q)
  | succ n ih => exact wbX8_deal_h15 C ih
theorem wX8_deal_h15 {p : Program} {l : Launch} {e : Env} {s : State} {m : MethodId} {args : Array Value} {below : List Frame} {meth : Method} {c : Code} {G : GT} {r : Int32} {z : XS} (C : CX G p s m args meth c cX8_deal 7 (some .int) RX8) : ∀ (u1 : Int32) (u2 : Int32) (x : XS), fX8_deal_h15 u1 u2 x = some (r, z) → ∀ (H : Heap) (locs : List Loc) (ls : Array Slot), SR G x H locs → lv_has ls 7 [(0, .ref (G.1 + 99)), (1, .int u1), (2, .int u2)] → W p l e rmX8_deal s m args below meth c H locs 0 0 (MQ below (QC G (some (.int r)) z) args s 0 0 (AB G)) (F0 m 15 ls []) := wlX8_deal_h15 C FU
set_option maxRecDepth 100000 in
set_option maxHeartbeats 4000000 in
theorem cX8_deal_ {G : GT} {l : Launch} {v1 : Int32} {x z : XS} {r : Int32} (hf : fX8_deal v1 x = some (r, z)) : Ct G l yX8_deal (.code yX8_deal cX8_deal 7 (some .int)) rmX8_deal [.ref (G.1 + 99), .int v1] x (some (.int r)) z := by
  refine Ct.of (by decide +kernel) (Nat.le_of_ble_eq_true rfl) ?_
  intro p e s m args below meth c C ls hl hS
  have C : CX G p s m args meth c cX8_deal 7 (some .int) RX8 := C
  have hl : lv_has ls 7 [(0, .ref (G.1 + 99)), (1, .int v1)] := hl
  have hx := C.1
  have hb := C.2.1
  have hown := C.2.2.2.2.2.1
  have hw := C.2.2.2.2.2.2.1
  unfold fX8_deal at hf
  refine lv_iload_n hx hb dX8_deal_0 rfl (lv_at hl 1 rfl) ?_
  refine lv_iconst (v := 1) hx hb dX8_deal_1 (by decide) ?_
  refine lv_bipush (v := 8) hx hb dX8_deal_2 (by decide) ?_
  obtain ⟨r_1, x_2, qr_1, hf⟩ := bd_out hf
  refine rsI (As := [.int v1, .int 1, .int 8]) (rest := []) C hS KX8_in (cX8_in_ qr_1) g_914 ⟨rfl, rfl⟩ ⟨(Nat.le_of_ble_eq_true rfl), (Nat.le_of_ble_eq_true rfl)⟩ hl.1 rfl rfl (Nat.le_of_ble_eq_true rfl) ⟨Nat.zero_le _, Nat.zero_le _⟩ dX8_deal_4 (fun H locs hS => ?_)
  refine lv_if_ne (tgt := 13) hx hb dX8_deal_7 (by decide) (fun c_3 => ?_) (fun c_3 => ?_)
  · replace hf := if_n c_3 hf
    refine lv_iconst (v := 0) hx hb dX8_deal_13 (by decide) ?_
    refine lv_istore_n (lv' := [(2, .int 0), (0, .ref (G.1 + 99)), (1, .int v1)]) hx hb dX8_deal_14 rfl hl (by decide) rfl (fun ls hl => ?_)
    exact wX8_deal_h15  C v1 0 x_2 hf _ _ _ hS (lv_sub hl [1, 2, 0] rfl)
  · replace hf := if_p c_3 hf
    refine lv_ldc (v := (-1000000001)) hx hb hown (hw _ g_920) dX8_deal_10 ?_
    exact rtI C hS hf dX8_deal_12
abbrev rmX8_seed : Room := { frames := 1, cells := 0, slots := 0, locals := 23 }
set_option maxRecDepth 100000 in
set_option maxHeartbeats 4000000 in
theorem cX8_seed_ {G : GT} {l : Launch} {v1 : Int32} {x z : XS} {r : Int32} (hf : fX8_seed v1 x = some (r, z)) : Ct G l yX8_seed (.code yX8_seed cX8_seed 2 (some .int)) rmX8_seed [.ref (G.1 + 99), .int v1] x (some (.int r)) z := by
  refine Ct.of (by decide +kernel) (Nat.le_of_ble_eq_true rfl) ?_
  intro p e s m args below meth c C ls hl hS
  have C : CX G p s m args meth c cX8_seed 2 (some .int) RX8 := C
  have hl : lv_has ls 2 [(0, .ref (G.1 + 99)), (1, .int v1)] := hl
  have hx := C.1
  have hb := C.2.1
  have hown := C.2.2.2.2.2.1
  have hw := C.2.2.2.2.2.2.1
  unfold fX8_seed at hf
  refine lv_aload_n hx hb dX8_seed_0 rfl (lv_at hl 0 rfl) ?_
  refine lv_iconst (v := 0) hx hb dX8_seed_1 (by decide) ?_
  refine lv_iload_n hx hb dX8_seed_2 rfl (lv_at hl 1 rfl) ?_
  obtain ⟨r_1, x_2, qr_1, hf⟩ := bd_out hf
  refine rvI (As := [.int 0, .int v1]) (rest := []) C hS (rfl) rfl KX8_becomes (cX8_becomes_ qr_1) g_992 ⟨rfl, rfl⟩ ⟨(Nat.le_of_ble_eq_true rfl), (Nat.le_of_ble_eq_true rfl)⟩ hl.1 rfl rfl (Nat.le_of_ble_eq_true rfl) ⟨Nat.zero_le _, Nat.zero_le _⟩ dX8_seed_3 (fun H locs hS => ?_)
  exact rtI C hS hf dX8_seed_6
abbrev rmX8_rule : Room := { frames := 1, cells := 0, slots := 0, locals := 23 }
set_option maxRecDepth 100000 in
set_option maxHeartbeats 4000000 in
theorem wX8_rule_h31 {p : Program} {l : Launch} {e : Env} {s : State} {m : MethodId} {args : Array Value} {below : List Frame} {meth : Method} {c : Code} {G : GT} {r : Int32} {z : XS} (C : CX G p s m args meth c cX8_rule 3 (some .int) RX8) : ∀ (u1 : Int32) (u2 : Int32) (s0 : Int32) (s1 : Int32) (s2 : Int32) (x : XS), fX8_rule_h31 u1 u2 s0 s1 s2 x = some (r, z) → ∀ (H : Heap) (locs : List Loc) (ls : Array Slot), SR G x H locs → lv_has ls 3 [(0, .ref (G.1 + 99)), (1, .int u1), (2, .int u2)] → W p l e rmX8_rule s m args below meth c H locs 0 0 (MQ below (QC G (some (.int r)) z) args s 0 0 (AB G)) (F0 m 31 ls [.int s2, .int s1, .int s0]) := by
  intro u1 u2 s0 s1 s2 x hf H locs ls hS hl
  have hx := C.1
  have hb := C.2.1
  have hown := C.2.2.2.2.2.1
  have hw := C.2.2.2.2.2.2.1
  unfold fX8_rule_h31 at hf
  obtain ⟨r_6, x_7, qr_6, hf⟩ := bd_out hf
  refine rsI (As := [.int s0, .int s1, .int s2]) (rest := []) C hS KX8_in (cX8_in_ qr_6) g_914 ⟨rfl, rfl⟩ ⟨(Nat.le_of_ble_eq_true rfl), (Nat.le_of_ble_eq_true rfl)⟩ hl.1 rfl rfl (Nat.le_of_ble_eq_true rfl) ⟨Nat.zero_le _, Nat.zero_le _⟩ dX8_rule_31 (fun H locs hS => ?_)
  refine lv_if_eq (tgt := 48) hx hb dX8_rule_34 (by decide) (fun c_8 => ?_) (fun c_8 => ?_)
  · replace hf := if_p c_8 hf
    refine lv_ldc (v := (-1000000001)) hx hb hown (hw _ g_920) dX8_rule_48 ?_
    exact rtI C hS hf dX8_rule_50
  · replace hf := if_n c_8 hf
    refine lv_aload_n hx hb dX8_rule_37 rfl (lv_at hl 0 rfl) ?_
    refine lv_iconst (v := 3) hx hb dX8_rule_38 (by decide) ?_
    refine lv_iload_n hx hb dX8_rule_39 rfl (lv_at hl 1 rfl) ?_
    refine lv_iadd hx hb dX8_rule_40 ?_
    refine lv_iload_n hx hb dX8_rule_41 rfl (lv_at hl 2 rfl) ?_
    obtain ⟨r_9, x_10, qr_9, hf⟩ := bd_out hf
    refine rvI (As := [.int (3 + u1), .int u2]) (rest := []) C hS (rfl) rfl KX8_becomes (cX8_becomes_ qr_9) g_992 ⟨rfl, rfl⟩ ⟨(Nat.le_of_ble_eq_true rfl), (Nat.le_of_ble_eq_true rfl)⟩ hl.1 rfl rfl (Nat.le_of_ble_eq_true rfl) ⟨Nat.zero_le _, Nat.zero_le _⟩ dX8_rule_42 (fun H locs hS => ?_)
    refine lv_goto (tgt := 50) hx hb dX8_rule_45 (by decide) ?_
    exact rtI C hS hf dX8_rule_50
set_option maxRecDepth 100000 in
set_option maxHeartbeats 4000000 in
theorem cX8_rule_ {G : GT} {l : Launch} {v1 : Int32} {v2 : Int32} {x z : XS} {r : Int32} (hf : fX8_rule v1 v2 x = some (r, z)) : Ct G l yX8_rule (.code yX8_rule cX8_rule 3 (some .int)) rmX8_rule [.ref (G.1 + 99), .int v1, .int v2] x (some (.int r)) z := by
  refine Ct.of (by decide +kernel) (Nat.le_of_ble_eq_true rfl) ?_
  intro p e s m args below meth c C ls hl hS
  have C : CX G p s m args meth c cX8_rule 3 (some .int) RX8 := C
  have hl : lv_has ls 3 [(0, .ref (G.1 + 99)), (1, .int v1), (2, .int v2)] := hl
  have hx := C.1
  have hb := C.2.1
  have hown := C.2.2.2.2.2.1
  have hw := C.2.2.2.2.2.2.1
  unfold fX8_rule at hf
  refine lv_iload_n hx hb dX8_rule_0 rfl (lv_at hl 1 rfl) ?_
  refine lv_iconst (v := 0) hx hb dX8_rule_1 (by decide) ?_
  refine lv_iconst (v := 2) hx hb dX8_rule_2 (by decide) ?_
  obtain ⟨r_1, x_2, qr_1, hf⟩ := bd_out hf
  refine rsI (As := [.int v1, .int 0, .int 2]) (rest := []) C hS KX8_in (cX8_in_ qr_1) g_914 ⟨rfl, rfl⟩ ⟨(Nat.le_of_ble_eq_true rfl), (Nat.le_of_ble_eq_true rfl)⟩ hl.1 rfl rfl (Nat.le_of_ble_eq_true rfl) ⟨Nat.zero_le _, Nat.zero_le _⟩ dX8_rule_3 (fun H locs hS => ?_)
  refine lv_if_eq (tgt := 48) hx hb dX8_rule_6 (by decide) (fun c_3 => ?_) (fun c_3 => ?_)
  · replace hf := if_p c_3 hf
    refine lv_ldc (v := (-1000000001)) hx hb hown (hw _ g_920) dX8_rule_48 ?_
    exact rtI C hS hf dX8_rule_50
  · replace hf := if_n c_3 hf
    refine lv_iload_n hx hb dX8_rule_9 rfl (lv_at hl 2 rfl) ?_
    refine lv_iconst (v := 0) hx hb dX8_rule_10 (by decide) ?_
    refine lv_iload_n hx hb dX8_rule_11 rfl (lv_at hl 1 rfl) ?_
    refine lv_if_ne (tgt := 20) hx hb dX8_rule_12 (by decide) (fun c_4 => ?_) (fun c_4 => ?_)
    · replace hf := if_n c_4 hf
      refine lv_iload_n hx hb dX8_rule_20 rfl (lv_at hl 1 rfl) ?_
      refine lv_iconst (v := 1) hx hb dX8_rule_21 (by decide) ?_
      refine lv_icmp_ne (tgt := 30) hx hb dX8_rule_22 (by decide) (fun c_5 => ?_) (fun c_5 => ?_)
      · replace hf := if_n c_5 hf
        refine lv_iconst (v := 1) hx hb dX8_rule_30 (by decide) ?_
        exact wX8_rule_h31  C v1 v2 v2 0 1 x_2 hf _ _ _ hS (lv_sub hl [0, 1, 2] rfl)
      · replace hf := if_p c_5 hf
        refine lv_bipush (v := 100) hx hb dX8_rule_25 (by decide) ?_
        refine lv_goto (tgt := 31) hx hb dX8_rule_27 (by decide) ?_
        exact wX8_rule_h31  C v1 v2 v2 0 100 x_2 hf _ _ _ hS (lv_sub hl [0, 1, 2] rfl)
    · replace hf := if_p c_4 hf
      refine lv_bipush (v := 99) hx hb dX8_rule_15 (by decide) ?_
      refine lv_goto (tgt := 31) hx hb dX8_rule_17 (by decide) ?_
      exact wX8_rule_h31  C v1 v2 v2 0 99 x_2 hf _ _ _ hS (lv_sub hl [0, 1, 2] rfl)
abbrev rmX8_apart : Room := { frames := 0, cells := 0, slots := 0, locals := 0 }
set_option maxRecDepth 100000 in
set_option maxHeartbeats 4000000 in
theorem cX8_apart_ {G : GT} {l : Launch} {v0 : Int32} {v1 : Int32} {x z : XS} {r : Int32} (hf : fX8_apart v0 v1 x = some (r, z)) : Ct G l yX8_apart (.code yX8_apart cX8_apart 2 (some .int)) rmX8_apart [.int v0, .int v1] x (some (.int r)) z := by
  refine Ct.of (by decide +kernel) (Nat.le_of_ble_eq_true rfl) ?_
  intro p e s m args below meth c C ls hl hS
  have C : CX G p s m args meth c cX8_apart 2 (some .int) RX8 := C
  have hl : lv_has ls 2 [(0, .int v0), (1, .int v1)] := hl
  have hx := C.1
  have hb := C.2.1
  have hown := C.2.2.2.2.2.1
  have hw := C.2.2.2.2.2.2.1
  unfold fX8_apart at hf
  refine lv_iload_n hx hb dX8_apart_0 rfl (lv_at hl 0 rfl) ?_
  refine lv_iload_n hx hb dX8_apart_1 rfl (lv_at hl 1 rfl) ?_
  refine lv_icmp_ge (tgt := 11) hx hb dX8_apart_2 (by decide) (fun c_1 => ?_) (fun c_1 => ?_)
  · replace hf := if_p c_1 hf
    refine lv_iload_n hx hb dX8_apart_11 rfl (lv_at hl 0 rfl) ?_
    refine lv_iload_n hx hb dX8_apart_12 rfl (lv_at hl 1 rfl) ?_
    refine lv_isub hx hb dX8_apart_13 ?_
    exact rtI C hS hf dX8_apart_14
  · replace hf := if_n c_1 hf
    refine lv_iload_n hx hb dX8_apart_5 rfl (lv_at hl 1 rfl) ?_
    refine lv_iload_n hx hb dX8_apart_6 rfl (lv_at hl 0 rfl) ?_
    refine lv_isub hx hb dX8_apart_7 ?_
    refine lv_goto (tgt := 14) hx hb dX8_apart_8 (by decide) ?_
    exact rtI C hS hf dX8_apart_14
abbrev rmX8_boyFor : Room := { frames := 2, cells := 0, slots := 0, locals := 44 }
set_option maxRecDepth 100000 in
set_option maxHeartbeats 4000000 in
theorem wX8_boyFor_h89 {p : Program} {l : Launch} {e : Env} {s : State} {m : MethodId} {args : Array Value} {below : List Frame} {meth : Method} {c : Code} {G : GT} {r : Int32} {z : XS} (C : CX G p s m args meth c cX8_boyFor 7 (some .int) RX8) {k8 : Int32 → Int32 → Int32 → Int32 → Int32 → XS → Option (Int32 × XS)} (hk8 : ∀ (u1 : Int32) (u2 : Int32) (u3 : Int32) (u4 : Int32) (u5 : Int32) (x : XS), k8 u1 u2 u3 u4 u5 x = some (r, z) → ∀ (H : Heap) (locs : List Loc) (ls : Array Slot), SR G x H locs → lv_has ls 7 [(0, .ref (G.1 + 99)), (1, .int u1), (2, .int u2), (3, .int u3), (4, .int u4), (5, .int u5)] → W p l e rmX8_boyFor s m args below meth c H locs 0 0 (MQ below (QC G (some (.int r)) z) args s 0 0 (AB G)) (F0 m 8 ls [])) : ∀ (u1 : Int32) (u2 : Int32) (u3 : Int32) (u4 : Int32) (u5 : Int32) (x : XS), fX8_boyFor_h89 k8 u1 u2 u3 u4 u5 x = some (r, z) → ∀ (H : Heap) (locs : List Loc) (ls : Array Slot), SR G x H locs → lv_has ls 7 [(0, .ref (G.1 + 99)), (1, .int u1), (2, .int u2), (3, .int u3), (4, .int u4), (5, .int u5)] → W p l e rmX8_boyFor s m args below meth c H locs 0 0 (MQ below (QC G (some (.int r)) z) args s 0 0 (AB G)) (F0 m 89 ls []) := by
  intro u1 u2 u3 u4 u5 x hf H locs ls hS hl
  have hx := C.1
  have hb := C.2.1
  have hown := C.2.2.2.2.2.1
  have hw := C.2.2.2.2.2.2.1
  unfold fX8_boyFor_h89 at hf
  obtain ⟨v_19, ev_19, hf⟩ := st_out hf
  refine lv_iinc (v := v_19) (lv' := [(5, .int v_19), (0, .ref (G.1 + 99)), (1, .int u1), (2, .int u2), (3, .int u3), (4, .int u4)]) hx hb dX8_boyFor_89 hl (k := 5) rfl (by rw [ev_19]; rfl) (by decide) rfl (fun ls hl => ?_)
  refine lv_goto (tgt := 8) hx hb dX8_boyFor_92 (by decide) ?_
  exact hk8 u1 u2 u3 u4 v_19 x hf _ _ _ hS (lv_sub hl [1, 2, 3, 4, 5, 0] rfl)
set_option maxRecDepth 100000 in
set_option maxHeartbeats 4000000 in
theorem wbX8_boyFor_h8 {p : Program} {l : Launch} {e : Env} {s : State} {m : MethodId} {args : Array Value} {below : List Frame} {meth : Method} {c : Code} {G : GT} {r : Int32} {z : XS} (C : CX G p s m args meth c cX8_boyFor 7 (some .int) RX8) {k8 : Int32 → Int32 → Int32 → Int32 → Int32 → XS → Option (Int32 × XS)} (hk8 : ∀ (u1 : Int32) (u2 : Int32) (u3 : Int32) (u4 : Int32) (u5 : Int32) (x : XS), k8 u1 u2 u3 u4 u5 x = some (r, z) → ∀ (H : Heap) (locs : List Loc) (ls : Array Slot), SR G x H locs → lv_has ls 7 [(0, .ref (G.1 + 99)), (1, .int u1), (2, .int u2), (3, .int u3), (4, .int u4), (5, .int u5)] → W p l e rmX8_boyFor s m args below meth c H locs 0 0 (MQ below (QC G (some (.int r)) z) args s 0 0 (AB G)) (F0 m 8 ls [])) : ∀ (u1 : Int32) (u2 : Int32) (u3 : Int32) (u4 : Int32) (u5 : Int32) (x : XS), bX8_boyFor_h8 k8 u1 u2 u3 u4 u5 x = some (r, z) → ∀ (H : Heap) (locs : List Loc) (ls : Array Slot), SR G x H locs → lv_has ls 7 [(0, .ref (G.1 + 99)), (1, .int u1), (2, .int u2), (3, .int u3), (4, .int u4), (5, .int u5)] → W p l e rmX8_boyFor s m args below meth c H locs 0 0 (MQ below (QC G (some (.int r)) z) args s 0 0 (AB G)) (F0 m 8 ls []) := by
  intro u1 u2 u3 u4 u5 x hf H locs ls hS hl
  have hx := C.1
  have hb := C.2.1
  have hown := C.2.2.2.2.2.1
  have hw := C.2.2.2.2.2.2.1
  unfold bX8_boyFor_h8 at hf
  refine lv_iload hx hb dX8_boyFor_8 (lv_at hl 5 rfl) ?_
  refine lv_aload_n hx hb dX8_boyFor_10 rfl (lv_at hl 0 rfl) ?_
  refine gf7_0 C hS (rfl) g_805 dX8_boyFor_11 ?_
  refine lv_iconst (v := 1) hx hb dX8_boyFor_14 (by decide) ?_
  obtain ⟨gg_1, hf⟩ := gd_out hf
  refine alI C hS (rfl) rfl gg_1 dX8_boyFor_15 ?_
  refine lv_icmp_ge (tgt := 95) hx hb dX8_boyFor_16 (by decide) (fun c_2 => ?_) (fun c_2 => ?_)
  · replace hf := if_p c_2 hf
    refine lv_iload_n hx hb dX8_boyFor_95 rfl (lv_at hl 3 rfl) ?_
    exact rtI C hS hf dX8_boyFor_96
  · replace hf := if_n c_2 hf
    refine lv_iload hx hb dX8_boyFor_19 (lv_at hl 5 rfl) ?_
    refine lv_aload_n hx hb dX8_boyFor_21 rfl (lv_at hl 0 rfl) ?_
    refine gf7_4 C hS (rfl) g_809 dX8_boyFor_22 ?_
    refine lv_icmp_eq (tgt := 89) hx hb dX8_boyFor_25 (by decide) (fun c_3 => ?_) (fun c_3 => ?_)
    · replace hf := if_p c_3 hf
      exact wX8_boyFor_h89  C hk8 u1 u2 u3 u4 u5 x hf _ _ _ hS (lv_sub hl [0, 1, 2, 3, 4, 5] rfl)
    · replace hf := if_n c_3 hf
      refine lv_aload_n hx hb dX8_boyFor_28 rfl (lv_at hl 0 rfl) ?_
      refine lv_iload hx hb dX8_boyFor_29 (lv_at hl 5 rfl) ?_
      refine lv_iconst (v := 5) hx hb dX8_boyFor_31 (by decide) ?_
      obtain ⟨r_4, x_5, qr_4, hf⟩ := bd_out hf
      refine rvI (As := [.int u5, .int 5]) (rest := []) C hS (rfl) rfl KX8_of (cX8_of_ qr_4) g_938 ⟨rfl, rfl⟩ ⟨(Nat.le_of_ble_eq_true rfl), (Nat.le_of_ble_eq_true rfl)⟩ hl.1 rfl rfl (Nat.le_of_ble_eq_true rfl) ⟨Nat.zero_le _, Nat.zero_le _⟩ dX8_boyFor_32 (fun H locs hS => ?_)
      refine lv_if_gt (tgt := 89) hx hb dX8_boyFor_35 (by decide) (fun c_6 => ?_) (fun c_6 => ?_)
      · replace hf := if_p c_6 hf
        exact wX8_boyFor_h89  C hk8 u1 u2 u3 u4 u5 x_5 hf _ _ _ hS (lv_sub hl [0, 1, 2, 3, 4, 5] rfl)
      · replace hf := if_n c_6 hf
        refine lv_aload_n hx hb dX8_boyFor_38 rfl (lv_at hl 0 rfl) ?_
        refine lv_iload hx hb dX8_boyFor_39 (lv_at hl 5 rfl) ?_
        obtain ⟨r_7, x_8, qr_7, hf⟩ := bd_out hf
        refine rvI (As := [.int u5]) (rest := []) C hS (rfl) rfl KX8_takesOf (cX8_takesOf_ qr_7) g_942 ⟨rfl, rfl⟩ ⟨(Nat.le_of_ble_eq_true rfl), (Nat.le_of_ble_eq_true rfl)⟩ hl.1 rfl rfl (Nat.le_of_ble_eq_true rfl) ⟨Nat.zero_le _, Nat.zero_le _⟩ dX8_boyFor_41 (fun H locs hS => ?_)
        refine lv_iload_n hx hb dX8_boyFor_44 rfl (lv_at hl 2 rfl) ?_
        refine lv_icmp_le (tgt := 51) hx hb dX8_boyFor_45 (by decide) (fun c_9 => ?_) (fun c_9 => ?_)
        · replace hf := if_p c_9 hf
          refine lv_aload_n hx hb dX8_boyFor_51 rfl (lv_at hl 0 rfl) ?_
          refine lv_iload hx hb dX8_boyFor_52 (lv_at hl 5 rfl) ?_
          obtain ⟨r_10, x_11, qr_10, hf⟩ := bd_out hf
          refine rvI (As := [.int u5]) (rest := []) C hS (rfl) rfl KX8_asksOf (cX8_asksOf_ qr_10) g_946 ⟨rfl, rfl⟩ ⟨(Nat.le_of_ble_eq_true rfl), (Nat.le_of_ble_eq_true rfl)⟩ hl.1 rfl rfl (Nat.le_of_ble_eq_true rfl) ⟨Nat.zero_le _, Nat.zero_le _⟩ dX8_boyFor_54 (fun H locs hS => ?_)
          refine lv_aload_n hx hb dX8_boyFor_57 rfl (lv_at hl 0 rfl) ?_
          refine lv_iload hx hb dX8_boyFor_58 (lv_at hl 5 rfl) ?_
          refine lv_iconst (v := 1) hx hb dX8_boyFor_60 (by decide) ?_
          obtain ⟨r_12, x_13, qr_12, hf⟩ := bd_out hf
          refine rvI (As := [.int u5, .int 1]) (rest := [.int r_10]) C hS (rfl) rfl KX8_of (cX8_of_ qr_12) g_938 ⟨rfl, rfl⟩ ⟨(Nat.le_of_ble_eq_true rfl), (Nat.le_of_ble_eq_true rfl)⟩ hl.1 rfl rfl (Nat.le_of_ble_eq_true rfl) ⟨Nat.zero_le _, Nat.zero_le _⟩ dX8_boyFor_61 (fun H locs hS => ?_)
          refine lv_iload_n hx hb dX8_boyFor_64 rfl (lv_at hl 1 rfl) ?_
          obtain ⟨r_14, x_15, qr_14, hf⟩ := bd_out hf
          refine rsI (As := [.int r_12, .int u1]) (rest := [.int r_10]) C hS KX8_apart (cX8_apart_ qr_14) g_1041 ⟨rfl, rfl⟩ ⟨(Nat.le_of_ble_eq_true rfl), (Nat.le_of_ble_eq_true rfl)⟩ hl.1 rfl rfl (Nat.le_of_ble_eq_true rfl) ⟨Nat.zero_le _, Nat.zero_le _⟩ dX8_boyFor_65 (fun H locs hS => ?_)
          refine lv_iadd hx hb dX8_boyFor_68 ?_
          obtain ⟨v_16, ev_16, hf⟩ := st_out hf
          refine topI ev_16 ?_
          refine lv_istore (lv' := [(6, .int v_16), (0, .ref (G.1 + 99)), (1, .int u1), (2, .int u2), (3, .int u3), (4, .int u4), (5, .int u5)]) hx hb dX8_boyFor_69 hl (by decide) rfl (fun ls hl => ?_)
          refine lv_iload_n hx hb dX8_boyFor_71 rfl (lv_at hl 4 rfl) ?_
          refine lv_if_lt (tgt := 82) hx hb dX8_boyFor_72 (by decide) (fun c_17 => ?_) (fun c_17 => ?_)
          · replace hf := if_p c_17 hf
            refine lv_iload hx hb dX8_boyFor_82 (lv_at hl 6 rfl) ?_
            refine lv_istore_n (lv' := [(3, .int u5), (6, .int v_16), (0, .ref (G.1 + 99)), (1, .int u1), (2, .int u2), (4, .int u4), (5, .int u5)]) hx hb dX8_boyFor_84 rfl hl (by decide) rfl (fun ls hl => ?_)
            refine lv_iload hx hb dX8_boyFor_85 (lv_at hl 1 rfl) ?_
            refine lv_istore (lv' := [(4, .int v_16), (3, .int u5), (6, .int v_16), (0, .ref (G.1 + 99)), (1, .int u1), (2, .int u2), (5, .int u5)]) hx hb dX8_boyFor_87 hl (by decide) rfl (fun ls hl => ?_)
            exact wX8_boyFor_h89  C hk8 u1 u2 u5 v_16 u5 x_15 hf _ _ _ hS (lv_sub hl [3, 4, 5, 1, 0, 6] rfl)
          · replace hf := if_n c_17 hf
            refine lv_iload hx hb dX8_boyFor_75 (lv_at hl 0 rfl) ?_
            refine lv_iload hx hb dX8_boyFor_77 (lv_at hl 5 rfl) ?_
            refine lv_icmp_ge (tgt := 89) hx hb dX8_boyFor_79 (by decide) (fun c_18 => ?_) (fun c_18 => ?_)
            · replace hf := if_p c_18 hf
              exact wX8_boyFor_h89  C hk8 u1 u2 u3 u4 u5 x_15 hf _ _ _ hS (lv_sub hl [1, 2, 3, 4, 5, 6] rfl)
            · replace hf := if_n c_18 hf
              refine lv_iload hx hb dX8_boyFor_82 (lv_at hl 6 rfl) ?_
              refine lv_istore_n (lv' := [(3, .int u5), (6, .int v_16), (0, .ref (G.1 + 99)), (1, .int u1), (2, .int u2), (4, .int u4), (5, .int u5)]) hx hb dX8_boyFor_84 rfl hl (by decide) rfl (fun ls hl => ?_)
              refine lv_iload hx hb dX8_boyFor_85 (lv_at hl 1 rfl) ?_
              refine lv_istore (lv' := [(4, .int v_16), (3, .int u5), (6, .int v_16), (0, .ref (G.1 + 99)), (1, .int u1), (2, .int u2), (5, .int u5)]) hx hb dX8_boyFor_87 hl (by decide) rfl (fun ls hl => ?_)
              exact wX8_boyFor_h89  C hk8 u1 u2 u5 v_16 u5 x_15 hf _ _ _ hS (lv_sub hl [3, 4, 5, 1, 0, 6] rfl)
        · replace hf := if_n c_9 hf
          refine lv_goto (tgt := 89) hx hb dX8_boyFor_48 (by decide) ?_
          exact wX8_boyFor_h89  C hk8 u1 u2 u3 u4 u5 x_8 hf _ _ _ hS (lv_sub hl [0, 1, 2, 3, 4, 5] rfl)
theorem wlX8_boyFor_h8 {p : Program} {l : Launch} {e : Env} {s : State} {m : MethodId} {args : Array Value} {below : List Frame} {meth : Method} {c : Code} {G : GT} {r : Int32} {z : XS} (C : CX G p s m args meth c cX8_boyFor 7 (some .int) RX8) (n : Nat) : ∀ (u1 : Int32) (u2 : Int32) (u3 : Int32) (u4 : Int32) (u5 : Int32) (x : XS), lX8_boyFor_h8 n u1 u2 u3 u4 u5 x = some (r, z) → ∀ (H : Heap) (locs : List Loc) (ls : Array Slot), SR G x H locs → lv_has ls 7 [(0, .ref (G.1 + 99)), (1, .int u1), (2, .int u2), (3, .int u3), (4, .int u4), (5, .int u5)] → W p l e rmX8_boyFor s m args below meth c H locs 0 0 (MQ below (QC G (some (.int r)) z) args s 0 0 (AB G)) (F0 m 8 ls []) := by
  induction n with
  | zero => intro u1 u2 u3 u4 u5 x hf H locs ls hS hl; exact absurd hf (by intro q; cases q)
  | succ n ih => exact wbX8_boyFor_h8 C ih
theorem wX8_boyFor_h8 {p : Program} {l : Launch} {e : Env} {s : State} {m : MethodId} {args : Array Value} {below : List Frame} {meth : Method} {c : Code} {G : GT} {r : Int32} {z : XS} (C : CX G p s m args meth c cX8_boyFor 7 (some .int) RX8) : ∀ (u1 : Int32) (u2 : Int32) (u3 : Int32) (u4 : Int32) (u5 : Int32) (x : XS), fX8_boyFor_h8 u1 u2 u3 u4 u5 x = some (r, z) → ∀ (H : Heap) (locs : List Loc) (ls : Array Slot), SR G x H locs → lv_has ls 7 [(0, .ref (G.1 + 99)), (1, .int u1), (2, .int u2), (3, .int u3), (4, .int u4), (5, .int u5)] → W p l e rmX8_boyFor s m args below meth c H locs 0 0 (MQ below (QC G (some (.int r)) z) args s 0 0 (AB G)) (F0 m 8 ls []) := wlX8_boyFor_h8 C FU
set_option maxRecDepth 100000 in
set_option maxHeartbeats 4000000 in
theorem cX8_boyFor_ {G : GT} {l : Launch} {v1 : Int32} {v2 : Int32} {x z : XS} {r : Int32} (hf : fX8_boyFor v1 v2 x = some (r, z)) : Ct G l yX8_boyFor (.code yX8_boyFor cX8_boyFor 7 (some .int)) rmX8_boyFor [.ref (G.1 + 99), .int v1, .int v2] x (some (.int r)) z := by
  refine Ct.of (by decide +kernel) (Nat.le_of_ble_eq_true rfl) ?_
  intro p e s m args below meth c C ls hl hS
  have C : CX G p s m args meth c cX8_boyFor 7 (some .int) RX8 := C
  have hl : lv_has ls 7 [(0, .ref (G.1 + 99)), (1, .int v1), (2, .int v2)] := hl
  have hx := C.1
  have hb := C.2.1
  have hown := C.2.2.2.2.2.1
  have hw := C.2.2.2.2.2.2.1
  unfold fX8_boyFor at hf
  refine lv_iconst (v := (-1)) hx hb dX8_boyFor_0 (by decide) ?_
  refine lv_istore_n (lv' := [(3, .int (-1)), (0, .ref (G.1 + 99)), (1, .int v1), (2, .int v2)]) hx hb dX8_boyFor_1 rfl hl (by decide) rfl (fun ls hl => ?_)
  refine lv_iconst (v := 0) hx hb dX8_boyFor_2 (by decide) ?_
  refine lv_istore (lv' := [(4, .int 0), (3, .int (-1)), (0, .ref (G.1 + 99)), (1, .int v1), (2, .int v2)]) hx hb dX8_boyFor_3 hl (by decide) rfl (fun ls hl => ?_)
  refine lv_iconst (v := 0) hx hb dX8_boyFor_5 (by decide) ?_
  refine lv_istore (lv' := [(5, .int 0), (4, .int 0), (3, .int (-1)), (0, .ref (G.1 + 99)), (1, .int v1), (2, .int v2)]) hx hb dX8_boyFor_6 hl (by decide) rfl (fun ls hl => ?_)
  exact wX8_boyFor_h8  C v1 v2 (-1) 0 0 x hf _ _ _ hS (lv_sub hl [3, 4, 5, 2, 1, 0] rfl)
abbrev rmX8_serves : Room := { frames := 4, cells := 0, slots := 0, locals := 94 }
set_option maxRecDepth 100000 in
set_option maxHeartbeats 4000000 in
theorem wX8_serves_h40 {p : Program} {l : Launch} {e : Env} {s : State} {m : MethodId} {args : Array Value} {below : List Frame} {meth : Method} {c : Code} {G : GT} {r : Unit} {z : XS} (C : CX G p s m args meth c cX8_serves 6 none RX8) : ∀ (u1 : Int32) (s0 : Int32) (x : XS), fX8_serves_h40 u1 s0 x = some (r, z) → ∀ (H : Heap) (locs : List Loc) (ls : Array Slot), SR G x H locs → lv_has ls 6 [(0, .ref (G.1 + 99)), (1, .int u1)] → W p l e rmX8_serves s m args below meth c H locs 0 0 (MQ below (QC G none z) args s 0 0 (AB G)) (F0 m 40 ls [.int s0]) := by
  intro u1 s0 x hf H locs ls hS hl
  have hx := C.1
  have hb := C.2.1
  have hown := C.2.2.2.2.2.1
  have hw := C.2.2.2.2.2.2.1
  unfold fX8_serves_h40 at hf
  refine lv_istore (lv' := [(4, .int s0), (0, .ref (G.1 + 99)), (1, .int u1)]) hx hb dX8_serves_40 hl (by decide) rfl (fun ls hl => ?_)
  refine lv_iload hx hb dX8_serves_42 (lv_at hl 0 rfl) ?_
  refine lv_aload_n hx hb dX8_serves_44 rfl (lv_at hl 1 rfl) ?_
  refine gf7_0 C hS (rfl) g_805 dX8_serves_45 ?_
  refine lv_iconst (v := 3) hx hb dX8_serves_48 (by decide) ?_
  obtain ⟨gg_9, hf⟩ := gd_out hf
  refine alI C hS (rfl) rfl gg_9 dX8_serves_49 ?_
  refine lv_imul hx hb dX8_serves_50 ?_
  refine lv_bipush (v := 100) hx hb dX8_serves_51 (by decide) ?_
  refine lv_idiv hx hb dX8_serves_53 (by decide) ?_
  obtain ⟨v_10, ev_10, hf⟩ := st_out hf
  refine topI ev_10 ?_
  refine lv_istore (lv' := [(5, .int v_10), (4, .int s0), (0, .ref (G.1 + 99)), (1, .int u1)]) hx hb dX8_serves_54 hl (by decide) rfl (fun ls hl => ?_)
  refine lv_aload_n hx hb dX8_serves_56 rfl (lv_at hl 2 rfl) ?_
  refine lv_iload_n hx hb dX8_serves_57 rfl (lv_at hl 3 rfl) ?_
  refine lv_iconst (v := 5) hx hb dX8_serves_58 (by decide) ?_
  refine lv_aload_n hx hb dX8_serves_59 rfl (lv_at hl 2 rfl) ?_
  refine lv_iload_n hx hb dX8_serves_60 rfl (lv_at hl 3 rfl) ?_
  obtain ⟨r_11, x_12, qr_11, hf⟩ := bd_out hf
  refine rvI (As := [.int u1]) (rest := [.int 5, .int u1, .ref (G.1 + 99)]) C hS (rfl) rfl KX8_takesOf (cX8_takesOf_ qr_11) g_942 ⟨rfl, rfl⟩ ⟨(Nat.le_of_ble_eq_true rfl), (Nat.le_of_ble_eq_true rfl)⟩ hl.1 rfl rfl (Nat.le_of_ble_eq_true rfl) ⟨Nat.zero_le _, Nat.zero_le _⟩ dX8_serves_61 (fun H locs hS => ?_)
  obtain ⟨r_13, x_14, qr_13, hf⟩ := bd_out hf
  refine rvV (As := [.int u1, .int 5, .int r_11]) (rest := []) C hS (rfl) rfl KX8_put (cX8_put_ qr_13) g_926 ⟨rfl, rfl⟩ ⟨(Nat.le_of_ble_eq_true rfl), (Nat.le_of_ble_eq_true rfl)⟩ hl.1 rfl rfl (Nat.le_of_ble_eq_true rfl) ⟨Nat.zero_le _, Nat.zero_le _⟩ dX8_serves_64 (fun H locs hS => ?_)
  refine lv_aload_n hx hb dX8_serves_67 rfl (lv_at hl 2 rfl) ?_
  refine lv_iload_n hx hb dX8_serves_68 rfl (lv_at hl 3 rfl) ?_
  refine lv_bipush (v := 6) hx hb dX8_serves_69 (by decide) ?_
  refine lv_aload_n hx hb dX8_serves_71 rfl (lv_at hl 2 rfl) ?_
  refine lv_iload_n hx hb dX8_serves_72 rfl (lv_at hl 3 rfl) ?_
  refine lv_bipush (v := 6) hx hb dX8_serves_73 (by decide) ?_
  obtain ⟨r_15, x_16, qr_15, hf⟩ := bd_out hf
  refine rvI (As := [.int u1, .int 6]) (rest := [.int 6, .int u1, .ref (G.1 + 99)]) C hS (rfl) rfl KX8_of (cX8_of_ qr_15) g_938 ⟨rfl, rfl⟩ ⟨(Nat.le_of_ble_eq_true rfl), (Nat.le_of_ble_eq_true rfl)⟩ hl.1 rfl rfl (Nat.le_of_ble_eq_true rfl) ⟨Nat.zero_le _, Nat.zero_le _⟩ dX8_serves_75 (fun H locs hS => ?_)
  refine lv_iconst (v := 1) hx hb dX8_serves_78 (by decide) ?_
  refine lv_iadd hx hb dX8_serves_79 ?_
  obtain ⟨r_17, x_18, qr_17, hf⟩ := bd_out hf
  refine rvV (As := [.int u1, .int 6, .int (r_15 + 1)]) (rest := []) C hS (rfl) rfl KX8_put (cX8_put_ qr_17) g_926 ⟨rfl, rfl⟩ ⟨(Nat.le_of_ble_eq_true rfl), (Nat.le_of_ble_eq_true rfl)⟩ hl.1 rfl rfl (Nat.le_of_ble_eq_true rfl) ⟨Nat.zero_le _, Nat.zero_le _⟩ dX8_serves_80 (fun H locs hS => ?_)
  refine lv_aload_n hx hb dX8_serves_83 rfl (lv_at hl 2 rfl) ?_
  refine lv_iload_n hx hb dX8_serves_84 rfl (lv_at hl 3 rfl) ?_
  refine lv_iconst (v := 4) hx hb dX8_serves_85 (by decide) ?_
  refine lv_aload_n hx hb dX8_serves_86 rfl (lv_at hl 2 rfl) ?_
  refine lv_iload_n hx hb dX8_serves_87 rfl (lv_at hl 3 rfl) ?_
  refine lv_iconst (v := 4) hx hb dX8_serves_88 (by decide) ?_
  obtain ⟨r_19, x_20, qr_19, hf⟩ := bd_out hf
  refine rvI (As := [.int u1, .int 4]) (rest := [.int 4, .int u1, .ref (G.1 + 99)]) C hS (rfl) rfl KX8_of (cX8_of_ qr_19) g_938 ⟨rfl, rfl⟩ ⟨(Nat.le_of_ble_eq_true rfl), (Nat.le_of_ble_eq_true rfl)⟩ hl.1 rfl rfl (Nat.le_of_ble_eq_true rfl) ⟨Nat.zero_le _, Nat.zero_le _⟩ dX8_serves_89 (fun H locs hS => ?_)
  refine lv_iload hx hb dX8_serves_92 (lv_at hl 1 rfl) ?_
  refine lv_iadd hx hb dX8_serves_94 ?_
  refine lv_iload hx hb dX8_serves_95 (lv_at hl 0 rfl) ?_
  refine lv_isub hx hb dX8_serves_97 ?_
  obtain ⟨r_21, x_22, qr_21, hf⟩ := bd_out hf
  refine rvV (As := [.int u1, .int 4, .int ((r_19 + s0) - v_10)]) (rest := []) C hS (rfl) rfl KX8_put (cX8_put_ qr_21) g_926 ⟨rfl, rfl⟩ ⟨(Nat.le_of_ble_eq_true rfl), (Nat.le_of_ble_eq_true rfl)⟩ hl.1 rfl rfl (Nat.le_of_ble_eq_true rfl) ⟨Nat.zero_le _, Nat.zero_le _⟩ dX8_serves_98 (fun H locs hS => ?_)
  refine lv_aload_n hx hb dX8_serves_101 rfl (lv_at hl 2 rfl) ?_
  refine gf7_0 C hS (rfl) g_805 dX8_serves_102 ?_
  refine lv_bipush (v := 6) hx hb dX8_serves_105 (by decide) ?_
  refine lv_dup2_11 hx hb dX8_serves_107 rfl rfl ?_
  obtain ⟨gg_23, hf⟩ := gd_out hf
  refine alI C hS (rfl) rfl gg_23 dX8_serves_108 ?_
  refine lv_iload hx hb dX8_serves_109 (lv_at hl 0 rfl) ?_
  refine lv_iadd hx hb dX8_serves_111 ?_
  obtain ⟨gg_24, hf⟩ := gd_out hf
  obtain ⟨x_25, ex_25, hf⟩ := st_out hf
  refine asI C hS (rfl) rfl gg_24 ex_25 dX8_serves_112 (fun H locs hS => ?_)
  exact rtV C hS (r := ()) hf dX8_serves_113
set_option maxRecDepth 100000 in
set_option maxHeartbeats 4000000 in
theorem cX8_serves_ {G : GT} {l : Launch} {v1 : Int32} {v2 : Int32} {x z : XS} {r : Unit} (hf : fX8_serves v1 v2 x = some (r, z)) : Ct G l yX8_serves (.code yX8_serves cX8_serves 6 none) rmX8_serves [.ref (G.1 + 99), .int v1, .int v2] x none z := by
  refine Ct.of (by decide +kernel) (Nat.le_of_ble_eq_true rfl) ?_
  intro p e s m args below meth c C ls hl hS
  have C : CX G p s m args meth c cX8_serves 6 none RX8 := C
  have hl : lv_has ls 6 [(0, .ref (G.1 + 99)), (1, .int v1), (2, .int v2)] := hl
  have hx := C.1
  have hb := C.2.1
  have hown := C.2.2.2.2.2.1
  have hw := C.2.2.2.2.2.2.1
  unfold fX8_serves at hf
  refine lv_aload_n hx hb dX8_serves_0 rfl (lv_at hl 0 rfl) ?_
  refine lv_iload_n hx hb dX8_serves_1 rfl (lv_at hl 1 rfl) ?_
  refine lv_aload_n hx hb dX8_serves_2 rfl (lv_at hl 0 rfl) ?_
  refine lv_iload_n hx hb dX8_serves_3 rfl (lv_at hl 1 rfl) ?_
  refine lv_iconst (v := 3) hx hb dX8_serves_4 (by decide) ?_
  obtain ⟨r_1, x_2, qr_1, hf⟩ := bd_out hf
  refine rvI (As := [.int v1, .int 3]) (rest := [.int v1, .ref (G.1 + 99)]) C hS (rfl) rfl KX8_of (cX8_of_ qr_1) g_938 ⟨rfl, rfl⟩ ⟨(Nat.le_of_ble_eq_true rfl), (Nat.le_of_ble_eq_true rfl)⟩ hl.1 rfl rfl (Nat.le_of_ble_eq_true rfl) ⟨Nat.zero_le _, Nat.zero_le _⟩ dX8_serves_5 (fun H locs hS => ?_)
  refine lv_iload_n hx hb dX8_serves_8 rfl (lv_at hl 2 rfl) ?_
  obtain ⟨r_3, x_4, qr_3, hf⟩ := bd_out hf
  refine rvI (As := [.int v1, .int r_1, .int v2]) (rest := []) C hS (rfl) rfl KX8_shineOf (cX8_shineOf_ qr_3) g_958 ⟨rfl, rfl⟩ ⟨(Nat.le_of_ble_eq_true rfl), (Nat.le_of_ble_eq_true rfl)⟩ hl.1 rfl rfl (Nat.le_of_ble_eq_true rfl) ⟨Nat.zero_le _, Nat.zero_le _⟩ dX8_serves_9 (fun H locs hS => ?_)
  refine lv_istore_n (lv' := [(3, .int r_3), (0, .ref (G.1 + 99)), (1, .int v1), (2, .int v2)]) hx hb dX8_serves_12 rfl hl (by decide) rfl (fun ls hl => ?_)
  refine lv_iload_n hx hb dX8_serves_13 rfl (lv_at hl 0 rfl) ?_
  refine lv_bipush (v := 30) hx hb dX8_serves_14 (by decide) ?_
  refine lv_icmp_ge (tgt := 23) hx hb dX8_serves_16 (by decide) (fun c_5 => ?_) (fun c_5 => ?_)
  · replace hf := if_p c_5 hf
    refine lv_aload_n hx hb dX8_serves_23 rfl (lv_at hl 1 rfl) ?_
    refine lv_iload_n hx hb dX8_serves_24 rfl (lv_at hl 2 rfl) ?_
    obtain ⟨r_6, x_7, qr_6, hf⟩ := bd_out hf
    refine rvI (As := [.int v1]) (rest := []) C hS (rfl) rfl KX8_asksOf (cX8_asksOf_ qr_6) g_946 ⟨rfl, rfl⟩ ⟨(Nat.le_of_ble_eq_true rfl), (Nat.le_of_ble_eq_true rfl)⟩ hl.1 rfl rfl (Nat.le_of_ble_eq_true rfl) ⟨Nat.zero_le _, Nat.zero_le _⟩ dX8_serves_25 (fun H locs hS => ?_)
    refine lv_iload_n hx hb dX8_serves_28 rfl (lv_at hl 0 rfl) ?_
    refine lv_bipush (v := 90) hx hb dX8_serves_29 (by decide) ?_
    refine lv_icmp_ge (tgt := 38) hx hb dX8_serves_31 (by decide) (fun c_8 => ?_) (fun c_8 => ?_)
    · replace hf := if_p c_8 hf
      refine lv_iconst (v := 1) hx hb dX8_serves_38 (by decide) ?_
      refine lv_iadd hx hb dX8_serves_39 ?_
      exact wX8_serves_h40  C v1 (r_6 + 1) x_7 hf _ _ _ hS (lv_sub hl [1, 2] rfl)
    · replace hf := if_n c_8 hf
      refine lv_iconst (v := 0) hx hb dX8_serves_34 (by decide) ?_
      refine lv_goto (tgt := 39) hx hb dX8_serves_35 (by decide) ?_
      refine lv_iadd hx hb dX8_serves_39 ?_
      exact wX8_serves_h40  C v1 (r_6 + 0) x_7 hf _ _ _ hS (lv_sub hl [1, 2] rfl)
  · replace hf := if_n c_5 hf
    refine lv_iconst (v := 0) hx hb dX8_serves_19 (by decide) ?_
    refine lv_goto (tgt := 40) hx hb dX8_serves_20 (by decide) ?_
    exact wX8_serves_h40  C v1 0 x_4 hf _ _ _ hS (lv_sub hl [1, 2] rfl)
abbrev rmX8_man : Room := { frames := 5, cells := 0, slots := 0, locals := 119 }
set_option maxRecDepth 100000 in
set_option maxHeartbeats 4000000 in
theorem cX8_man_ {G : GT} {l : Launch} {x z : XS} {r : Unit} (hf : fX8_man x = some (r, z)) : Ct G l yX8_man (.code yX8_man cX8_man 5 none) rmX8_man [.ref (G.1 + 99)] x none z := by
  refine Ct.of (by decide +kernel) (Nat.le_of_ble_eq_true rfl) ?_
  intro p e s m args below meth c C ls hl hS
  have C : CX G p s m args meth c cX8_man 5 none RX8 := C
  have hl : lv_has ls 5 [(0, .ref (G.1 + 99))] := hl
  have hx := C.1
  have hb := C.2.1
  have hown := C.2.2.2.2.2.1
  have hw := C.2.2.2.2.2.2.1
  unfold fX8_man at hf
  refine lv_aload_n hx hb dX8_man_0 rfl (lv_at hl 0 rfl) ?_
  obtain ⟨r_1, x_2, qr_1, hf⟩ := bd_out hf
  refine rvI (As := []) (rest := []) C hS (rfl) rfl KX8_draw (cX8_draw_ qr_1) g_1004 ⟨rfl, rfl⟩ ⟨(Nat.le_of_ble_eq_true rfl), (Nat.le_of_ble_eq_true rfl)⟩ hl.1 rfl rfl (Nat.le_of_ble_eq_true rfl) ⟨Nat.zero_le _, Nat.zero_le _⟩ dX8_man_1 (fun H locs hS => ?_)
  refine lv_bipush (v := 10) hx hb dX8_man_4 (by decide) ?_
  refine lv_irem hx hb dX8_man_6 (by decide) ?_
  obtain ⟨v_3, ev_3, hf⟩ := st_out hf
  refine topI ev_3 ?_
  refine lv_istore_n (lv' := [(1, .int v_3), (0, .ref (G.1 + 99))]) hx hb dX8_man_7 rfl hl (by decide) rfl (fun ls hl => ?_)
  refine lv_aload_n hx hb dX8_man_8 rfl (lv_at hl 1 rfl) ?_
  obtain ⟨r_4, x_5, qr_4, hf⟩ := bd_out hf
  refine rvI (As := []) (rest := []) C hS (rfl) rfl KX8_draw (cX8_draw_ qr_4) g_1004 ⟨rfl, rfl⟩ ⟨(Nat.le_of_ble_eq_true rfl), (Nat.le_of_ble_eq_true rfl)⟩ hl.1 rfl rfl (Nat.le_of_ble_eq_true rfl) ⟨Nat.zero_le _, Nat.zero_le _⟩ dX8_man_9 (fun H locs hS => ?_)
  refine lv_bipush (v := 10) hx hb dX8_man_12 (by decide) ?_
  refine lv_irem hx hb dX8_man_14 (by decide) ?_
  obtain ⟨v_6, ev_6, hf⟩ := st_out hf
  refine topI ev_6 ?_
  refine lv_istore_n (lv' := [(2, .int v_6), (1, .int v_3), (0, .ref (G.1 + 99))]) hx hb dX8_man_15 rfl hl (by decide) rfl (fun ls hl => ?_)
  refine lv_iconst (v := 1) hx hb dX8_man_16 (by decide) ?_
  refine lv_aload_n hx hb dX8_man_17 rfl (lv_at hl 2 rfl) ?_
  obtain ⟨r_7, x_8, qr_7, hf⟩ := bd_out hf
  refine rvI (As := []) (rest := [.int 1]) C hS (rfl) rfl KX8_draw (cX8_draw_ qr_7) g_1004 ⟨rfl, rfl⟩ ⟨(Nat.le_of_ble_eq_true rfl), (Nat.le_of_ble_eq_true rfl)⟩ hl.1 rfl rfl (Nat.le_of_ble_eq_true rfl) ⟨Nat.zero_le _, Nat.zero_le _⟩ dX8_man_18 (fun H locs hS => ?_)
  refine lv_bipush (v := 9) hx hb dX8_man_21 (by decide) ?_
  refine lv_irem hx hb dX8_man_23 (by decide) ?_
  obtain ⟨v_9, ev_9, hf⟩ := st_out hf
  refine topI ev_9 ?_
  refine lv_iadd hx hb dX8_man_24 ?_
  obtain ⟨v_10, ev_10, hf⟩ := st_out hf
  refine topI ev_10 ?_
  refine lv_istore_n (lv' := [(3, .int v_10), (2, .int v_6), (1, .int v_3), (0, .ref (G.1 + 99))]) hx hb dX8_man_25 rfl hl (by decide) rfl (fun ls hl => ?_)
  refine lv_aload_n hx hb dX8_man_26 rfl (lv_at hl 3 rfl) ?_
  refine lv_iload_n hx hb dX8_man_27 rfl (lv_at hl 2 rfl) ?_
  refine lv_iload_n hx hb dX8_man_28 rfl (lv_at hl 0 rfl) ?_
  obtain ⟨r_11, x_12, qr_11, hf⟩ := bd_out hf
  refine rvI (As := [.int v_3, .int v_10]) (rest := []) C hS (rfl) rfl KX8_boyFor (cX8_boyFor_ qr_11) g_1037 ⟨rfl, rfl⟩ ⟨(Nat.le_of_ble_eq_true rfl), (Nat.le_of_ble_eq_true rfl)⟩ hl.1 rfl rfl (Nat.le_of_ble_eq_true rfl) ⟨Nat.zero_le _, Nat.zero_le _⟩ dX8_man_29 (fun H locs hS => ?_)
  refine lv_istore (lv' := [(4, .int r_11), (3, .int v_10), (2, .int v_6), (1, .int v_3), (0, .ref (G.1 + 99))]) hx hb dX8_man_32 hl (by decide) rfl (fun ls hl => ?_)
  refine lv_iload hx hb dX8_man_34 (lv_at hl 0 rfl) ?_
  refine lv_if_ge (tgt := 51) hx hb dX8_man_36 (by decide) (fun c_13 => ?_) (fun c_13 => ?_)
  · replace hf := if_p c_13 hf
    refine lv_aload_n hx hb dX8_man_51 rfl (lv_at hl 4 rfl) ?_
    refine lv_iload hx hb dX8_man_52 (lv_at hl 0 rfl) ?_
    refine lv_iload_n hx hb dX8_man_54 rfl (lv_at hl 2 rfl) ?_
    obtain ⟨r_14, x_15, qr_14, hf⟩ := bd_out hf
    refine rvV (As := [.int r_11, .int v_6]) (rest := []) C hS (rfl) rfl KX8_serves (cX8_serves_ qr_14) g_1044 ⟨rfl, rfl⟩ ⟨(Nat.le_of_ble_eq_true rfl), (Nat.le_of_ble_eq_true rfl)⟩ hl.1 rfl rfl (Nat.le_of_ble_eq_true rfl) ⟨Nat.zero_le _, Nat.zero_le _⟩ dX8_man_55 (fun H locs hS => ?_)
    exact rtV C hS (r := ()) hf dX8_man_58
  · replace hf := if_n c_13 hf
    refine lv_aload_n hx hb dX8_man_39 rfl (lv_at hl 4 rfl) ?_
    refine gf7_0 C hS (rfl) g_805 dX8_man_40 ?_
    refine lv_bipush (v := 7) hx hb dX8_man_43 (by decide) ?_
    refine lv_dup2_11 hx hb dX8_man_45 rfl rfl ?_
    obtain ⟨gg_16, hf⟩ := gd_out hf
    refine alI C hS (rfl) rfl gg_16 dX8_man_46 ?_
    refine lv_iconst (v := 1) hx hb dX8_man_47 (by decide) ?_
    refine lv_iadd hx hb dX8_man_48 ?_
    obtain ⟨gg_17, hf⟩ := gd_out hf
    obtain ⟨x_18, ex_18, hf⟩ := st_out hf
    refine asI C hS (rfl) rfl gg_17 ex_18 dX8_man_49 (fun H locs hS => ?_)
    exact rtV C hS (r := ()) hf dX8_man_50
abbrev rmX8_minute : Room := { frames := 6, cells := 0, slots := 0, locals := 143 }
set_option maxRecDepth 100000 in
set_option maxHeartbeats 4000000 in
theorem wbX8_minute_h90 {p : Program} {l : Launch} {e : Env} {s : State} {m : MethodId} {args : Array Value} {below : List Frame} {meth : Method} {c : Code} {G : GT} {r : Unit} {z : XS} (C : CX G p s m args meth c cX8_minute 4 none RX8) {k90 : Int32 → Int32 → XS → Option (Unit × XS)} (hk90 : ∀ (u2 : Int32) (u3 : Int32) (x : XS), k90 u2 u3 x = some (r, z) → ∀ (H : Heap) (locs : List Loc) (ls : Array Slot), SR G x H locs → lv_has ls 4 [(0, .ref (G.1 + 99)), (2, .int u2), (3, .int u3)] → W p l e rmX8_minute s m args below meth c H locs 0 0 (MQ below (QC G none z) args s 0 0 (AB G)) (F0 m 90 ls [])) : ∀ (u2 : Int32) (u3 : Int32) (x : XS), bX8_minute_h90 k90 u2 u3 x = some (r, z) → ∀ (H : Heap) (locs : List Loc) (ls : Array Slot), SR G x H locs → lv_has ls 4 [(0, .ref (G.1 + 99)), (2, .int u2), (3, .int u3)] → W p l e rmX8_minute s m args below meth c H locs 0 0 (MQ below (QC G none z) args s 0 0 (AB G)) (F0 m 90 ls []) := by
  intro u2 u3 x hf H locs ls hS hl
  have hx := C.1
  have hb := C.2.1
  have hown := C.2.2.2.2.2.1
  have hw := C.2.2.2.2.2.2.1
  unfold bX8_minute_h90 at hf
  refine lv_iload_n hx hb dX8_minute_90 rfl (lv_at hl 2 rfl) ?_
  refine lv_iload_n hx hb dX8_minute_91 rfl (lv_at hl 1 rfl) ?_
  refine lv_icmp_ge (tgt := 114) hx hb dX8_minute_92 (by decide) (fun c_25 => ?_) (fun c_25 => ?_)
  · replace hf := if_p c_25 hf
    refine lv_aload_n hx hb dX8_minute_114 rfl (lv_at hl 0 rfl) ?_
    refine gf7_0 C hS (rfl) g_805 dX8_minute_115 ?_
    refine lv_iconst (v := 2) hx hb dX8_minute_118 (by decide) ?_
    refine lv_dup2_11 hx hb dX8_minute_119 rfl rfl ?_
    obtain ⟨gg_26, hf⟩ := gd_out hf
    refine alI C hS (rfl) rfl gg_26 dX8_minute_120 ?_
    refine lv_iconst (v := 1) hx hb dX8_minute_121 (by decide) ?_
    refine lv_iadd hx hb dX8_minute_122 ?_
    obtain ⟨gg_27, hf⟩ := gd_out hf
    obtain ⟨x_28, ex_28, hf⟩ := st_out hf
    refine asI C hS (rfl) rfl gg_27 ex_28 dX8_minute_123 (fun H locs hS => ?_)
    exact rtV C hS (r := ()) hf dX8_minute_124
  · replace hf := if_n c_25 hf
    refine lv_aload_n hx hb dX8_minute_95 rfl (lv_at hl 0 rfl) ?_
    refine gf7_0 C hS (rfl) g_805 dX8_minute_96 ?_
    refine lv_iconst (v := 5) hx hb dX8_minute_99 (by decide) ?_
    obtain ⟨gg_29, hf⟩ := gd_out hf
    refine alI C hS (rfl) rfl gg_29 dX8_minute_100 ?_
    refine lv_if_ne (tgt := 114) hx hb dX8_minute_101 (by decide) (fun c_30 => ?_) (fun c_30 => ?_)
    · replace hf := if_n c_30 hf
      refine lv_aload_n hx hb dX8_minute_114 rfl (lv_at hl 0 rfl) ?_
      refine gf7_0 C hS (rfl) g_805 dX8_minute_115 ?_
      refine lv_iconst (v := 2) hx hb dX8_minute_118 (by decide) ?_
      refine lv_dup2_11 hx hb dX8_minute_119 rfl rfl ?_
      obtain ⟨gg_31, hf⟩ := gd_out hf
      refine alI C hS (rfl) rfl gg_31 dX8_minute_120 ?_
      refine lv_iconst (v := 1) hx hb dX8_minute_121 (by decide) ?_
      refine lv_iadd hx hb dX8_minute_122 ?_
      obtain ⟨gg_32, hf⟩ := gd_out hf
      obtain ⟨x_33, ex_33, hf⟩ := st_out hf
      refine asI C hS (rfl) rfl gg_32 ex_33 dX8_minute_123 (fun H locs hS => ?_)
      exact rtV C hS (r := ()) hf dX8_minute_124
    · replace hf := if_p c_30 hf
      refine lv_aload_n hx hb dX8_minute_104 rfl (lv_at hl 0 rfl) ?_
      obtain ⟨r_34, x_35, qr_34, hf⟩ := bd_out hf
      refine rvV (As := []) (rest := []) C hS (rfl) rfl KX8_man (cX8_man_ qr_34) g_1033 ⟨rfl, rfl⟩ ⟨(Nat.le_of_ble_eq_true rfl), (Nat.le_of_ble_eq_true rfl)⟩ hl.1 rfl rfl (Nat.le_of_ble_eq_true rfl) ⟨Nat.zero_le _, Nat.zero_le _⟩ dX8_minute_105 (fun H locs hS => ?_)
      obtain ⟨v_36, ev_36, hf⟩ := st_out hf
      refine lv_iinc (v := v_36) (lv' := [(3, .int v_36), (0, .ref (G.1 + 99)), (2, .int u2)]) hx hb dX8_minute_108 hl (k := 2) rfl (by rw [ev_36]; rfl) (by decide) rfl (fun ls hl => ?_)
      refine lv_goto (tgt := 90) hx hb dX8_minute_111 (by decide) ?_
      exact hk90 u2 v_36 x_35 hf _ _ _ hS (lv_sub hl [1, 2, 0] rfl)
theorem wlX8_minute_h90 {p : Program} {l : Launch} {e : Env} {s : State} {m : MethodId} {args : Array Value} {below : List Frame} {meth : Method} {c : Code} {G : GT} {r : Unit} {z : XS} (C : CX G p s m args meth c cX8_minute 4 none RX8) (n : Nat) : ∀ (u2 : Int32) (u3 : Int32) (x : XS), lX8_minute_h90 n u2 u3 x = some (r, z) → ∀ (H : Heap) (locs : List Loc) (ls : Array Slot), SR G x H locs → lv_has ls 4 [(0, .ref (G.1 + 99)), (2, .int u2), (3, .int u3)] → W p l e rmX8_minute s m args below meth c H locs 0 0 (MQ below (QC G none z) args s 0 0 (AB G)) (F0 m 90 ls []) := by
  induction n with
  | zero => intro u2 u3 x hf H locs ls hS hl; exact absurd hf (by intro q; cases q)
  | succ n ih => exact wbX8_minute_h90 C ih
theorem wX8_minute_h90 {p : Program} {l : Launch} {e : Env} {s : State} {m : MethodId} {args : Array Value} {below : List Frame} {meth : Method} {c : Code} {G : GT} {r : Unit} {z : XS} (C : CX G p s m args meth c cX8_minute 4 none RX8) : ∀ (u2 : Int32) (u3 : Int32) (x : XS), fX8_minute_h90 u2 u3 x = some (r, z) → ∀ (H : Heap) (locs : List Loc) (ls : Array Slot), SR G x H locs → lv_has ls 4 [(0, .ref (G.1 + 99)), (2, .int u2), (3, .int u3)] → W p l e rmX8_minute s m args below meth c H locs 0 0 (MQ below (QC G none z) args s 0 0 (AB G)) (F0 m 90 ls []) := wlX8_minute_h90 C FU
set_option maxRecDepth 100000 in
set_option maxHeartbeats 4000000 in
theorem wX8_minute_h70 {p : Program} {l : Launch} {e : Env} {s : State} {m : MethodId} {args : Array Value} {below : List Frame} {meth : Method} {c : Code} {G : GT} {r : Unit} {z : XS} (C : CX G p s m args meth c cX8_minute 4 none RX8) : ∀ (u1 : Int32) (x : XS), fX8_minute_h70 u1 x = some (r, z) → ∀ (H : Heap) (locs : List Loc) (ls : Array Slot), SR G x H locs → lv_has ls 4 [(0, .ref (G.1 + 99)), (1, .int u1)] → W p l e rmX8_minute s m args below meth c H locs 0 0 (MQ below (QC G none z) args s 0 0 (AB G)) (F0 m 70 ls []) := by
  intro u1 x hf H locs ls hS hl
  have hx := C.1
  have hb := C.2.1
  have hown := C.2.2.2.2.2.1
  have hw := C.2.2.2.2.2.2.1
  unfold fX8_minute_h70 at hf
  refine lv_aload_n hx hb dX8_minute_70 rfl (lv_at hl 0 rfl) ?_
  obtain ⟨r_19, x_20, qr_19, hf⟩ := bd_out hf
  refine rvI (As := []) (rest := []) C hS (rfl) rfl KX8_draw (cX8_draw_ qr_19) g_1004 ⟨rfl, rfl⟩ ⟨(Nat.le_of_ble_eq_true rfl), (Nat.le_of_ble_eq_true rfl)⟩ hl.1 rfl rfl (Nat.le_of_ble_eq_true rfl) ⟨Nat.zero_le _, Nat.zero_le _⟩ dX8_minute_71 (fun H locs hS => ?_)
  refine lv_iconst (v := 3) hx hb dX8_minute_74 (by decide) ?_
  refine lv_irem hx hb dX8_minute_75 (by decide) ?_
  obtain ⟨v_21, ev_21, hf⟩ := st_out hf
  refine topI ev_21 ?_
  refine lv_iload_n hx hb dX8_minute_76 rfl (lv_at hl 1 rfl) ?_
  refine lv_iconst (v := 1) hx hb dX8_minute_77 (by decide) ?_
  refine lv_icmp_ne (tgt := 85) hx hb dX8_minute_78 (by decide) (fun c_22 => ?_) (fun c_22 => ?_)
  · replace hf := if_n c_22 hf
    refine lv_iconst (v := 0) hx hb dX8_minute_85 (by decide) ?_
    refine lv_iadd hx hb dX8_minute_86 ?_
    obtain ⟨v_23, ev_23, hf⟩ := st_out hf
    refine topI ev_23 ?_
    refine lv_istore_n (lv' := [(2, .int v_23), (0, .ref (G.1 + 99)), (1, .int u1)]) hx hb dX8_minute_87 rfl hl (by decide) rfl (fun ls hl => ?_)
    refine lv_iconst (v := 0) hx hb dX8_minute_88 (by decide) ?_
    refine lv_istore_n (lv' := [(3, .int 0), (2, .int v_23), (0, .ref (G.1 + 99)), (1, .int u1)]) hx hb dX8_minute_89 rfl hl (by decide) rfl (fun ls hl => ?_)
    exact wX8_minute_h90  C v_23 0 x_20 hf _ _ _ hS (lv_sub hl [2, 1, 0] rfl)
  · replace hf := if_p c_22 hf
    refine lv_iconst (v := 2) hx hb dX8_minute_81 (by decide) ?_
    refine lv_goto (tgt := 86) hx hb dX8_minute_82 (by decide) ?_
    refine lv_iadd hx hb dX8_minute_86 ?_
    obtain ⟨v_24, ev_24, hf⟩ := st_out hf
    refine topI ev_24 ?_
    refine lv_istore_n (lv' := [(2, .int v_24), (0, .ref (G.1 + 99)), (1, .int u1)]) hx hb dX8_minute_87 rfl hl (by decide) rfl (fun ls hl => ?_)
    refine lv_iconst (v := 0) hx hb dX8_minute_88 (by decide) ?_
    refine lv_istore_n (lv' := [(3, .int 0), (2, .int v_24), (0, .ref (G.1 + 99)), (1, .int u1)]) hx hb dX8_minute_89 rfl hl (by decide) rfl (fun ls hl => ?_)
    exact wX8_minute_h90  C v_24 0 x_20 hf _ _ _ hS (lv_sub hl [2, 1, 0] rfl)
set_option maxRecDepth 100000 in
set_option maxHeartbeats 4000000 in
theorem wbX8_minute_h2 {p : Program} {l : Launch} {e : Env} {s : State} {m : MethodId} {args : Array Value} {below : List Frame} {meth : Method} {c : Code} {G : GT} {r : Unit} {z : XS} (C : CX G p s m args meth c cX8_minute 4 none RX8) {k2 : Int32 → XS → Option (Unit × XS)} (hk2 : ∀ (u1 : Int32) (x : XS), k2 u1 x = some (r, z) → ∀ (H : Heap) (locs : List Loc) (ls : Array Slot), SR G x H locs → lv_has ls 4 [(0, .ref (G.1 + 99)), (1, .int u1)] → W p l e rmX8_minute s m args below meth c H locs 0 0 (MQ below (QC G none z) args s 0 0 (AB G)) (F0 m 2 ls [])) : ∀ (u1 : Int32) (x : XS), bX8_minute_h2 k2 u1 x = some (r, z) → ∀ (H : Heap) (locs : List Loc) (ls : Array Slot), SR G x H locs → lv_has ls 4 [(0, .ref (G.1 + 99)), (1, .int u1)] → W p l e rmX8_minute s m args below meth c H locs 0 0 (MQ below (QC G none z) args s 0 0 (AB G)) (F0 m 2 ls []) := by
  intro u1 x hf H locs ls hS hl
  have hx := C.1
  have hb := C.2.1
  have hown := C.2.2.2.2.2.1
  have hw := C.2.2.2.2.2.2.1
  unfold bX8_minute_h2 at hf
  refine lv_iload_n hx hb dX8_minute_2 rfl (lv_at hl 1 rfl) ?_
  refine lv_aload_n hx hb dX8_minute_3 rfl (lv_at hl 0 rfl) ?_
  refine gf7_0 C hS (rfl) g_805 dX8_minute_4 ?_
  refine lv_iconst (v := 1) hx hb dX8_minute_7 (by decide) ?_
  obtain ⟨gg_1, hf⟩ := gd_out hf
  refine alI C hS (rfl) rfl gg_1 dX8_minute_8 ?_
  refine lv_icmp_ge (tgt := 38) hx hb dX8_minute_9 (by decide) (fun c_2 => ?_) (fun c_2 => ?_)
  · replace hf := if_p c_2 hf
    refine lv_aload_n hx hb dX8_minute_38 rfl (lv_at hl 0 rfl) ?_
    refine gf7_0 C hS (rfl) g_805 dX8_minute_39 ?_
    refine lv_iconst (v := 5) hx hb dX8_minute_42 (by decide) ?_
    obtain ⟨gg_3, hf⟩ := gd_out hf
    refine alI C hS (rfl) rfl gg_3 dX8_minute_43 ?_
    obtain ⟨v_4, ev_4, hf⟩ := st_out hf
    refine topI ev_4 ?_
    refine lv_istore_n (lv' := [(1, .int v_4), (0, .ref (G.1 + 99))]) hx hb dX8_minute_44 rfl hl (by decide) rfl (fun ls hl => ?_)
    refine lv_aload_n hx hb dX8_minute_45 rfl (lv_at hl 1 rfl) ?_
    obtain ⟨r_5, x_6, qr_5, hf⟩ := bd_out hf
    refine rvI (As := []) (rest := []) C hS (rfl) rfl KX8_draw (cX8_draw_ qr_5) g_1004 ⟨rfl, rfl⟩ ⟨(Nat.le_of_ble_eq_true rfl), (Nat.le_of_ble_eq_true rfl)⟩ hl.1 rfl rfl (Nat.le_of_ble_eq_true rfl) ⟨Nat.zero_le _, Nat.zero_le _⟩ dX8_minute_46 (fun H locs hS => ?_)
    refine lv_bipush (v := 100) hx hb dX8_minute_49 (by decide) ?_
    refine lv_irem hx hb dX8_minute_51 (by decide) ?_
    obtain ⟨v_7, ev_7, hf⟩ := st_out hf
    refine topI ev_7 ?_
    refine lv_aload_n hx hb dX8_minute_52 rfl (lv_at hl 1 rfl) ?_
    refine gf7_0 C hS (rfl) g_805 dX8_minute_53 ?_
    refine lv_iconst (v := 4) hx hb dX8_minute_56 (by decide) ?_
    obtain ⟨gg_8, hf⟩ := gd_out hf
    refine alI C hS (rfl) rfl gg_8 dX8_minute_57 ?_
    refine lv_icmp_ge (tgt := 70) hx hb dX8_minute_58 (by decide) (fun c_9 => ?_) (fun c_9 => ?_)
    · replace hf := if_p c_9 hf
      exact wX8_minute_h70  C v_4 x_6 hf _ _ _ hS (lv_sub hl [1, 0] rfl)
    · replace hf := if_n c_9 hf
      refine lv_aload_n hx hb dX8_minute_61 rfl (lv_at hl 1 rfl) ?_
      refine gf7_0 C hS (rfl) g_805 dX8_minute_62 ?_
      refine lv_iconst (v := 5) hx hb dX8_minute_65 (by decide) ?_
      refine lv_iconst (v := 1) hx hb dX8_minute_66 (by decide) ?_
      refine lv_iload_n hx hb dX8_minute_67 rfl (lv_at hl 0 rfl) ?_
      refine lv_isub hx hb dX8_minute_68 ?_
      obtain ⟨gg_10, hf⟩ := gd_out hf
      obtain ⟨x_11, ex_11, hf⟩ := st_out hf
      refine asI C hS (rfl) rfl gg_10 ex_11 dX8_minute_69 (fun H locs hS => ?_)
      exact wX8_minute_h70  C v_4 x_11 hf _ _ _ hS (lv_sub hl [1, 0] rfl)
  · replace hf := if_n c_2 hf
    refine lv_aload_n hx hb dX8_minute_12 rfl (lv_at hl 0 rfl) ?_
    refine lv_iload_n hx hb dX8_minute_13 rfl (lv_at hl 1 rfl) ?_
    refine lv_iconst (v := 5) hx hb dX8_minute_14 (by decide) ?_
    refine lv_aload_n hx hb dX8_minute_15 rfl (lv_at hl 0 rfl) ?_
    refine lv_iload_n hx hb dX8_minute_16 rfl (lv_at hl 1 rfl) ?_
    refine lv_iconst (v := 5) hx hb dX8_minute_17 (by decide) ?_
    obtain ⟨r_12, x_13, qr_12, hf⟩ := bd_out hf
    refine rvI (As := [.int u1, .int 5]) (rest := [.int 5, .int u1, .ref (G.1 + 99)]) C hS (rfl) rfl KX8_of (cX8_of_ qr_12) g_938 ⟨rfl, rfl⟩ ⟨(Nat.le_of_ble_eq_true rfl), (Nat.le_of_ble_eq_true rfl)⟩ hl.1 rfl rfl (Nat.le_of_ble_eq_true rfl) ⟨Nat.zero_le _, Nat.zero_le _⟩ dX8_minute_18 (fun H locs hS => ?_)
    refine lv_iconst (v := 1) hx hb dX8_minute_21 (by decide) ?_
    refine lv_isub hx hb dX8_minute_22 ?_
    refine lv_iconst (v := 0) hx hb dX8_minute_23 (by decide) ?_
    refine lv_bipush (v := 99) hx hb dX8_minute_24 (by decide) ?_
    obtain ⟨r_14, x_15, qr_14, hf⟩ := bd_out hf
    refine rsI (As := [.int (r_12 - 1), .int 0, .int 99]) (rest := [.int 5, .int u1, .ref (G.1 + 99)]) C hS KX8_within (cX8_within_ qr_14) g_977 ⟨rfl, rfl⟩ ⟨(Nat.le_of_ble_eq_true rfl), (Nat.le_of_ble_eq_true rfl)⟩ hl.1 rfl rfl (Nat.le_of_ble_eq_true rfl) ⟨Nat.zero_le _, Nat.zero_le _⟩ dX8_minute_26 (fun H locs hS => ?_)
    obtain ⟨r_16, x_17, qr_16, hf⟩ := bd_out hf
    refine rvV (As := [.int u1, .int 5, .int r_14]) (rest := []) C hS (rfl) rfl KX8_put (cX8_put_ qr_16) g_926 ⟨rfl, rfl⟩ ⟨(Nat.le_of_ble_eq_true rfl), (Nat.le_of_ble_eq_true rfl)⟩ hl.1 rfl rfl (Nat.le_of_ble_eq_true rfl) ⟨Nat.zero_le _, Nat.zero_le _⟩ dX8_minute_29 (fun H locs hS => ?_)
    obtain ⟨v_18, ev_18, hf⟩ := st_out hf
    refine lv_iinc (v := v_18) (lv' := [(1, .int v_18), (0, .ref (G.1 + 99))]) hx hb dX8_minute_32 hl (k := 1) rfl (by rw [ev_18]; rfl) (by decide) rfl (fun ls hl => ?_)
    refine lv_goto (tgt := 2) hx hb dX8_minute_35 (by decide) ?_
    exact hk2 v_18 x_17 hf _ _ _ hS (lv_sub hl [1, 0] rfl)
theorem wlX8_minute_h2 {p : Program} {l : Launch} {e : Env} {s : State} {m : MethodId} {args : Array Value} {below : List Frame} {meth : Method} {c : Code} {G : GT} {r : Unit} {z : XS} (C : CX G p s m args meth c cX8_minute 4 none RX8) (n : Nat) : ∀ (u1 : Int32) (x : XS), lX8_minute_h2 n u1 x = some (r, z) → ∀ (H : Heap) (locs : List Loc) (ls : Array Slot), SR G x H locs → lv_has ls 4 [(0, .ref (G.1 + 99)), (1, .int u1)] → W p l e rmX8_minute s m args below meth c H locs 0 0 (MQ below (QC G none z) args s 0 0 (AB G)) (F0 m 2 ls []) := by
  induction n with
  | zero => intro u1 x hf H locs ls hS hl; exact absurd hf (by intro q; cases q)
  | succ n ih => exact wbX8_minute_h2 C ih
theorem wX8_minute_h2 {p : Program} {l : Launch} {e : Env} {s : State} {m : MethodId} {args : Array Value} {below : List Frame} {meth : Method} {c : Code} {G : GT} {r : Unit} {z : XS} (C : CX G p s m args meth c cX8_minute 4 none RX8) : ∀ (u1 : Int32) (x : XS), fX8_minute_h2 u1 x = some (r, z) → ∀ (H : Heap) (locs : List Loc) (ls : Array Slot), SR G x H locs → lv_has ls 4 [(0, .ref (G.1 + 99)), (1, .int u1)] → W p l e rmX8_minute s m args below meth c H locs 0 0 (MQ below (QC G none z) args s 0 0 (AB G)) (F0 m 2 ls []) := wlX8_minute_h2 C FU
set_option maxRecDepth 100000 in
set_option maxHeartbeats 4000000 in
theorem cX8_minute_ {G : GT} {l : Launch} {x z : XS} {r : Unit} (hf : fX8_minute x = some (r, z)) : Ct G l yX8_minute (.code yX8_minute cX8_minute 4 none) rmX8_minute [.ref (G.1 + 99)] x none z := by
  refine Ct.of (by decide +kernel) (Nat.le_of_ble_eq_true rfl) ?_
  intro p e s m args below meth c C ls hl hS
  have C : CX G p s m args meth c cX8_minute 4 none RX8 := C
  have hl : lv_has ls 4 [(0, .ref (G.1 + 99))] := hl
  have hx := C.1
  have hb := C.2.1
  have hown := C.2.2.2.2.2.1
  have hw := C.2.2.2.2.2.2.1
  unfold fX8_minute at hf
  refine lv_iconst (v := 0) hx hb dX8_minute_0 (by decide) ?_
  refine lv_istore_n (lv' := [(1, .int 0), (0, .ref (G.1 + 99))]) hx hb dX8_minute_1 rfl hl (by decide) rfl (fun ls hl => ?_)
  exact wX8_minute_h2  C 0 x hf _ _ _ hS (lv_sub hl [1, 0] rfl)
abbrev rmX8_goesOn : Room := { frames := 7, cells := 0, slots := 0, locals := 166 }
set_option maxRecDepth 100000 in
set_option maxHeartbeats 4000000 in
theorem wbX8_goesOn_h2 {p : Program} {l : Launch} {e : Env} {s : State} {m : MethodId} {args : Array Value} {below : List Frame} {meth : Method} {c : Code} {G : GT} {r : Unit} {z : XS} (C : CX G p s m args meth c cX8_goesOn 3 none RX8) {k2 : Int32 → Int32 → XS → Option (Unit × XS)} (hk2 : ∀ (u1 : Int32) (u2 : Int32) (x : XS), k2 u1 u2 x = some (r, z) → ∀ (H : Heap) (locs : List Loc) (ls : Array Slot), SR G x H locs → lv_has ls 3 [(0, .ref (G.1 + 99)), (1, .int u1), (2, .int u2)] → W p l e rmX8_goesOn s m args below meth c H locs 0 0 (MQ below (QC G none z) args s 0 0 (AB G)) (F0 m 2 ls [])) : ∀ (u1 : Int32) (u2 : Int32) (x : XS), bX8_goesOn_h2 k2 u1 u2 x = some (r, z) → ∀ (H : Heap) (locs : List Loc) (ls : Array Slot), SR G x H locs → lv_has ls 3 [(0, .ref (G.1 + 99)), (1, .int u1), (2, .int u2)] → W p l e rmX8_goesOn s m args below meth c H locs 0 0 (MQ below (QC G none z) args s 0 0 (AB G)) (F0 m 2 ls []) := by
  intro u1 u2 x hf H locs ls hS hl
  have hx := C.1
  have hb := C.2.1
  have hown := C.2.2.2.2.2.1
  have hw := C.2.2.2.2.2.2.1
  unfold bX8_goesOn_h2 at hf
  refine lv_iload_n hx hb dX8_goesOn_2 rfl (lv_at hl 2 rfl) ?_
  refine lv_iload_n hx hb dX8_goesOn_3 rfl (lv_at hl 1 rfl) ?_
  refine lv_icmp_ge (tgt := 17) hx hb dX8_goesOn_4 (by decide) (fun c_1 => ?_) (fun c_1 => ?_)
  · replace hf := if_p c_1 hf
    exact rtV C hS (r := ()) hf dX8_goesOn_17
  · replace hf := if_n c_1 hf
    refine lv_aload_n hx hb dX8_goesOn_7 rfl (lv_at hl 0 rfl) ?_
    obtain ⟨r_2, x_3, qr_2, hf⟩ := bd_out hf
    refine rvV (As := []) (rest := []) C hS (rfl) rfl KX8_minute (cX8_minute_ qr_2) g_1029 ⟨rfl, rfl⟩ ⟨(Nat.le_of_ble_eq_true rfl), (Nat.le_of_ble_eq_true rfl)⟩ hl.1 rfl rfl (Nat.le_of_ble_eq_true rfl) ⟨Nat.zero_le _, Nat.zero_le _⟩ dX8_goesOn_8 (fun H locs hS => ?_)
    obtain ⟨v_4, ev_4, hf⟩ := st_out hf
    refine lv_iinc (v := v_4) (lv' := [(2, .int v_4), (0, .ref (G.1 + 99)), (1, .int u1)]) hx hb dX8_goesOn_11 hl (k := 2) rfl (by rw [ev_4]; rfl) (by decide) rfl (fun ls hl => ?_)
    refine lv_goto (tgt := 2) hx hb dX8_goesOn_14 (by decide) ?_
    exact hk2 u1 v_4 x_3 hf _ _ _ hS (lv_sub hl [1, 2, 0] rfl)
theorem wlX8_goesOn_h2 {p : Program} {l : Launch} {e : Env} {s : State} {m : MethodId} {args : Array Value} {below : List Frame} {meth : Method} {c : Code} {G : GT} {r : Unit} {z : XS} (C : CX G p s m args meth c cX8_goesOn 3 none RX8) (n : Nat) : ∀ (u1 : Int32) (u2 : Int32) (x : XS), lX8_goesOn_h2 n u1 u2 x = some (r, z) → ∀ (H : Heap) (locs : List Loc) (ls : Array Slot), SR G x H locs → lv_has ls 3 [(0, .ref (G.1 + 99)), (1, .int u1), (2, .int u2)] → W p l e rmX8_goesOn s m args below meth c H locs 0 0 (MQ below (QC G none z) args s 0 0 (AB G)) (F0 m 2 ls []) := by
  induction n with
  | zero => intro u1 u2 x hf H locs ls hS hl; exact absurd hf (by intro q; cases q)
  | succ n ih => exact wbX8_goesOn_h2 C ih
theorem wX8_goesOn_h2 {p : Program} {l : Launch} {e : Env} {s : State} {m : MethodId} {args : Array Value} {below : List Frame} {meth : Method} {c : Code} {G : GT} {r : Unit} {z : XS} (C : CX G p s m args meth c cX8_goesOn 3 none RX8) : ∀ (u1 : Int32) (u2 : Int32) (x : XS), fX8_goesOn_h2 u1 u2 x = some (r, z) → ∀ (H : Heap) (locs : List Loc) (ls : Array Slot), SR G x H locs → lv_has ls 3 [(0, .ref (G.1 + 99)), (1, .int u1), (2, .int u2)] → W p l e rmX8_goesOn s m args below meth c H locs 0 0 (MQ below (QC G none z) args s 0 0 (AB G)) (F0 m 2 ls []) := wlX8_goesOn_h2 C FU
set_option maxRecDepth 100000 in
set_option maxHeartbeats 4000000 in
theorem cX8_goesOn_ {G : GT} {l : Launch} {v1 : Int32} {x z : XS} {r : Unit} (hf : fX8_goesOn v1 x = some (r, z)) : Ct G l yX8_goesOn (.code yX8_goesOn cX8_goesOn 3 none) rmX8_goesOn [.ref (G.1 + 99), .int v1] x none z := by
  refine Ct.of (by decide +kernel) (Nat.le_of_ble_eq_true rfl) ?_
  intro p e s m args below meth c C ls hl hS
  have C : CX G p s m args meth c cX8_goesOn 3 none RX8 := C
  have hl : lv_has ls 3 [(0, .ref (G.1 + 99)), (1, .int v1)] := hl
  have hx := C.1
  have hb := C.2.1
  have hown := C.2.2.2.2.2.1
  have hw := C.2.2.2.2.2.2.1
  unfold fX8_goesOn at hf
  refine lv_iconst (v := 0) hx hb dX8_goesOn_0 (by decide) ?_
  refine lv_istore_n (lv' := [(2, .int 0), (0, .ref (G.1 + 99)), (1, .int v1)]) hx hb dX8_goesOn_1 rfl hl (by decide) rfl (fun ls hl => ?_)
  exact wX8_goesOn_h2  C v1 0 x hf _ _ _ hS (lv_sub hl [1, 2, 0] rfl)
abbrev rmX8_sumOf : Room := { frames := 1, cells := 0, slots := 0, locals := 22 }
set_option maxRecDepth 100000 in
set_option maxHeartbeats 4000000 in
theorem wbX8_sumOf_h4 {p : Program} {l : Launch} {e : Env} {s : State} {m : MethodId} {args : Array Value} {below : List Frame} {meth : Method} {c : Code} {G : GT} {r : Int32} {z : XS} (C : CX G p s m args meth c cX8_sumOf 4 (some .int) RX8) {k4 : Int32 → Int32 → Int32 → XS → Option (Int32 × XS)} (hk4 : ∀ (u1 : Int32) (u2 : Int32) (u3 : Int32) (x : XS), k4 u1 u2 u3 x = some (r, z) → ∀ (H : Heap) (locs : List Loc) (ls : Array Slot), SR G x H locs → lv_has ls 4 [(0, .ref (G.1 + 99)), (1, .int u1), (2, .int u2), (3, .int u3)] → W p l e rmX8_sumOf s m args below meth c H locs 0 0 (MQ below (QC G (some (.int r)) z) args s 0 0 (AB G)) (F0 m 4 ls [])) : ∀ (u1 : Int32) (u2 : Int32) (u3 : Int32) (x : XS), bX8_sumOf_h4 k4 u1 u2 u3 x = some (r, z) → ∀ (H : Heap) (locs : List Loc) (ls : Array Slot), SR G x H locs → lv_has ls 4 [(0, .ref (G.1 + 99)), (1, .int u1), (2, .int u2), (3, .int u3)] → W p l e rmX8_sumOf s m args below meth c H locs 0 0 (MQ below (QC G (some (.int r)) z) args s 0 0 (AB G)) (F0 m 4 ls []) := by
  intro u1 u2 u3 x hf H locs ls hS hl
  have hx := C.1
  have hb := C.2.1
  have hown := C.2.2.2.2.2.1
  have hw := C.2.2.2.2.2.2.1
  unfold bX8_sumOf_h4 at hf
  refine lv_iload_n hx hb dX8_sumOf_4 rfl (lv_at hl 3 rfl) ?_
  refine lv_aload_n hx hb dX8_sumOf_5 rfl (lv_at hl 0 rfl) ?_
  refine gf7_0 C hS (rfl) g_805 dX8_sumOf_6 ?_
  refine lv_iconst (v := 1) hx hb dX8_sumOf_9 (by decide) ?_
  obtain ⟨gg_1, hf⟩ := gd_out hf
  refine alI C hS (rfl) rfl gg_1 dX8_sumOf_10 ?_
  refine lv_icmp_ge (tgt := 29) hx hb dX8_sumOf_11 (by decide) (fun c_2 => ?_) (fun c_2 => ?_)
  · replace hf := if_p c_2 hf
    refine lv_iload_n hx hb dX8_sumOf_29 rfl (lv_at hl 2 rfl) ?_
    exact rtI C hS hf dX8_sumOf_30
  · replace hf := if_n c_2 hf
    refine lv_iload_n hx hb dX8_sumOf_14 rfl (lv_at hl 2 rfl) ?_
    refine lv_aload_n hx hb dX8_sumOf_15 rfl (lv_at hl 0 rfl) ?_
    refine lv_iload_n hx hb dX8_sumOf_16 rfl (lv_at hl 3 rfl) ?_
    refine lv_iload_n hx hb dX8_sumOf_17 rfl (lv_at hl 1 rfl) ?_
    obtain ⟨r_3, x_4, qr_3, hf⟩ := bd_out hf
    refine rvI (As := [.int u3, .int u1]) (rest := [.int u2]) C hS (rfl) rfl KX8_of (cX8_of_ qr_3) g_938 ⟨rfl, rfl⟩ ⟨(Nat.le_of_ble_eq_true rfl), (Nat.le_of_ble_eq_true rfl)⟩ hl.1 rfl rfl (Nat.le_of_ble_eq_true rfl) ⟨Nat.zero_le _, Nat.zero_le _⟩ dX8_sumOf_18 (fun H locs hS => ?_)
    refine lv_iadd hx hb dX8_sumOf_21 ?_
    obtain ⟨v_5, ev_5, hf⟩ := st_out hf
    refine topI ev_5 ?_
    refine lv_istore_n (lv' := [(2, .int v_5), (0, .ref (G.1 + 99)), (1, .int u1), (3, .int u3)]) hx hb dX8_sumOf_22 rfl hl (by decide) rfl (fun ls hl => ?_)
    obtain ⟨v_6, ev_6, hf⟩ := st_out hf
    refine lv_iinc (v := v_6) (lv' := [(3, .int v_6), (2, .int v_5), (0, .ref (G.1 + 99)), (1, .int u1)]) hx hb dX8_sumOf_23 hl (k := 3) rfl (by rw [ev_6]; rfl) (by decide) rfl (fun ls hl => ?_)
    refine lv_goto (tgt := 4) hx hb dX8_sumOf_26 (by decide) ?_
    exact hk4 u1 v_5 v_6 x_4 hf _ _ _ hS (lv_sub hl [2, 3, 1, 0] rfl)
theorem wlX8_sumOf_h4 {p : Program} {l : Launch} {e : Env} {s : State} {m : MethodId} {args : Array Value} {below : List Frame} {meth : Method} {c : Code} {G : GT} {r : Int32} {z : XS} (C : CX G p s m args meth c cX8_sumOf 4 (some .int) RX8) (n : Nat) : ∀ (u1 : Int32) (u2 : Int32) (u3 : Int32) (x : XS), lX8_sumOf_h4 n u1 u2 u3 x = some (r, z) → ∀ (H : Heap) (locs : List Loc) (ls : Array Slot), SR G x H locs → lv_has ls 4 [(0, .ref (G.1 + 99)), (1, .int u1), (2, .int u2), (3, .int u3)] → W p l e rmX8_sumOf s m args below meth c H locs 0 0 (MQ below (QC G (some (.int r)) z) args s 0 0 (AB G)) (F0 m 4 ls []) := by
  induction n with
  | zero => intro u1 u2 u3 x hf H locs ls hS hl; exact absurd hf (by intro q; cases q)
  | succ n ih => exact wbX8_sumOf_h4 C ih
theorem wX8_sumOf_h4 {p : Program} {l : Launch} {e : Env} {s : State} {m : MethodId} {args : Array Value} {below : List Frame} {meth : Method} {c : Code} {G : GT} {r : Int32} {z : XS} (C : CX G p s m args meth c cX8_sumOf 4 (some .int) RX8) : ∀ (u1 : Int32) (u2 : Int32) (u3 : Int32) (x : XS), fX8_sumOf_h4 u1 u2 u3 x = some (r, z) → ∀ (H : Heap) (locs : List Loc) (ls : Array Slot), SR G x H locs → lv_has ls 4 [(0, .ref (G.1 + 99)), (1, .int u1), (2, .int u2), (3, .int u3)] → W p l e rmX8_sumOf s m args below meth c H locs 0 0 (MQ below (QC G (some (.int r)) z) args s 0 0 (AB G)) (F0 m 4 ls []) := wlX8_sumOf_h4 C FU
set_option maxRecDepth 100000 in
set_option maxHeartbeats 4000000 in
theorem cX8_sumOf_ {G : GT} {l : Launch} {v1 : Int32} {x z : XS} {r : Int32} (hf : fX8_sumOf v1 x = some (r, z)) : Ct G l yX8_sumOf (.code yX8_sumOf cX8_sumOf 4 (some .int)) rmX8_sumOf [.ref (G.1 + 99), .int v1] x (some (.int r)) z := by
  refine Ct.of (by decide +kernel) (Nat.le_of_ble_eq_true rfl) ?_
  intro p e s m args below meth c C ls hl hS
  have C : CX G p s m args meth c cX8_sumOf 4 (some .int) RX8 := C
  have hl : lv_has ls 4 [(0, .ref (G.1 + 99)), (1, .int v1)] := hl
  have hx := C.1
  have hb := C.2.1
  have hown := C.2.2.2.2.2.1
  have hw := C.2.2.2.2.2.2.1
  unfold fX8_sumOf at hf
  refine lv_iconst (v := 0) hx hb dX8_sumOf_0 (by decide) ?_
  refine lv_istore_n (lv' := [(2, .int 0), (0, .ref (G.1 + 99)), (1, .int v1)]) hx hb dX8_sumOf_1 rfl hl (by decide) rfl (fun ls hl => ?_)
  refine lv_iconst (v := 0) hx hb dX8_sumOf_2 (by decide) ?_
  refine lv_istore_n (lv' := [(3, .int 0), (2, .int 0), (0, .ref (G.1 + 99)), (1, .int v1)]) hx hb dX8_sumOf_3 rfl hl (by decide) rfl (fun ls hl => ?_)
  exact wX8_sumOf_h4  C v1 0 0 x hf _ _ _ hS (lv_sub hl [2, 3, 1, 0] rfl)
abbrev rmX8_minutes : Room := { frames := 8, cells := 0, slots := 0, locals := 188 }
set_option maxRecDepth 100000 in
set_option maxHeartbeats 4000000 in
theorem cX8_minutes_ {G : GT} {l : Launch} {v1 : Int32} {x z : XS} {r : Int32} (hf : fX8_minutes v1 x = some (r, z)) : Ct G l yX8_minutes (.code yX8_minutes cX8_minutes 3 (some .int)) rmX8_minutes [.ref (G.1 + 99), .int v1] x (some (.int r)) z := by
  refine Ct.of (by decide +kernel) (Nat.le_of_ble_eq_true rfl) ?_
  intro p e s m args below meth c C ls hl hS
  have C : CX G p s m args meth c cX8_minutes 3 (some .int) RX8 := C
  have hl : lv_has ls 3 [(0, .ref (G.1 + 99)), (1, .int v1)] := hl
  have hx := C.1
  have hb := C.2.1
  have hown := C.2.2.2.2.2.1
  have hw := C.2.2.2.2.2.2.1
  unfold fX8_minutes at hf
  refine lv_iload_n hx hb dX8_minutes_0 rfl (lv_at hl 1 rfl) ?_
  refine lv_iconst (v := 1) hx hb dX8_minutes_1 (by decide) ?_
  refine lv_sipush (v := 300) hx hb dX8_minutes_2 (by decide) ?_
  obtain ⟨r_1, x_2, qr_1, hf⟩ := bd_out hf
  refine rsI (As := [.int v1, .int 1, .int 300]) (rest := []) C hS KX8_in (cX8_in_ qr_1) g_914 ⟨rfl, rfl⟩ ⟨(Nat.le_of_ble_eq_true rfl), (Nat.le_of_ble_eq_true rfl)⟩ hl.1 rfl rfl (Nat.le_of_ble_eq_true rfl) ⟨Nat.zero_le _, Nat.zero_le _⟩ dX8_minutes_5 (fun H locs hS => ?_)
  refine lv_if_ne (tgt := 14) hx hb dX8_minutes_8 (by decide) (fun c_3 => ?_) (fun c_3 => ?_)
  · replace hf := if_n c_3 hf
    refine lv_aload_n hx hb dX8_minutes_14 rfl (lv_at hl 0 rfl) ?_
    refine lv_bipush (v := 6) hx hb dX8_minutes_15 (by decide) ?_
    obtain ⟨r_4, x_5, qr_4, hf⟩ := bd_out hf
    refine rvI (As := [.int 6]) (rest := []) C hS (rfl) rfl KX8_sumOf (cX8_sumOf_ qr_4) g_1021 ⟨rfl, rfl⟩ ⟨(Nat.le_of_ble_eq_true rfl), (Nat.le_of_ble_eq_true rfl)⟩ hl.1 rfl rfl (Nat.le_of_ble_eq_true rfl) ⟨Nat.zero_le _, Nat.zero_le _⟩ dX8_minutes_17 (fun H locs hS => ?_)
    refine lv_istore_n (lv' := [(2, .int r_4), (0, .ref (G.1 + 99)), (1, .int v1)]) hx hb dX8_minutes_20 rfl hl (by decide) rfl (fun ls hl => ?_)
    refine lv_aload_n hx hb dX8_minutes_21 rfl (lv_at hl 1 rfl) ?_
    refine lv_sipush (v := 9999) hx hb dX8_minutes_22 (by decide) ?_
    refine lv_aload_n hx hb dX8_minutes_25 rfl (lv_at hl 1 rfl) ?_
    refine gf7_0 C hS (rfl) g_805 dX8_minutes_26 ?_
    refine lv_iconst (v := 2) hx hb dX8_minutes_29 (by decide) ?_
    obtain ⟨gg_6, hf⟩ := gd_out hf
    refine alI C hS (rfl) rfl gg_6 dX8_minutes_30 ?_
    refine lv_isub hx hb dX8_minutes_31 ?_
    refine lv_iconst (v := 0) hx hb dX8_minutes_32 (by decide) ?_
    refine lv_iload_n hx hb dX8_minutes_33 rfl (lv_at hl 2 rfl) ?_
    obtain ⟨r_7, x_8, qr_7, hf⟩ := bd_out hf
    refine rsI (As := [.int (9999 - (x_5 100 (ix 2))), .int 0, .int v1]) (rest := [.ref (G.1 + 99)]) C hS KX8_within (cX8_within_ qr_7) g_977 ⟨rfl, rfl⟩ ⟨(Nat.le_of_ble_eq_true rfl), (Nat.le_of_ble_eq_true rfl)⟩ hl.1 rfl rfl (Nat.le_of_ble_eq_true rfl) ⟨Nat.zero_le _, Nat.zero_le _⟩ dX8_minutes_34 (fun H locs hS => ?_)
    obtain ⟨r_9, x_10, qr_9, hf⟩ := bd_out hf
    refine rvV (As := [.int r_7]) (rest := []) C hS (rfl) rfl KX8_goesOn (cX8_goesOn_ qr_9) g_1025 ⟨rfl, rfl⟩ ⟨(Nat.le_of_ble_eq_true rfl), (Nat.le_of_ble_eq_true rfl)⟩ hl.1 rfl rfl (Nat.le_of_ble_eq_true rfl) ⟨Nat.zero_le _, Nat.zero_le _⟩ dX8_minutes_37 (fun H locs hS => ?_)
    refine lv_aload_n hx hb dX8_minutes_40 rfl (lv_at hl 1 rfl) ?_
    refine lv_bipush (v := 6) hx hb dX8_minutes_41 (by decide) ?_
    obtain ⟨r_11, x_12, qr_11, hf⟩ := bd_out hf
    refine rvI (As := [.int 6]) (rest := []) C hS (rfl) rfl KX8_sumOf (cX8_sumOf_ qr_11) g_1021 ⟨rfl, rfl⟩ ⟨(Nat.le_of_ble_eq_true rfl), (Nat.le_of_ble_eq_true rfl)⟩ hl.1 rfl rfl (Nat.le_of_ble_eq_true rfl) ⟨Nat.zero_le _, Nat.zero_le _⟩ dX8_minutes_43 (fun H locs hS => ?_)
    refine lv_iload_n hx hb dX8_minutes_46 rfl (lv_at hl 0 rfl) ?_
    refine lv_isub hx hb dX8_minutes_47 ?_
    exact rtI C hS hf dX8_minutes_48
  · replace hf := if_p c_3 hf
    refine lv_ldc (v := (-1000000001)) hx hb hown (hw _ g_920) dX8_minutes_11 ?_
    exact rtI C hS hf dX8_minutes_13
abbrev rmX8_busy : Room := { frames := 1, cells := 0, slots := 0, locals := 22 }
set_option maxRecDepth 100000 in
set_option maxHeartbeats 4000000 in
theorem wbX8_busy_h4 {p : Program} {l : Launch} {e : Env} {s : State} {m : MethodId} {args : Array Value} {below : List Frame} {meth : Method} {c : Code} {G : GT} {r : Int32} {z : XS} (C : CX G p s m args meth c cX8_busy 3 (some .int) RX8) {k4 : Int32 → Int32 → XS → Option (Int32 × XS)} (hk4 : ∀ (u1 : Int32) (u2 : Int32) (x : XS), k4 u1 u2 x = some (r, z) → ∀ (H : Heap) (locs : List Loc) (ls : Array Slot), SR G x H locs → lv_has ls 3 [(0, .ref (G.1 + 99)), (1, .int u1), (2, .int u2)] → W p l e rmX8_busy s m args below meth c H locs 0 0 (MQ below (QC G (some (.int r)) z) args s 0 0 (AB G)) (F0 m 4 ls [])) : ∀ (u1 : Int32) (u2 : Int32) (x : XS), bX8_busy_h4 k4 u1 u2 x = some (r, z) → ∀ (H : Heap) (locs : List Loc) (ls : Array Slot), SR G x H locs → lv_has ls 3 [(0, .ref (G.1 + 99)), (1, .int u1), (2, .int u2)] → W p l e rmX8_busy s m args below meth c H locs 0 0 (MQ below (QC G (some (.int r)) z) args s 0 0 (AB G)) (F0 m 4 ls []) := by
  intro u1 u2 x hf H locs ls hS hl
  have hx := C.1
  have hb := C.2.1
  have hown := C.2.2.2.2.2.1
  have hw := C.2.2.2.2.2.2.1
  unfold bX8_busy_h4 at hf
  refine lv_iload_n hx hb dX8_busy_4 rfl (lv_at hl 2 rfl) ?_
  refine lv_aload_n hx hb dX8_busy_5 rfl (lv_at hl 0 rfl) ?_
  refine gf7_0 C hS (rfl) g_805 dX8_busy_6 ?_
  refine lv_iconst (v := 1) hx hb dX8_busy_9 (by decide) ?_
  obtain ⟨gg_1, hf⟩ := gd_out hf
  refine alI C hS (rfl) rfl gg_1 dX8_busy_10 ?_
  refine lv_icmp_ge (tgt := 39) hx hb dX8_busy_11 (by decide) (fun c_2 => ?_) (fun c_2 => ?_)
  · replace hf := if_p c_2 hf
    refine lv_iload_n hx hb dX8_busy_39 rfl (lv_at hl 1 rfl) ?_
    exact rtI C hS hf dX8_busy_40
  · replace hf := if_n c_2 hf
    refine lv_iload_n hx hb dX8_busy_14 rfl (lv_at hl 1 rfl) ?_
    refine lv_aload_n hx hb dX8_busy_15 rfl (lv_at hl 0 rfl) ?_
    refine lv_iload_n hx hb dX8_busy_16 rfl (lv_at hl 2 rfl) ?_
    refine lv_iconst (v := 5) hx hb dX8_busy_17 (by decide) ?_
    obtain ⟨r_3, x_4, qr_3, hf⟩ := bd_out hf
    refine rvI (As := [.int u2, .int 5]) (rest := [.int u1]) C hS (rfl) rfl KX8_of (cX8_of_ qr_3) g_938 ⟨rfl, rfl⟩ ⟨(Nat.le_of_ble_eq_true rfl), (Nat.le_of_ble_eq_true rfl)⟩ hl.1 rfl rfl (Nat.le_of_ble_eq_true rfl) ⟨Nat.zero_le _, Nat.zero_le _⟩ dX8_busy_18 (fun H locs hS => ?_)
    refine lv_if_le (tgt := 30) hx hb dX8_busy_21 (by decide) (fun c_5 => ?_) (fun c_5 => ?_)
    · replace hf := if_p c_5 hf
      refine lv_iconst (v := 0) hx hb dX8_busy_30 (by decide) ?_
      refine lv_ior hx hb dX8_busy_31 ?_
      obtain ⟨v_6, ev_6, hf⟩ := st_out hf
      refine topI ev_6 ?_
      refine lv_istore_n (lv' := [(1, .int v_6), (0, .ref (G.1 + 99)), (2, .int u2)]) hx hb dX8_busy_32 rfl hl (by decide) rfl (fun ls hl => ?_)
      obtain ⟨v_7, ev_7, hf⟩ := st_out hf
      refine lv_iinc (v := v_7) (lv' := [(2, .int v_7), (1, .int v_6), (0, .ref (G.1 + 99))]) hx hb dX8_busy_33 hl (k := 2) rfl (by rw [ev_7]; rfl) (by decide) rfl (fun ls hl => ?_)
      refine lv_goto (tgt := 4) hx hb dX8_busy_36 (by decide) ?_
      exact hk4 v_6 v_7 x_4 hf _ _ _ hS (lv_sub hl [2, 1, 0] rfl)
    · replace hf := if_n c_5 hf
      refine lv_iconst (v := 1) hx hb dX8_busy_24 (by decide) ?_
      refine lv_iload_n hx hb dX8_busy_25 rfl (lv_at hl 2 rfl) ?_
      refine lv_ishl hx hb dX8_busy_26 ?_
      obtain ⟨v_8, ev_8, hf⟩ := st_out hf
      refine topI ev_8 ?_
      refine lv_goto (tgt := 31) hx hb dX8_busy_27 (by decide) ?_
      refine lv_ior hx hb dX8_busy_31 ?_
      obtain ⟨v_9, ev_9, hf⟩ := st_out hf
      refine topI ev_9 ?_
      refine lv_istore_n (lv' := [(1, .int v_9), (0, .ref (G.1 + 99)), (2, .int u2)]) hx hb dX8_busy_32 rfl hl (by decide) rfl (fun ls hl => ?_)
      obtain ⟨v_10, ev_10, hf⟩ := st_out hf
      refine lv_iinc (v := v_10) (lv' := [(2, .int v_10), (1, .int v_9), (0, .ref (G.1 + 99))]) hx hb dX8_busy_33 hl (k := 2) rfl (by rw [ev_10]; rfl) (by decide) rfl (fun ls hl => ?_)
      refine lv_goto (tgt := 4) hx hb dX8_busy_36 (by decide) ?_
      exact hk4 v_9 v_10 x_4 hf _ _ _ hS (lv_sub hl [2, 1, 0] rfl)
theorem wlX8_busy_h4 {p : Program} {l : Launch} {e : Env} {s : State} {m : MethodId} {args : Array Value} {below : List Frame} {meth : Method} {c : Code} {G : GT} {r : Int32} {z : XS} (C : CX G p s m args meth c cX8_busy 3 (some .int) RX8) (n : Nat) : ∀ (u1 : Int32) (u2 : Int32) (x : XS), lX8_busy_h4 n u1 u2 x = some (r, z) → ∀ (H : Heap) (locs : List Loc) (ls : Array Slot), SR G x H locs → lv_has ls 3 [(0, .ref (G.1 + 99)), (1, .int u1), (2, .int u2)] → W p l e rmX8_busy s m args below meth c H locs 0 0 (MQ below (QC G (some (.int r)) z) args s 0 0 (AB G)) (F0 m 4 ls []) := by
  induction n with
  | zero => intro u1 u2 x hf H locs ls hS hl; exact absurd hf (by intro q; cases q)
  | succ n ih => exact wbX8_busy_h4 C ih
theorem wX8_busy_h4 {p : Program} {l : Launch} {e : Env} {s : State} {m : MethodId} {args : Array Value} {below : List Frame} {meth : Method} {c : Code} {G : GT} {r : Int32} {z : XS} (C : CX G p s m args meth c cX8_busy 3 (some .int) RX8) : ∀ (u1 : Int32) (u2 : Int32) (x : XS), fX8_busy_h4 u1 u2 x = some (r, z) → ∀ (H : Heap) (locs : List Loc) (ls : Array Slot), SR G x H locs → lv_has ls 3 [(0, .ref (G.1 + 99)), (1, .int u1), (2, .int u2)] → W p l e rmX8_busy s m args below meth c H locs 0 0 (MQ below (QC G (some (.int r)) z) args s 0 0 (AB G)) (F0 m 4 ls []) := wlX8_busy_h4 C FU
set_option maxRecDepth 100000 in
set_option maxHeartbeats 4000000 in
theorem cX8_busy_ {G : GT} {l : Launch} {x z : XS} {r : Int32} (hf : fX8_busy x = some (r, z)) : Ct G l yX8_busy (.code yX8_busy cX8_busy 3 (some .int)) rmX8_busy [.ref (G.1 + 99)] x (some (.int r)) z := by
  refine Ct.of (by decide +kernel) (Nat.le_of_ble_eq_true rfl) ?_
  intro p e s m args below meth c C ls hl hS
  have C : CX G p s m args meth c cX8_busy 3 (some .int) RX8 := C
  have hl : lv_has ls 3 [(0, .ref (G.1 + 99))] := hl
  have hx := C.1
  have hb := C.2.1
  have hown := C.2.2.2.2.2.1
  have hw := C.2.2.2.2.2.2.1
  unfold fX8_busy at hf
  refine lv_iconst (v := 0) hx hb dX8_busy_0 (by decide) ?_
  refine lv_istore_n (lv' := [(1, .int 0), (0, .ref (G.1 + 99))]) hx hb dX8_busy_1 rfl hl (by decide) rfl (fun ls hl => ?_)
  refine lv_iconst (v := 0) hx hb dX8_busy_2 (by decide) ?_
  refine lv_istore_n (lv' := [(2, .int 0), (1, .int 0), (0, .ref (G.1 + 99))]) hx hb dX8_busy_3 rfl hl (by decide) rfl (fun ls hl => ?_)
  exact wX8_busy_h4  C 0 0 x hf _ _ _ hS (lv_sub hl [2, 1, 0] rfl)
abbrev rmX8_street : Room := { frames := 2, cells := 0, slots := 0, locals := 45 }
set_option maxRecDepth 100000 in
set_option maxHeartbeats 4000000 in
theorem cX8_street_ {G : GT} {l : Launch} {v1 : Int32} {x z : XS} {r : Int32} (hf : fX8_street v1 x = some (r, z)) : Ct G l yX8_street (.code yX8_street cX8_street 2 (some .int)) rmX8_street [.ref (G.1 + 99), .int v1] x (some (.int r)) z := by
  refine Ct.of (by decide +kernel) (Nat.le_of_ble_eq_true rfl) ?_
  intro p e s m args below meth c C ls hl hS
  have C : CX G p s m args meth c cX8_street 2 (some .int) RX8 := C
  have hl : lv_has ls 2 [(0, .ref (G.1 + 99)), (1, .int v1)] := hl
  have hx := C.1
  have hb := C.2.1
  have hown := C.2.2.2.2.2.1
  have hw := C.2.2.2.2.2.2.1
  unfold fX8_street at hf
  refine lv_iload_n hx hb dX8_street_0 rfl (lv_at hl 1 rfl) ?_
  by_cases c_1 : v1 = 0
  · replace hf := if_p c_1 hf
    refine tswI (k := 0) (off := 35) (tgt := 36) hx hb dX8_street_1 c_1 (by decide) rfl (by decide) ?_
    refine lv_aload_n hx hb dX8_street_36 rfl (lv_at hl 0 rfl) ?_
    refine lv_iconst (v := 4) hx hb dX8_street_37 (by decide) ?_
    obtain ⟨r_2, x_3, qr_2, hf⟩ := bd_out hf
    refine rvI (As := [.int 4]) (rest := []) C hS (rfl) rfl KX8_sumOf (cX8_sumOf_ qr_2) g_1021 ⟨rfl, rfl⟩ ⟨(Nat.le_of_ble_eq_true rfl), (Nat.le_of_ble_eq_true rfl)⟩ hl.1 rfl rfl (Nat.le_of_ble_eq_true rfl) ⟨Nat.zero_le _, Nat.zero_le _⟩ dX8_street_38 (fun H locs hS => ?_)
    exact rtI C hS hf dX8_street_41
  · replace hf := if_n c_1 hf
    by_cases c_4 : v1 = 1
    · replace hf := if_p c_4 hf
      refine tswI (k := 1) (off := 41) (tgt := 42) hx hb dX8_street_1 c_4 (by decide) rfl (by decide) ?_
      refine lv_aload_n hx hb dX8_street_42 rfl (lv_at hl 0 rfl) ?_
      refine gf7_0 C hS (rfl) g_805 dX8_street_43 ?_
      refine lv_bipush (v := 6) hx hb dX8_street_46 (by decide) ?_
      obtain ⟨gg_5, hf⟩ := gd_out hf
      refine alI C hS (rfl) rfl gg_5 dX8_street_48 ?_
      exact rtI C hS hf dX8_street_49
    · replace hf := if_n c_4 hf
      by_cases c_6 : v1 = 2
      · replace hf := if_p c_6 hf
        refine tswI (k := 2) (off := 49) (tgt := 50) hx hb dX8_street_1 c_6 (by decide) rfl (by decide) ?_
        refine lv_aload_n hx hb dX8_street_50 rfl (lv_at hl 0 rfl) ?_
        refine gf7_0 C hS (rfl) g_805 dX8_street_51 ?_
        refine lv_bipush (v := 7) hx hb dX8_street_54 (by decide) ?_
        obtain ⟨gg_7, hf⟩ := gd_out hf
        refine alI C hS (rfl) rfl gg_7 dX8_street_56 ?_
        exact rtI C hS hf dX8_street_57
      · replace hf := if_n c_6 hf
        by_cases c_8 : v1 = 3
        · replace hf := if_p c_8 hf
          refine tswI (k := 3) (off := 57) (tgt := 58) hx hb dX8_street_1 c_8 (by decide) rfl (by decide) ?_
          refine lv_aload_n hx hb dX8_street_58 rfl (lv_at hl 0 rfl) ?_
          refine lv_bipush (v := 6) hx hb dX8_street_59 (by decide) ?_
          obtain ⟨r_9, x_10, qr_9, hf⟩ := bd_out hf
          refine rvI (As := [.int 6]) (rest := []) C hS (rfl) rfl KX8_sumOf (cX8_sumOf_ qr_9) g_1021 ⟨rfl, rfl⟩ ⟨(Nat.le_of_ble_eq_true rfl), (Nat.le_of_ble_eq_true rfl)⟩ hl.1 rfl rfl (Nat.le_of_ble_eq_true rfl) ⟨Nat.zero_le _, Nat.zero_le _⟩ dX8_street_61 (fun H locs hS => ?_)
          exact rtI C hS hf dX8_street_64
        · replace hf := if_n c_8 hf
          by_cases c_11 : v1 = 4
          · replace hf := if_p c_11 hf
            refine tswI (k := 4) (off := 64) (tgt := 65) hx hb dX8_street_1 c_11 (by decide) rfl (by decide) ?_
            refine lv_aload_n hx hb dX8_street_65 rfl (lv_at hl 0 rfl) ?_
            obtain ⟨r_12, x_13, qr_12, hf⟩ := bd_out hf
            refine rvI (As := []) (rest := []) C hS (rfl) rfl KX8_busy (cX8_busy_ qr_12) g_1052 ⟨rfl, rfl⟩ ⟨(Nat.le_of_ble_eq_true rfl), (Nat.le_of_ble_eq_true rfl)⟩ hl.1 rfl rfl (Nat.le_of_ble_eq_true rfl) ⟨Nat.zero_le _, Nat.zero_le _⟩ dX8_street_66 (fun H locs hS => ?_)
            exact rtI C hS hf dX8_street_69
          · replace hf := if_n c_11 hf
            refine lv_tableOut (tgt := 70) hx hb dX8_street_1 (by have zc_1 := lv_neT c_1 (a := 0) (by decide); have zc_4 := lv_neT c_4 (a := 1) (by decide); have zc_6 := lv_neT c_6 (a := 2) (by decide); have zc_8 := lv_neT c_8 (a := 3) (by decide); have zc_11 := lv_neT c_11 (a := 4) (by decide); omega) (by decide) ?_
            refine lv_ldc (v := (-1000000001)) hx hb hown (hw _ g_920) dX8_street_70 ?_
            exact rtI C hS hf dX8_street_72
abbrev rmX8_goesTo : Room := { frames := 3, cells := 0, slots := 0, locals := 70 }
set_option maxRecDepth 100000 in
set_option maxHeartbeats 4000000 in
theorem cX8_goesTo_ {G : GT} {l : Launch} {v1 : Int32} {v2 : Int32} {x z : XS} {r : Int32} (hf : fX8_goesTo v1 v2 x = some (r, z)) : Ct G l yX8_goesTo (.code yX8_goesTo cX8_goesTo 3 (some .int)) rmX8_goesTo [.ref (G.1 + 99), .int v1, .int v2] x (some (.int r)) z := by
  refine Ct.of (by decide +kernel) (Nat.le_of_ble_eq_true rfl) ?_
  intro p e s m args below meth c C ls hl hS
  have C : CX G p s m args meth c cX8_goesTo 3 (some .int) RX8 := C
  have hl : lv_has ls 3 [(0, .ref (G.1 + 99)), (1, .int v1), (2, .int v2)] := hl
  have hx := C.1
  have hb := C.2.1
  have hown := C.2.2.2.2.2.1
  have hw := C.2.2.2.2.2.2.1
  unfold fX8_goesTo at hf
  refine lv_iload_n hx hb dX8_goesTo_0 rfl (lv_at hl 1 rfl) ?_
  refine lv_iconst (v := 0) hx hb dX8_goesTo_1 (by decide) ?_
  refine lv_bipush (v := 9) hx hb dX8_goesTo_2 (by decide) ?_
  obtain ⟨r_1, x_2, qr_1, hf⟩ := bd_out hf
  refine rsI (As := [.int v1, .int 0, .int 9]) (rest := []) C hS KX8_in (cX8_in_ qr_1) g_914 ⟨rfl, rfl⟩ ⟨(Nat.le_of_ble_eq_true rfl), (Nat.le_of_ble_eq_true rfl)⟩ hl.1 rfl rfl (Nat.le_of_ble_eq_true rfl) ⟨Nat.zero_le _, Nat.zero_le _⟩ dX8_goesTo_4 (fun H locs hS => ?_)
  refine lv_if_eq (tgt := 32) hx hb dX8_goesTo_7 (by decide) (fun c_3 => ?_) (fun c_3 => ?_)
  · replace hf := if_p c_3 hf
    refine lv_ldc (v := (-1000000001)) hx hb hown (hw _ g_920) dX8_goesTo_32 ?_
    exact rtI C hS hf dX8_goesTo_34
  · replace hf := if_n c_3 hf
    refine lv_iload_n hx hb dX8_goesTo_10 rfl (lv_at hl 2 rfl) ?_
    refine lv_iconst (v := 1) hx hb dX8_goesTo_11 (by decide) ?_
    refine lv_bipush (v := 9) hx hb dX8_goesTo_12 (by decide) ?_
    obtain ⟨r_4, x_5, qr_4, hf⟩ := bd_out hf
    refine rsI (As := [.int v2, .int 1, .int 9]) (rest := []) C hS KX8_in (cX8_in_ qr_4) g_914 ⟨rfl, rfl⟩ ⟨(Nat.le_of_ble_eq_true rfl), (Nat.le_of_ble_eq_true rfl)⟩ hl.1 rfl rfl (Nat.le_of_ble_eq_true rfl) ⟨Nat.zero_le _, Nat.zero_le _⟩ dX8_goesTo_14 (fun H locs hS => ?_)
    refine lv_if_eq (tgt := 32) hx hb dX8_goesTo_17 (by decide) (fun c_6 => ?_) (fun c_6 => ?_)
    · replace hf := if_p c_6 hf
      refine lv_ldc (v := (-1000000001)) hx hb hown (hw _ g_920) dX8_goesTo_32 ?_
      exact rtI C hS hf dX8_goesTo_34
    · replace hf := if_n c_6 hf
      refine lv_aload_n hx hb dX8_goesTo_20 rfl (lv_at hl 0 rfl) ?_
      refine lv_iload_n hx hb dX8_goesTo_21 rfl (lv_at hl 1 rfl) ?_
      refine lv_iload_n hx hb dX8_goesTo_22 rfl (lv_at hl 2 rfl) ?_
      obtain ⟨r_7, x_8, qr_7, hf⟩ := bd_out hf
      refine rvI (As := [.int v1, .int v2]) (rest := []) C hS (rfl) rfl KX8_boyFor (cX8_boyFor_ qr_7) g_1037 ⟨rfl, rfl⟩ ⟨(Nat.le_of_ble_eq_true rfl), (Nat.le_of_ble_eq_true rfl)⟩ hl.1 rfl rfl (Nat.le_of_ble_eq_true rfl) ⟨Nat.zero_le _, Nat.zero_le _⟩ dX8_goesTo_23 (fun H locs hS => ?_)
      obtain ⟨r_9, x_10, qr_9, hf⟩ := bd_out hf
      refine rsI (As := [.int r_7]) (rest := []) C hS KX8_told0 (cX8_told0_ qr_9) g_1060 ⟨rfl, rfl⟩ ⟨(Nat.le_of_ble_eq_true rfl), (Nat.le_of_ble_eq_true rfl)⟩ hl.1 rfl rfl (Nat.le_of_ble_eq_true rfl) ⟨Nat.zero_le _, Nat.zero_le _⟩ dX8_goesTo_26 (fun H locs hS => ?_)
      refine lv_goto (tgt := 34) hx hb dX8_goesTo_29 (by decide) ?_
      exact rtI C hS hf dX8_goesTo_34
abbrev rmX8_thinks : Room := { frames := 0, cells := 0, slots := 0, locals := 0 }
set_option maxRecDepth 100000 in
set_option maxHeartbeats 4000000 in
theorem wbX8_thinks_h2 {p : Program} {l : Launch} {e : Env} {s : State} {m : MethodId} {args : Array Value} {below : List Frame} {meth : Method} {c : Code} {G : GT} {r : Unit} {z : XS} (C : CX G p s m args meth c cX8_thinks 2 none RX8) {k2 : Int32 → XS → Option (Unit × XS)} (hk2 : ∀ (u1 : Int32) (x : XS), k2 u1 x = some (r, z) → ∀ (H : Heap) (locs : List Loc) (ls : Array Slot), SR G x H locs → lv_has ls 2 [(0, .ref (G.1 + 99)), (1, .int u1)] → W p l e rmX8_thinks s m args below meth c H locs 0 0 (MQ below (QC G none z) args s 0 0 (AB G)) (F0 m 2 ls [])) : ∀ (u1 : Int32) (x : XS), bX8_thinks_h2 k2 u1 x = some (r, z) → ∀ (H : Heap) (locs : List Loc) (ls : Array Slot), SR G x H locs → lv_has ls 2 [(0, .ref (G.1 + 99)), (1, .int u1)] → W p l e rmX8_thinks s m args below meth c H locs 0 0 (MQ below (QC G none z) args s 0 0 (AB G)) (F0 m 2 ls []) := by
  intro u1 x hf H locs ls hS hl
  have hx := C.1
  have hb := C.2.1
  have hown := C.2.2.2.2.2.1
  have hw := C.2.2.2.2.2.2.1
  unfold bX8_thinks_h2 at hf
  refine lv_iload_n hx hb dX8_thinks_2 rfl (lv_at hl 1 rfl) ?_
  refine lv_bipush (v := 65) hx hb dX8_thinks_3 (by decide) ?_
  refine lv_icmp_ge (tgt := 26) hx hb dX8_thinks_5 (by decide) (fun c_1 => ?_) (fun c_1 => ?_)
  · replace hf := if_p c_1 hf
    exact rtV C hS (r := ()) hf dX8_thinks_26
  · replace hf := if_n c_1 hf
    refine lv_aload_n hx hb dX8_thinks_8 rfl (lv_at hl 0 rfl) ?_
    refine gf7_5 C hS (rfl) g_810 dX8_thinks_9 ?_
    refine lv_iload_n hx hb dX8_thinks_12 rfl (lv_at hl 1 rfl) ?_
    refine lv_aload_n hx hb dX8_thinks_13 rfl (lv_at hl 0 rfl) ?_
    refine gf7_0 C hS (rfl) g_805 dX8_thinks_14 ?_
    refine lv_iload_n hx hb dX8_thinks_17 rfl (lv_at hl 1 rfl) ?_
    obtain ⟨gg_2, hf⟩ := gd_out hf
    refine alI C hS (rfl) rfl gg_2 dX8_thinks_18 ?_
    obtain ⟨gg_3, hf⟩ := gd_out hf
    obtain ⟨x_4, ex_4, hf⟩ := st_out hf
    refine asI C hS (rfl) rfl gg_3 ex_4 dX8_thinks_19 (fun H locs hS => ?_)
    obtain ⟨v_5, ev_5, hf⟩ := st_out hf
    refine lv_iinc (v := v_5) (lv' := [(1, .int v_5), (0, .ref (G.1 + 99))]) hx hb dX8_thinks_20 hl (k := 1) rfl (by rw [ev_5]; rfl) (by decide) rfl (fun ls hl => ?_)
    refine lv_goto (tgt := 2) hx hb dX8_thinks_23 (by decide) ?_
    exact hk2 v_5 x_4 hf _ _ _ hS (lv_sub hl [1, 0] rfl)
theorem wlX8_thinks_h2 {p : Program} {l : Launch} {e : Env} {s : State} {m : MethodId} {args : Array Value} {below : List Frame} {meth : Method} {c : Code} {G : GT} {r : Unit} {z : XS} (C : CX G p s m args meth c cX8_thinks 2 none RX8) (n : Nat) : ∀ (u1 : Int32) (x : XS), lX8_thinks_h2 n u1 x = some (r, z) → ∀ (H : Heap) (locs : List Loc) (ls : Array Slot), SR G x H locs → lv_has ls 2 [(0, .ref (G.1 + 99)), (1, .int u1)] → W p l e rmX8_thinks s m args below meth c H locs 0 0 (MQ below (QC G none z) args s 0 0 (AB G)) (F0 m 2 ls []) := by
  induction n with
  | zero => intro u1 x hf H locs ls hS hl; exact absurd hf (by intro q; cases q)
  | succ n ih => exact wbX8_thinks_h2 C ih
theorem wX8_thinks_h2 {p : Program} {l : Launch} {e : Env} {s : State} {m : MethodId} {args : Array Value} {below : List Frame} {meth : Method} {c : Code} {G : GT} {r : Unit} {z : XS} (C : CX G p s m args meth c cX8_thinks 2 none RX8) : ∀ (u1 : Int32) (x : XS), fX8_thinks_h2 u1 x = some (r, z) → ∀ (H : Heap) (locs : List Loc) (ls : Array Slot), SR G x H locs → lv_has ls 2 [(0, .ref (G.1 + 99)), (1, .int u1)] → W p l e rmX8_thinks s m args below meth c H locs 0 0 (MQ below (QC G none z) args s 0 0 (AB G)) (F0 m 2 ls []) := wlX8_thinks_h2 C FU
set_option maxRecDepth 100000 in
set_option maxHeartbeats 4000000 in
theorem cX8_thinks_ {G : GT} {l : Launch} {x z : XS} {r : Unit} (hf : fX8_thinks x = some (r, z)) : Ct G l yX8_thinks (.code yX8_thinks cX8_thinks 2 none) rmX8_thinks [.ref (G.1 + 99)] x none z := by
  refine Ct.of (by decide +kernel) (Nat.le_of_ble_eq_true rfl) ?_
  intro p e s m args below meth c C ls hl hS
  have C : CX G p s m args meth c cX8_thinks 2 none RX8 := C
  have hl : lv_has ls 2 [(0, .ref (G.1 + 99))] := hl
  have hx := C.1
  have hb := C.2.1
  have hown := C.2.2.2.2.2.1
  have hw := C.2.2.2.2.2.2.1
  unfold fX8_thinks at hf
  refine lv_iconst (v := 0) hx hb dX8_thinks_0 (by decide) ?_
  refine lv_istore_n (lv' := [(1, .int 0), (0, .ref (G.1 + 99))]) hx hb dX8_thinks_1 rfl hl (by decide) rfl (fun ls hl => ?_)
  exact wX8_thinks_h2  C 0 x hf _ _ _ hS (lv_sub hl [1, 0] rfl)
abbrev rmX8_putsBack : Room := { frames := 0, cells := 0, slots := 0, locals := 0 }
set_option maxRecDepth 100000 in
set_option maxHeartbeats 4000000 in
theorem wbX8_putsBack_h2 {p : Program} {l : Launch} {e : Env} {s : State} {m : MethodId} {args : Array Value} {below : List Frame} {meth : Method} {c : Code} {G : GT} {r : Unit} {z : XS} (C : CX G p s m args meth c cX8_putsBack 2 none RX8) {k2 : Int32 → XS → Option (Unit × XS)} (hk2 : ∀ (u1 : Int32) (x : XS), k2 u1 x = some (r, z) → ∀ (H : Heap) (locs : List Loc) (ls : Array Slot), SR G x H locs → lv_has ls 2 [(0, .ref (G.1 + 99)), (1, .int u1)] → W p l e rmX8_putsBack s m args below meth c H locs 0 0 (MQ below (QC G none z) args s 0 0 (AB G)) (F0 m 2 ls [])) : ∀ (u1 : Int32) (x : XS), bX8_putsBack_h2 k2 u1 x = some (r, z) → ∀ (H : Heap) (locs : List Loc) (ls : Array Slot), SR G x H locs → lv_has ls 2 [(0, .ref (G.1 + 99)), (1, .int u1)] → W p l e rmX8_putsBack s m args below meth c H locs 0 0 (MQ below (QC G none z) args s 0 0 (AB G)) (F0 m 2 ls []) := by
  intro u1 x hf H locs ls hS hl
  have hx := C.1
  have hb := C.2.1
  have hown := C.2.2.2.2.2.1
  have hw := C.2.2.2.2.2.2.1
  unfold bX8_putsBack_h2 at hf
  refine lv_iload_n hx hb dX8_putsBack_2 rfl (lv_at hl 1 rfl) ?_
  refine lv_bipush (v := 65) hx hb dX8_putsBack_3 (by decide) ?_
  refine lv_icmp_ge (tgt := 26) hx hb dX8_putsBack_5 (by decide) (fun c_1 => ?_) (fun c_1 => ?_)
  · replace hf := if_p c_1 hf
    refine lv_aload_n hx hb dX8_putsBack_26 rfl (lv_at hl 0 rfl) ?_
    refine lv_iconst (v := (-1)) hx hb dX8_putsBack_27 (by decide) ?_
    obtain ⟨x_2, ex_2, hf⟩ := st_out hf
    refine pf7_4 C hS (rfl) g_809 ex_2 dX8_putsBack_28 (fun H locs hS => ?_)
    exact rtV C hS (r := ()) hf dX8_putsBack_31
  · replace hf := if_n c_1 hf
    refine lv_aload_n hx hb dX8_putsBack_8 rfl (lv_at hl 0 rfl) ?_
    refine gf7_0 C hS (rfl) g_805 dX8_putsBack_9 ?_
    refine lv_iload_n hx hb dX8_putsBack_12 rfl (lv_at hl 1 rfl) ?_
    refine lv_aload_n hx hb dX8_putsBack_13 rfl (lv_at hl 0 rfl) ?_
    refine gf7_5 C hS (rfl) g_810 dX8_putsBack_14 ?_
    refine lv_iload_n hx hb dX8_putsBack_17 rfl (lv_at hl 1 rfl) ?_
    obtain ⟨gg_3, hf⟩ := gd_out hf
    refine alI C hS (rfl) rfl gg_3 dX8_putsBack_18 ?_
    obtain ⟨gg_4, hf⟩ := gd_out hf
    obtain ⟨x_5, ex_5, hf⟩ := st_out hf
    refine asI C hS (rfl) rfl gg_4 ex_5 dX8_putsBack_19 (fun H locs hS => ?_)
    obtain ⟨v_6, ev_6, hf⟩ := st_out hf
    refine lv_iinc (v := v_6) (lv' := [(1, .int v_6), (0, .ref (G.1 + 99))]) hx hb dX8_putsBack_20 hl (k := 1) rfl (by rw [ev_6]; rfl) (by decide) rfl (fun ls hl => ?_)
    refine lv_goto (tgt := 2) hx hb dX8_putsBack_23 (by decide) ?_
    exact hk2 v_6 x_5 hf _ _ _ hS (lv_sub hl [1, 0] rfl)
theorem wlX8_putsBack_h2 {p : Program} {l : Launch} {e : Env} {s : State} {m : MethodId} {args : Array Value} {below : List Frame} {meth : Method} {c : Code} {G : GT} {r : Unit} {z : XS} (C : CX G p s m args meth c cX8_putsBack 2 none RX8) (n : Nat) : ∀ (u1 : Int32) (x : XS), lX8_putsBack_h2 n u1 x = some (r, z) → ∀ (H : Heap) (locs : List Loc) (ls : Array Slot), SR G x H locs → lv_has ls 2 [(0, .ref (G.1 + 99)), (1, .int u1)] → W p l e rmX8_putsBack s m args below meth c H locs 0 0 (MQ below (QC G none z) args s 0 0 (AB G)) (F0 m 2 ls []) := by
  induction n with
  | zero => intro u1 x hf H locs ls hS hl; exact absurd hf (by intro q; cases q)
  | succ n ih => exact wbX8_putsBack_h2 C ih
theorem wX8_putsBack_h2 {p : Program} {l : Launch} {e : Env} {s : State} {m : MethodId} {args : Array Value} {below : List Frame} {meth : Method} {c : Code} {G : GT} {r : Unit} {z : XS} (C : CX G p s m args meth c cX8_putsBack 2 none RX8) : ∀ (u1 : Int32) (x : XS), fX8_putsBack_h2 u1 x = some (r, z) → ∀ (H : Heap) (locs : List Loc) (ls : Array Slot), SR G x H locs → lv_has ls 2 [(0, .ref (G.1 + 99)), (1, .int u1)] → W p l e rmX8_putsBack s m args below meth c H locs 0 0 (MQ below (QC G none z) args s 0 0 (AB G)) (F0 m 2 ls []) := wlX8_putsBack_h2 C FU
set_option maxRecDepth 100000 in
set_option maxHeartbeats 4000000 in
theorem cX8_putsBack_ {G : GT} {l : Launch} {x z : XS} {r : Unit} (hf : fX8_putsBack x = some (r, z)) : Ct G l yX8_putsBack (.code yX8_putsBack cX8_putsBack 2 none) rmX8_putsBack [.ref (G.1 + 99)] x none z := by
  refine Ct.of (by decide +kernel) (Nat.le_of_ble_eq_true rfl) ?_
  intro p e s m args below meth c C ls hl hS
  have C : CX G p s m args meth c cX8_putsBack 2 none RX8 := C
  have hl : lv_has ls 2 [(0, .ref (G.1 + 99))] := hl
  have hx := C.1
  have hb := C.2.1
  have hown := C.2.2.2.2.2.1
  have hw := C.2.2.2.2.2.2.1
  unfold fX8_putsBack at hf
  refine lv_iconst (v := 0) hx hb dX8_putsBack_0 (by decide) ?_
  refine lv_istore_n (lv' := [(1, .int 0), (0, .ref (G.1 + 99))]) hx hb dX8_putsBack_1 rfl hl (by decide) rfl (fun ls hl => ?_)
  exact wX8_putsBack_h2  C 0 x hf _ _ _ hS (lv_sub hl [1, 0] rfl)
abbrev rmX8_behind : Room := { frames := 8, cells := 0, slots := 0, locals := 188 }
set_option maxRecDepth 100000 in
set_option maxHeartbeats 4000000 in
theorem wX8_behind_h33 {p : Program} {l : Launch} {e : Env} {s : State} {m : MethodId} {args : Array Value} {below : List Frame} {meth : Method} {c : Code} {G : GT} {r : Int32} {z : XS} (C : CX G p s m args meth c cX8_behind 4 (some .int) RX8) : ∀ (u1 : Int32) (u2 : Int32) (x : XS), fX8_behind_h33 u1 u2 x = some (r, z) → ∀ (H : Heap) (locs : List Loc) (ls : Array Slot), SR G x H locs → lv_has ls 4 [(0, .ref (G.1 + 99)), (1, .int u1), (2, .int u2)] → W p l e rmX8_behind s m args below meth c H locs 0 0 (MQ below (QC G (some (.int r)) z) args s 0 0 (AB G)) (F0 m 33 ls []) := by
  intro u1 u2 x hf H locs ls hS hl
  have hx := C.1
  have hb := C.2.1
  have hown := C.2.2.2.2.2.1
  have hw := C.2.2.2.2.2.2.1
  unfold fX8_behind_h33 at hf
  refine lv_aload_n hx hb dX8_behind_33 rfl (lv_at hl 0 rfl) ?_
  obtain ⟨r_9, x_10, qr_9, hf⟩ := bd_out hf
  refine rvV (As := []) (rest := []) C hS (rfl) rfl KX8_thinks (cX8_thinks_ qr_9) g_1068 ⟨rfl, rfl⟩ ⟨(Nat.le_of_ble_eq_true rfl), (Nat.le_of_ble_eq_true rfl)⟩ hl.1 rfl rfl (Nat.le_of_ble_eq_true rfl) ⟨Nat.zero_le _, Nat.zero_le _⟩ dX8_behind_34 (fun H locs hS => ?_)
  refine lv_aload_n hx hb dX8_behind_37 rfl (lv_at hl 0 rfl) ?_
  refine lv_iload_n hx hb dX8_behind_38 rfl (lv_at hl 1 rfl) ?_
  obtain ⟨r_11, x_12, qr_11, hf⟩ := bd_out hf
  refine rvV (As := [.int u1]) (rest := []) C hS (rfl) rfl KX8_goesOn (cX8_goesOn_ qr_11) g_1025 ⟨rfl, rfl⟩ ⟨(Nat.le_of_ble_eq_true rfl), (Nat.le_of_ble_eq_true rfl)⟩ hl.1 rfl rfl (Nat.le_of_ble_eq_true rfl) ⟨Nat.zero_le _, Nat.zero_le _⟩ dX8_behind_39 (fun H locs hS => ?_)
  refine lv_iload_n hx hb dX8_behind_42 rfl (lv_at hl 2 rfl) ?_
  refine lv_iconst (v := 2) hx hb dX8_behind_43 (by decide) ?_
  refine lv_icmp_le (tgt := 58) hx hb dX8_behind_44 (by decide) (fun c_13 => ?_) (fun c_13 => ?_)
  · replace hf := if_p c_13 hf
    refine lv_aload_n hx hb dX8_behind_58 rfl (lv_at hl 0 rfl) ?_
    refine lv_iload_n hx hb dX8_behind_59 rfl (lv_at hl 2 rfl) ?_
    obtain ⟨r_14, x_15, qr_14, hf⟩ := bd_out hf
    refine rvI (As := [.int u2]) (rest := []) C hS (rfl) rfl KX8_street (cX8_street_ qr_14) g_1072 ⟨rfl, rfl⟩ ⟨(Nat.le_of_ble_eq_true rfl), (Nat.le_of_ble_eq_true rfl)⟩ hl.1 rfl rfl (Nat.le_of_ble_eq_true rfl) ⟨Nat.zero_le _, Nat.zero_le _⟩ dX8_behind_60 (fun H locs hS => ?_)
    refine lv_istore_n (lv' := [(3, .int r_14), (0, .ref (G.1 + 99)), (1, .int u1), (2, .int u2)]) hx hb dX8_behind_63 rfl hl (by decide) rfl (fun ls hl => ?_)
    refine lv_aload_n hx hb dX8_behind_64 rfl (lv_at hl 1 rfl) ?_
    obtain ⟨r_16, x_17, qr_16, hf⟩ := bd_out hf
    refine rvV (As := []) (rest := []) C hS (rfl) rfl KX8_putsBack (cX8_putsBack_ qr_16) g_1073 ⟨rfl, rfl⟩ ⟨(Nat.le_of_ble_eq_true rfl), (Nat.le_of_ble_eq_true rfl)⟩ hl.1 rfl rfl (Nat.le_of_ble_eq_true rfl) ⟨Nat.zero_le _, Nat.zero_le _⟩ dX8_behind_65 (fun H locs hS => ?_)
    refine lv_iload_n hx hb dX8_behind_68 rfl (lv_at hl 0 rfl) ?_
    exact rtI C hS hf dX8_behind_69
  · replace hf := if_n c_13 hf
    refine lv_aload_n hx hb dX8_behind_47 rfl (lv_at hl 0 rfl) ?_
    refine lv_iload_n hx hb dX8_behind_48 rfl (lv_at hl 2 rfl) ?_
    refine lv_iconst (v := 3) hx hb dX8_behind_49 (by decide) ?_
    refine lv_isub hx hb dX8_behind_50 ?_
    refine lv_iconst (v := 4) hx hb dX8_behind_51 (by decide) ?_
    obtain ⟨r_18, x_19, qr_18, hf⟩ := bd_out hf
    refine rvI (As := [.int (u2 - 3), .int 4]) (rest := []) C hS (rfl) rfl KX8_of (cX8_of_ qr_18) g_938 ⟨rfl, rfl⟩ ⟨(Nat.le_of_ble_eq_true rfl), (Nat.le_of_ble_eq_true rfl)⟩ hl.1 rfl rfl (Nat.le_of_ble_eq_true rfl) ⟨Nat.zero_le _, Nat.zero_le _⟩ dX8_behind_52 (fun H locs hS => ?_)
    refine lv_goto (tgt := 63) hx hb dX8_behind_55 (by decide) ?_
    refine lv_istore_n (lv' := [(3, .int r_18), (0, .ref (G.1 + 99)), (1, .int u1), (2, .int u2)]) hx hb dX8_behind_63 rfl hl (by decide) rfl (fun ls hl => ?_)
    refine lv_aload_n hx hb dX8_behind_64 rfl (lv_at hl 1 rfl) ?_
    obtain ⟨r_20, x_21, qr_20, hf⟩ := bd_out hf
    refine rvV (As := []) (rest := []) C hS (rfl) rfl KX8_putsBack (cX8_putsBack_ qr_20) g_1073 ⟨rfl, rfl⟩ ⟨(Nat.le_of_ble_eq_true rfl), (Nat.le_of_ble_eq_true rfl)⟩ hl.1 rfl rfl (Nat.le_of_ble_eq_true rfl) ⟨Nat.zero_le _, Nat.zero_le _⟩ dX8_behind_65 (fun H locs hS => ?_)
    refine lv_iload_n hx hb dX8_behind_68 rfl (lv_at hl 0 rfl) ?_
    exact rtI C hS hf dX8_behind_69
set_option maxRecDepth 100000 in
set_option maxHeartbeats 4000000 in
theorem cX8_behind_ {G : GT} {l : Launch} {v1 : Int32} {v2 : Int32} {x z : XS} {r : Int32} (hf : fX8_behind v1 v2 x = some (r, z)) : Ct G l yX8_behind (.code yX8_behind cX8_behind 4 (some .int)) rmX8_behind [.ref (G.1 + 99), .int v1, .int v2] x (some (.int r)) z := by
  refine Ct.of (by decide +kernel) (Nat.le_of_ble_eq_true rfl) ?_
  intro p e s m args below meth c C ls hl hS
  have C : CX G p s m args meth c cX8_behind 4 (some .int) RX8 := C
  have hl : lv_has ls 4 [(0, .ref (G.1 + 99)), (1, .int v1), (2, .int v2)] := hl
  have hx := C.1
  have hb := C.2.1
  have hown := C.2.2.2.2.2.1
  have hw := C.2.2.2.2.2.2.1
  unfold fX8_behind at hf
  refine lv_iload_n hx hb dX8_behind_0 rfl (lv_at hl 1 rfl) ?_
  refine lv_iconst (v := 0) hx hb dX8_behind_1 (by decide) ?_
  refine lv_sipush (v := 300) hx hb dX8_behind_2 (by decide) ?_
  obtain ⟨r_1, x_2, qr_1, hf⟩ := bd_out hf
  refine rsI (As := [.int v1, .int 0, .int 300]) (rest := []) C hS KX8_in (cX8_in_ qr_1) g_914 ⟨rfl, rfl⟩ ⟨(Nat.le_of_ble_eq_true rfl), (Nat.le_of_ble_eq_true rfl)⟩ hl.1 rfl rfl (Nat.le_of_ble_eq_true rfl) ⟨Nat.zero_le _, Nat.zero_le _⟩ dX8_behind_5 (fun H locs hS => ?_)
  refine lv_if_eq (tgt := 30) hx hb dX8_behind_8 (by decide) (fun c_3 => ?_) (fun c_3 => ?_)
  · replace hf := if_p c_3 hf
    refine lv_ldc (v := (-1000000001)) hx hb hown (hw _ g_920) dX8_behind_30 ?_
    exact rtI C hS hf dX8_behind_32
  · replace hf := if_n c_3 hf
    refine lv_iload_n hx hb dX8_behind_11 rfl (lv_at hl 2 rfl) ?_
    refine lv_if_lt (tgt := 30) hx hb dX8_behind_12 (by decide) (fun c_4 => ?_) (fun c_4 => ?_)
    · replace hf := if_p c_4 hf
      refine lv_ldc (v := (-1000000001)) hx hb hown (hw _ g_920) dX8_behind_30 ?_
      exact rtI C hS hf dX8_behind_32
    · replace hf := if_n c_4 hf
      refine lv_iload_n hx hb dX8_behind_15 rfl (lv_at hl 2 rfl) ?_
      refine lv_iconst (v := 2) hx hb dX8_behind_16 (by decide) ?_
      refine lv_icmp_le (tgt := 33) hx hb dX8_behind_17 (by decide) (fun c_5 => ?_) (fun c_5 => ?_)
      · replace hf := if_p c_5 hf
        exact wX8_behind_h33  C v1 v2 x_2 hf _ _ _ hS (lv_sub hl [0, 1, 2] rfl)
      · replace hf := if_n c_5 hf
        refine lv_aload_n hx hb dX8_behind_20 rfl (lv_at hl 0 rfl) ?_
        refine lv_iload_n hx hb dX8_behind_21 rfl (lv_at hl 2 rfl) ?_
        refine lv_iconst (v := 3) hx hb dX8_behind_22 (by decide) ?_
        refine lv_isub hx hb dX8_behind_23 ?_
        obtain ⟨r_6, x_7, qr_6, hf⟩ := bd_out hf
        refine rvI (As := [.int (v2 - 3)]) (rest := []) C hS (rfl) rfl KX8_isBoy (cX8_isBoy_ qr_6) g_934 ⟨rfl, rfl⟩ ⟨(Nat.le_of_ble_eq_true rfl), (Nat.le_of_ble_eq_true rfl)⟩ hl.1 rfl rfl (Nat.le_of_ble_eq_true rfl) ⟨Nat.zero_le _, Nat.zero_le _⟩ dX8_behind_24 (fun H locs hS => ?_)
        refine lv_if_ne (tgt := 33) hx hb dX8_behind_27 (by decide) (fun c_8 => ?_) (fun c_8 => ?_)
        · replace hf := if_n c_8 hf
          exact wX8_behind_h33  C v1 v2 x_7 hf _ _ _ hS (lv_sub hl [0, 1, 2] rfl)
        · replace hf := if_p c_8 hf
          refine lv_ldc (v := (-1000000001)) hx hb hown (hw _ g_920) dX8_behind_30 ?_
          exact rtI C hS hf dX8_behind_32
abbrev rmX8_best : Room := { frames := 8, cells := 0, slots := 0, locals := 188 }
set_option maxRecDepth 100000 in
set_option maxHeartbeats 4000000 in
theorem wbX8_best_h105 {p : Program} {l : Launch} {e : Env} {s : State} {m : MethodId} {args : Array Value} {below : List Frame} {meth : Method} {c : Code} {G : GT} {r : Int32} {z : XS} (C : CX G p s m args meth c cX8_best 11 (some .int) RX8) {k105 : Int32 → Int32 → Int32 → Int32 → Int32 → Int32 → Int32 → Int32 → XS → Option (Int32 × XS)} (hk105 : ∀ (u1 : Int32) (u3 : Int32) (u4 : Int32) (u5 : Int32) (u6 : Int32) (u7 : Int32) (u8 : Int32) (u9 : Int32) (x : XS), k105 u1 u3 u4 u5 u6 u7 u8 u9 x = some (r, z) → ∀ (H : Heap) (locs : List Loc) (ls : Array Slot), SR G x H locs → lv_has ls 11 [(0, .ref (G.1 + 99)), (1, .int u1), (3, .int u3), (4, .int u4), (5, .int u5), (6, .int u6), (7, .int u7), (8, .int u8), (9, .int u9)] → W p l e rmX8_best s m args below meth c H locs 0 0 (MQ below (QC G (some (.int r)) z) args s 0 0 (AB G)) (F0 m 105 ls [])) : ∀ (u1 : Int32) (u3 : Int32) (u4 : Int32) (u5 : Int32) (u6 : Int32) (u7 : Int32) (u8 : Int32) (u9 : Int32) (x : XS), bX8_best_h105 k105 u1 u3 u4 u5 u6 u7 u8 u9 x = some (r, z) → ∀ (H : Heap) (locs : List Loc) (ls : Array Slot), SR G x H locs → lv_has ls 11 [(0, .ref (G.1 + 99)), (1, .int u1), (3, .int u3), (4, .int u4), (5, .int u5), (6, .int u6), (7, .int u7), (8, .int u8), (9, .int u9)] → W p l e rmX8_best s m args below meth c H locs 0 0 (MQ below (QC G (some (.int r)) z) args s 0 0 (AB G)) (F0 m 105 ls []) := by
  intro u1 u3 u4 u5 u6 u7 u8 u9 x hf H locs ls hS hl
  have hx := C.1
  have hb := C.2.1
  have hown := C.2.2.2.2.2.1
  have hw := C.2.2.2.2.2.2.1
  unfold bX8_best_h105 at hf
  refine lv_iload hx hb dX8_best_105 (lv_at hl 8 rfl) ?_
  refine lv_iload hx hb dX8_best_107 (lv_at hl 5 rfl) ?_
  refine lv_icmp_gt (tgt := 164) hx hb dX8_best_109 (by decide) (fun c_20 => ?_) (fun c_20 => ?_)
  · replace hf := if_p c_20 hf
    refine lv_iload hx hb dX8_best_164 (lv_at hl 3 rfl) ?_
    refine lv_if_ne (tgt := 174) hx hb dX8_best_166 (by decide) (fun c_21 => ?_) (fun c_21 => ?_)
    · replace hf := if_n c_21 hf
      refine lv_iload hx hb dX8_best_174 (lv_at hl 7 rfl) ?_
      exact rtI C hS hf dX8_best_176
    · replace hf := if_p c_21 hf
      refine lv_iload hx hb dX8_best_169 (lv_at hl 6 rfl) ?_
      refine lv_goto (tgt := 176) hx hb dX8_best_171 (by decide) ?_
      exact rtI C hS hf dX8_best_176
  · replace hf := if_n c_20 hf
    refine lv_aload_n hx hb dX8_best_112 rfl (lv_at hl 0 rfl) ?_
    refine lv_iload_n hx hb dX8_best_113 rfl (lv_at hl 1 rfl) ?_
    refine lv_iload hx hb dX8_best_114 (lv_at hl 4 rfl) ?_
    refine lv_iload hx hb dX8_best_116 (lv_at hl 8 rfl) ?_
    obtain ⟨r_22, x_23, qr_22, hf⟩ := bd_out hf
    refine rvV (As := [.int u1, .int u5, .int u9]) (rest := []) C hS (rfl) rfl KX8_put (cX8_put_ qr_22) g_926 ⟨rfl, rfl⟩ ⟨(Nat.le_of_ble_eq_true rfl), (Nat.le_of_ble_eq_true rfl)⟩ hl.1 rfl rfl (Nat.le_of_ble_eq_true rfl) ⟨Nat.zero_le _, Nat.zero_le _⟩ dX8_best_118 (fun H locs hS => ?_)
    refine lv_aload_n hx hb dX8_best_121 rfl (lv_at hl 0 rfl) ?_
    refine lv_iload_n hx hb dX8_best_122 rfl (lv_at hl 2 rfl) ?_
    obtain ⟨r_24, x_25, qr_24, hf⟩ := bd_out hf
    refine rvV (As := [.int u3]) (rest := []) C hS (rfl) rfl KX8_goesOn (cX8_goesOn_ qr_24) g_1025 ⟨rfl, rfl⟩ ⟨(Nat.le_of_ble_eq_true rfl), (Nat.le_of_ble_eq_true rfl)⟩ hl.1 rfl rfl (Nat.le_of_ble_eq_true rfl) ⟨Nat.zero_le _, Nat.zero_le _⟩ dX8_best_123 (fun H locs hS => ?_)
    refine lv_aload_n hx hb dX8_best_126 rfl (lv_at hl 0 rfl) ?_
    refine lv_iload_n hx hb dX8_best_127 rfl (lv_at hl 1 rfl) ?_
    refine lv_iconst (v := 4) hx hb dX8_best_128 (by decide) ?_
    obtain ⟨r_26, x_27, qr_26, hf⟩ := bd_out hf
    refine rvI (As := [.int u1, .int 4]) (rest := []) C hS (rfl) rfl KX8_of (cX8_of_ qr_26) g_938 ⟨rfl, rfl⟩ ⟨(Nat.le_of_ble_eq_true rfl), (Nat.le_of_ble_eq_true rfl)⟩ hl.1 rfl rfl (Nat.le_of_ble_eq_true rfl) ⟨Nat.zero_le _, Nat.zero_le _⟩ dX8_best_129 (fun H locs hS => ?_)
    refine lv_istore (lv' := [(10, .int r_26), (0, .ref (G.1 + 99)), (1, .int u1), (3, .int u3), (4, .int u4), (5, .int u5), (6, .int u6), (7, .int u7), (8, .int u8), (9, .int u9)]) hx hb dX8_best_132 hl (by decide) rfl (fun ls hl => ?_)
    refine lv_aload_n hx hb dX8_best_134 rfl (lv_at hl 1 rfl) ?_
    obtain ⟨r_28, x_29, qr_28, hf⟩ := bd_out hf
    refine rvV (As := []) (rest := []) C hS (rfl) rfl KX8_putsBack (cX8_putsBack_ qr_28) g_1073 ⟨rfl, rfl⟩ ⟨(Nat.le_of_ble_eq_true rfl), (Nat.le_of_ble_eq_true rfl)⟩ hl.1 rfl rfl (Nat.le_of_ble_eq_true rfl) ⟨Nat.zero_le _, Nat.zero_le _⟩ dX8_best_135 (fun H locs hS => ?_)
    refine lv_iload hx hb dX8_best_138 (lv_at hl 7 rfl) ?_
    refine lv_if_lt (tgt := 150) hx hb dX8_best_140 (by decide) (fun c_30 => ?_) (fun c_30 => ?_)
    · replace hf := if_p c_30 hf
      refine lv_iload hx hb dX8_best_150 (lv_at hl 9 rfl) ?_
      refine lv_istore (lv' := [(7, .int u9), (10, .int r_26), (0, .ref (G.1 + 99)), (1, .int u1), (3, .int u3), (4, .int u4), (5, .int u5), (6, .int u6), (8, .int u8), (9, .int u9)]) hx hb dX8_best_152 hl (by decide) rfl (fun ls hl => ?_)
      refine lv_iload hx hb dX8_best_154 (lv_at hl 1 rfl) ?_
      refine lv_istore (lv' := [(8, .int r_26), (7, .int u9), (10, .int r_26), (0, .ref (G.1 + 99)), (1, .int u1), (3, .int u3), (4, .int u4), (5, .int u5), (6, .int u6), (9, .int u9)]) hx hb dX8_best_156 hl (by decide) rfl (fun ls hl => ?_)
      obtain ⟨v_31, ev_31, hf⟩ := st_out hf
      refine lv_iinc (v := v_31) (lv' := [(9, .int v_31), (8, .int r_26), (7, .int u9), (10, .int r_26), (0, .ref (G.1 + 99)), (1, .int u1), (3, .int u3), (4, .int u4), (5, .int u5), (6, .int u6)]) hx hb dX8_best_158 hl (k := 9) rfl (by rw [ev_31]; rfl) (by decide) rfl (fun ls hl => ?_)
      refine lv_goto (tgt := 105) hx hb dX8_best_161 (by decide) ?_
      exact hk105 u1 u3 u4 u5 u6 u9 r_26 v_31 x_29 hf _ _ _ hS (lv_sub hl [4, 5, 6, 7, 8, 9, 2, 1, 0] rfl)
    · replace hf := if_n c_30 hf
      refine lv_iload hx hb dX8_best_143 (lv_at hl 0 rfl) ?_
      refine lv_iload hx hb dX8_best_145 (lv_at hl 8 rfl) ?_
      refine lv_icmp_le (tgt := 158) hx hb dX8_best_147 (by decide) (fun c_32 => ?_) (fun c_32 => ?_)
      · replace hf := if_p c_32 hf
        obtain ⟨v_33, ev_33, hf⟩ := st_out hf
        refine lv_iinc (v := v_33) (lv' := [(9, .int v_33), (10, .int r_26), (0, .ref (G.1 + 99)), (1, .int u1), (3, .int u3), (4, .int u4), (5, .int u5), (6, .int u6), (7, .int u7), (8, .int u8)]) hx hb dX8_best_158 hl (k := 9) rfl (by rw [ev_33]; rfl) (by decide) rfl (fun ls hl => ?_)
        refine lv_goto (tgt := 105) hx hb dX8_best_161 (by decide) ?_
        exact hk105 u1 u3 u4 u5 u6 u7 u8 v_33 x_29 hf _ _ _ hS (lv_sub hl [2, 3, 4, 5, 6, 7, 8, 9, 0] rfl)
      · replace hf := if_n c_32 hf
        refine lv_iload hx hb dX8_best_150 (lv_at hl 9 rfl) ?_
        refine lv_istore (lv' := [(7, .int u9), (10, .int r_26), (0, .ref (G.1 + 99)), (1, .int u1), (3, .int u3), (4, .int u4), (5, .int u5), (6, .int u6), (8, .int u8), (9, .int u9)]) hx hb dX8_best_152 hl (by decide) rfl (fun ls hl => ?_)
        refine lv_iload hx hb dX8_best_154 (lv_at hl 1 rfl) ?_
        refine lv_istore (lv' := [(8, .int r_26), (7, .int u9), (10, .int r_26), (0, .ref (G.1 + 99)), (1, .int u1), (3, .int u3), (4, .int u4), (5, .int u5), (6, .int u6), (9, .int u9)]) hx hb dX8_best_156 hl (by decide) rfl (fun ls hl => ?_)
        obtain ⟨v_34, ev_34, hf⟩ := st_out hf
        refine lv_iinc (v := v_34) (lv' := [(9, .int v_34), (8, .int r_26), (7, .int u9), (10, .int r_26), (0, .ref (G.1 + 99)), (1, .int u1), (3, .int u3), (4, .int u4), (5, .int u5), (6, .int u6)]) hx hb dX8_best_158 hl (k := 9) rfl (by rw [ev_34]; rfl) (by decide) rfl (fun ls hl => ?_)
        refine lv_goto (tgt := 105) hx hb dX8_best_161 (by decide) ?_
        exact hk105 u1 u3 u4 u5 u6 u9 r_26 v_34 x_29 hf _ _ _ hS (lv_sub hl [4, 5, 6, 7, 8, 9, 2, 1, 0] rfl)
theorem wlX8_best_h105 {p : Program} {l : Launch} {e : Env} {s : State} {m : MethodId} {args : Array Value} {below : List Frame} {meth : Method} {c : Code} {G : GT} {r : Int32} {z : XS} (C : CX G p s m args meth c cX8_best 11 (some .int) RX8) (n : Nat) : ∀ (u1 : Int32) (u3 : Int32) (u4 : Int32) (u5 : Int32) (u6 : Int32) (u7 : Int32) (u8 : Int32) (u9 : Int32) (x : XS), lX8_best_h105 n u1 u3 u4 u5 u6 u7 u8 u9 x = some (r, z) → ∀ (H : Heap) (locs : List Loc) (ls : Array Slot), SR G x H locs → lv_has ls 11 [(0, .ref (G.1 + 99)), (1, .int u1), (3, .int u3), (4, .int u4), (5, .int u5), (6, .int u6), (7, .int u7), (8, .int u8), (9, .int u9)] → W p l e rmX8_best s m args below meth c H locs 0 0 (MQ below (QC G (some (.int r)) z) args s 0 0 (AB G)) (F0 m 105 ls []) := by
  induction n with
  | zero => intro u1 u3 u4 u5 u6 u7 u8 u9 x hf H locs ls hS hl; exact absurd hf (by intro q; cases q)
  | succ n ih => exact wbX8_best_h105 C ih
theorem wX8_best_h105 {p : Program} {l : Launch} {e : Env} {s : State} {m : MethodId} {args : Array Value} {below : List Frame} {meth : Method} {c : Code} {G : GT} {r : Int32} {z : XS} (C : CX G p s m args meth c cX8_best 11 (some .int) RX8) : ∀ (u1 : Int32) (u3 : Int32) (u4 : Int32) (u5 : Int32) (u6 : Int32) (u7 : Int32) (u8 : Int32) (u9 : Int32) (x : XS), fX8_best_h105 u1 u3 u4 u5 u6 u7 u8 u9 x = some (r, z) → ∀ (H : Heap) (locs : List Loc) (ls : Array Slot), SR G x H locs → lv_has ls 11 [(0, .ref (G.1 + 99)), (1, .int u1), (3, .int u3), (4, .int u4), (5, .int u5), (6, .int u6), (7, .int u7), (8, .int u8), (9, .int u9)] → W p l e rmX8_best s m args below meth c H locs 0 0 (MQ below (QC G (some (.int r)) z) args s 0 0 (AB G)) (F0 m 105 ls []) := wlX8_best_h105 C FU
set_option maxRecDepth 100000 in
set_option maxHeartbeats 4000000 in
theorem wX8_best_h85 {p : Program} {l : Launch} {e : Env} {s : State} {m : MethodId} {args : Array Value} {below : List Frame} {meth : Method} {c : Code} {G : GT} {r : Int32} {z : XS} (C : CX G p s m args meth c cX8_best 11 (some .int) RX8) : ∀ (u1 : Int32) (u2 : Int32) (u3 : Int32) (u4 : Int32) (u5 : Int32) (s0 : Int32) (x : XS), fX8_best_h85 u1 u2 u3 u4 u5 s0 x = some (r, z) → ∀ (H : Heap) (locs : List Loc) (ls : Array Slot), SR G x H locs → lv_has ls 11 [(0, .ref (G.1 + 99)), (1, .int u1), (2, .int u2), (3, .int u3), (4, .int u4), (5, .int u5)] → W p l e rmX8_best s m args below meth c H locs 0 0 (MQ below (QC G (some (.int r)) z) args s 0 0 (AB G)) (F0 m 85 ls [.int s0]) := by
  intro u1 u2 u3 u4 u5 s0 x hf H locs ls hS hl
  have hx := C.1
  have hb := C.2.1
  have hown := C.2.2.2.2.2.1
  have hw := C.2.2.2.2.2.2.1
  unfold fX8_best_h85 at hf
  refine lv_istore (lv' := [(6, .int s0), (0, .ref (G.1 + 99)), (1, .int u1), (2, .int u2), (3, .int u3), (4, .int u4), (5, .int u5)]) hx hb dX8_best_85 hl (by decide) rfl (fun ls hl => ?_)
  refine lv_iconst (v := (-1)) hx hb dX8_best_87 (by decide) ?_
  refine lv_istore (lv' := [(7, .int (-1)), (6, .int s0), (0, .ref (G.1 + 99)), (1, .int u1), (2, .int u2), (3, .int u3), (4, .int u4), (5, .int u5)]) hx hb dX8_best_88 hl (by decide) rfl (fun ls hl => ?_)
  refine lv_iconst (v := 0) hx hb dX8_best_90 (by decide) ?_
  refine lv_istore (lv' := [(8, .int 0), (7, .int (-1)), (6, .int s0), (0, .ref (G.1 + 99)), (1, .int u1), (2, .int u2), (3, .int u3), (4, .int u4), (5, .int u5)]) hx hb dX8_best_91 hl (by decide) rfl (fun ls hl => ?_)
  refine lv_iload_n hx hb dX8_best_93 rfl (lv_at hl 5 rfl) ?_
  refine lv_iconst (v := 1) hx hb dX8_best_94 (by decide) ?_
  refine lv_icmp_ne (tgt := 102) hx hb dX8_best_95 (by decide) (fun c_19 => ?_) (fun c_19 => ?_)
  · replace hf := if_n c_19 hf
    refine lv_iconst (v := 1) hx hb dX8_best_102 (by decide) ?_
    refine lv_istore (lv' := [(9, .int 1), (8, .int 0), (7, .int (-1)), (6, .int s0), (0, .ref (G.1 + 99)), (1, .int u1), (2, .int u2), (3, .int u3), (4, .int u4), (5, .int u5)]) hx hb dX8_best_103 hl (by decide) rfl (fun ls hl => ?_)
    exact wX8_best_h105  C u1 u3 u4 u5 s0 (-1) 0 1 x hf _ _ _ hS (lv_sub hl [4, 5, 7, 8, 9, 3, 2, 1, 0] rfl)
  · replace hf := if_p c_19 hf
    refine lv_iconst (v := 0) hx hb dX8_best_98 (by decide) ?_
    refine lv_goto (tgt := 103) hx hb dX8_best_99 (by decide) ?_
    refine lv_istore (lv' := [(9, .int 0), (8, .int 0), (7, .int (-1)), (6, .int s0), (0, .ref (G.1 + 99)), (1, .int u1), (2, .int u2), (3, .int u3), (4, .int u4), (5, .int u5)]) hx hb dX8_best_103 hl (by decide) rfl (fun ls hl => ?_)
    exact wX8_best_h105  C u1 u3 u4 u5 s0 (-1) 0 0 x hf _ _ _ hS (lv_sub hl [4, 5, 7, 8, 9, 3, 2, 1, 0] rfl)
set_option maxRecDepth 100000 in
set_option maxHeartbeats 4000000 in
theorem wX8_best_h62 {p : Program} {l : Launch} {e : Env} {s : State} {m : MethodId} {args : Array Value} {below : List Frame} {meth : Method} {c : Code} {G : GT} {r : Int32} {z : XS} (C : CX G p s m args meth c cX8_best 11 (some .int) RX8) : ∀ (u1 : Int32) (u2 : Int32) (u3 : Int32) (u4 : Int32) (s0 : Int32) (x : XS), fX8_best_h62 u1 u2 u3 u4 s0 x = some (r, z) → ∀ (H : Heap) (locs : List Loc) (ls : Array Slot), SR G x H locs → lv_has ls 11 [(0, .ref (G.1 + 99)), (1, .int u1), (2, .int u2), (3, .int u3), (4, .int u4)] → W p l e rmX8_best s m args below meth c H locs 0 0 (MQ below (QC G (some (.int r)) z) args s 0 0 (AB G)) (F0 m 62 ls [.int s0]) := by
  intro u1 u2 u3 u4 s0 x hf H locs ls hS hl
  have hx := C.1
  have hb := C.2.1
  have hown := C.2.2.2.2.2.1
  have hw := C.2.2.2.2.2.2.1
  unfold fX8_best_h62 at hf
  refine lv_istore (lv' := [(5, .int s0), (0, .ref (G.1 + 99)), (1, .int u1), (2, .int u2), (3, .int u3), (4, .int u4)]) hx hb dX8_best_62 hl (by decide) rfl (fun ls hl => ?_)
  refine lv_iload_n hx hb dX8_best_64 rfl (lv_at hl 3 rfl) ?_
  refine lv_if_ne (tgt := 73) hx hb dX8_best_65 (by decide) (fun c_17 => ?_) (fun c_17 => ?_)
  · replace hf := if_n c_17 hf
    refine lv_iload_n hx hb dX8_best_73 rfl (lv_at hl 3 rfl) ?_
    refine lv_iconst (v := 1) hx hb dX8_best_74 (by decide) ?_
    refine lv_icmp_ne (tgt := 83) hx hb dX8_best_75 (by decide) (fun c_18 => ?_) (fun c_18 => ?_)
    · replace hf := if_n c_18 hf
      refine lv_bipush (v := 40) hx hb dX8_best_83 (by decide) ?_
      exact wX8_best_h85  C u1 u2 u3 u4 s0 40 x hf _ _ _ hS (lv_sub hl [1, 2, 3, 4, 5, 0] rfl)
    · replace hf := if_p c_18 hf
      refine lv_bipush (v := 9) hx hb dX8_best_78 (by decide) ?_
      refine lv_goto (tgt := 85) hx hb dX8_best_80 (by decide) ?_
      exact wX8_best_h85  C u1 u2 u3 u4 s0 9 x hf _ _ _ hS (lv_sub hl [1, 2, 3, 4, 5, 0] rfl)
  · replace hf := if_p c_17 hf
    refine lv_bipush (v := 20) hx hb dX8_best_68 (by decide) ?_
    refine lv_goto (tgt := 85) hx hb dX8_best_70 (by decide) ?_
    exact wX8_best_h85  C u1 u2 u3 u4 s0 20 x hf _ _ _ hS (lv_sub hl [1, 2, 3, 4, 5, 0] rfl)
set_option maxRecDepth 100000 in
set_option maxHeartbeats 4000000 in
theorem cX8_best_ {G : GT} {l : Launch} {v1 : Int32} {v2 : Int32} {v3 : Int32} {v4 : Int32} {x z : XS} {r : Int32} (hf : fX8_best v1 v2 v3 v4 x = some (r, z)) : Ct G l yX8_best (.code yX8_best cX8_best 11 (some .int)) rmX8_best [.ref (G.1 + 99), .int v1, .int v2, .int v3, .int v4] x (some (.int r)) z := by
  refine Ct.of (by decide +kernel) (Nat.le_of_ble_eq_true rfl) ?_
  intro p e s m args below meth c C ls hl hS
  have C : CX G p s m args meth c cX8_best 11 (some .int) RX8 := C
  have hl : lv_has ls 11 [(0, .ref (G.1 + 99)), (1, .int v1), (2, .int v2), (3, .int v3), (4, .int v4)] := hl
  have hx := C.1
  have hb := C.2.1
  have hown := C.2.2.2.2.2.1
  have hw := C.2.2.2.2.2.2.1
  unfold fX8_best at hf
  refine lv_aload_n hx hb dX8_best_0 rfl (lv_at hl 0 rfl) ?_
  refine lv_iload_n hx hb dX8_best_1 rfl (lv_at hl 1 rfl) ?_
  obtain ⟨r_1, x_2, qr_1, hf⟩ := bd_out hf
  refine rvI (As := [.int v1]) (rest := []) C hS (rfl) rfl KX8_isBoy (cX8_isBoy_ qr_1) g_934 ⟨rfl, rfl⟩ ⟨(Nat.le_of_ble_eq_true rfl), (Nat.le_of_ble_eq_true rfl)⟩ hl.1 rfl rfl (Nat.le_of_ble_eq_true rfl) ⟨Nat.zero_le _, Nat.zero_le _⟩ dX8_best_2 (fun H locs hS => ?_)
  refine lv_if_eq (tgt := 37) hx hb dX8_best_5 (by decide) (fun c_3 => ?_) (fun c_3 => ?_)
  · replace hf := if_p c_3 hf
    refine lv_ldc (v := (-1000000001)) hx hb hown (hw _ g_920) dX8_best_37 ?_
    exact rtI C hS hf dX8_best_39
  · replace hf := if_n c_3 hf
    refine lv_iload_n hx hb dX8_best_8 rfl (lv_at hl 2 rfl) ?_
    refine lv_iconst (v := 0) hx hb dX8_best_9 (by decide) ?_
    refine lv_iconst (v := 2) hx hb dX8_best_10 (by decide) ?_
    obtain ⟨r_4, x_5, qr_4, hf⟩ := bd_out hf
    refine rsI (As := [.int v2, .int 0, .int 2]) (rest := []) C hS KX8_in (cX8_in_ qr_4) g_914 ⟨rfl, rfl⟩ ⟨(Nat.le_of_ble_eq_true rfl), (Nat.le_of_ble_eq_true rfl)⟩ hl.1 rfl rfl (Nat.le_of_ble_eq_true rfl) ⟨Nat.zero_le _, Nat.zero_le _⟩ dX8_best_11 (fun H locs hS => ?_)
    refine lv_if_eq (tgt := 37) hx hb dX8_best_14 (by decide) (fun c_6 => ?_) (fun c_6 => ?_)
    · replace hf := if_p c_6 hf
      refine lv_ldc (v := (-1000000001)) hx hb hown (hw _ g_920) dX8_best_37 ?_
      exact rtI C hS hf dX8_best_39
    · replace hf := if_n c_6 hf
      refine lv_iload_n hx hb dX8_best_17 rfl (lv_at hl 3 rfl) ?_
      refine lv_iconst (v := 1) hx hb dX8_best_18 (by decide) ?_
      refine lv_bipush (v := 60) hx hb dX8_best_19 (by decide) ?_
      obtain ⟨r_7, x_8, qr_7, hf⟩ := bd_out hf
      refine rsI (As := [.int v3, .int 1, .int 60]) (rest := []) C hS KX8_in (cX8_in_ qr_7) g_914 ⟨rfl, rfl⟩ ⟨(Nat.le_of_ble_eq_true rfl), (Nat.le_of_ble_eq_true rfl)⟩ hl.1 rfl rfl (Nat.le_of_ble_eq_true rfl) ⟨Nat.zero_le _, Nat.zero_le _⟩ dX8_best_21 (fun H locs hS => ?_)
      refine lv_if_eq (tgt := 37) hx hb dX8_best_24 (by decide) (fun c_9 => ?_) (fun c_9 => ?_)
      · replace hf := if_p c_9 hf
        refine lv_ldc (v := (-1000000001)) hx hb hown (hw _ g_920) dX8_best_37 ?_
        exact rtI C hS hf dX8_best_39
      · replace hf := if_n c_9 hf
        refine lv_iload hx hb dX8_best_27 (lv_at hl 4 rfl) ?_
        refine lv_iconst (v := 0) hx hb dX8_best_29 (by decide) ?_
        refine lv_iconst (v := 1) hx hb dX8_best_30 (by decide) ?_
        obtain ⟨r_10, x_11, qr_10, hf⟩ := bd_out hf
        refine rsI (As := [.int v4, .int 0, .int 1]) (rest := []) C hS KX8_in (cX8_in_ qr_10) g_914 ⟨rfl, rfl⟩ ⟨(Nat.le_of_ble_eq_true rfl), (Nat.le_of_ble_eq_true rfl)⟩ hl.1 rfl rfl (Nat.le_of_ble_eq_true rfl) ⟨Nat.zero_le _, Nat.zero_le _⟩ dX8_best_31 (fun H locs hS => ?_)
        refine lv_if_ne (tgt := 40) hx hb dX8_best_34 (by decide) (fun c_12 => ?_) (fun c_12 => ?_)
        · replace hf := if_n c_12 hf
          refine lv_aload_n hx hb dX8_best_40 rfl (lv_at hl 0 rfl) ?_
          obtain ⟨r_13, x_14, qr_13, hf⟩ := bd_out hf
          refine rvV (As := []) (rest := []) C hS (rfl) rfl KX8_thinks (cX8_thinks_ qr_13) g_1068 ⟨rfl, rfl⟩ ⟨(Nat.le_of_ble_eq_true rfl), (Nat.le_of_ble_eq_true rfl)⟩ hl.1 rfl rfl (Nat.le_of_ble_eq_true rfl) ⟨Nat.zero_le _, Nat.zero_le _⟩ dX8_best_41 (fun H locs hS => ?_)
          refine lv_iload_n hx hb dX8_best_44 rfl (lv_at hl 2 rfl) ?_
          refine lv_if_ne (tgt := 52) hx hb dX8_best_45 (by decide) (fun c_15 => ?_) (fun c_15 => ?_)
          · replace hf := if_n c_15 hf
            refine lv_iload_n hx hb dX8_best_52 rfl (lv_at hl 2 rfl) ?_
            refine lv_iconst (v := 1) hx hb dX8_best_53 (by decide) ?_
            refine lv_icmp_ne (tgt := 61) hx hb dX8_best_54 (by decide) (fun c_16 => ?_) (fun c_16 => ?_)
            · replace hf := if_n c_16 hf
              refine lv_iconst (v := 2) hx hb dX8_best_61 (by decide) ?_
              exact wX8_best_h62  C v1 v2 v3 v4 2 x_14 hf _ _ _ hS (lv_sub hl [0, 1, 2, 3, 4] rfl)
            · replace hf := if_p c_16 hf
              refine lv_iconst (v := 1) hx hb dX8_best_57 (by decide) ?_
              refine lv_goto (tgt := 62) hx hb dX8_best_58 (by decide) ?_
              exact wX8_best_h62  C v1 v2 v3 v4 1 x_14 hf _ _ _ hS (lv_sub hl [0, 1, 2, 3, 4] rfl)
          · replace hf := if_p c_15 hf
            refine lv_iconst (v := 3) hx hb dX8_best_48 (by decide) ?_
            refine lv_goto (tgt := 62) hx hb dX8_best_49 (by decide) ?_
            exact wX8_best_h62  C v1 v2 v3 v4 3 x_14 hf _ _ _ hS (lv_sub hl [0, 1, 2, 3, 4] rfl)
        · replace hf := if_p c_12 hf
          refine lv_ldc (v := (-1000000001)) hx hb hown (hw _ g_920) dX8_best_37 ?_
          exact rtI C hS hf dX8_best_39
abbrev rmX8_bestShare : Room := { frames := 8, cells := 0, slots := 0, locals := 188 }
set_option maxRecDepth 100000 in
set_option maxHeartbeats 4000000 in
theorem wbX8_bestShare_h34 {p : Program} {l : Launch} {e : Env} {s : State} {m : MethodId} {args : Array Value} {below : List Frame} {meth : Method} {c : Code} {G : GT} {r : Int32} {z : XS} (C : CX G p s m args meth c cX8_bestShare 7 (some .int) RX8) {k34 : Int32 → Int32 → Int32 → Int32 → Int32 → XS → Option (Int32 × XS)} (hk34 : ∀ (u1 : Int32) (u2 : Int32) (u3 : Int32) (u4 : Int32) (u5 : Int32) (x : XS), k34 u1 u2 u3 u4 u5 x = some (r, z) → ∀ (H : Heap) (locs : List Loc) (ls : Array Slot), SR G x H locs → lv_has ls 7 [(0, .ref (G.1 + 99)), (1, .int u1), (2, .int u2), (3, .int u3), (4, .int u4), (5, .int u5)] → W p l e rmX8_bestShare s m args below meth c H locs 0 0 (MQ below (QC G (some (.int r)) z) args s 0 0 (AB G)) (F0 m 34 ls [])) : ∀ (u1 : Int32) (u2 : Int32) (u3 : Int32) (u4 : Int32) (u5 : Int32) (x : XS), bX8_bestShare_h34 k34 u1 u2 u3 u4 u5 x = some (r, z) → ∀ (H : Heap) (locs : List Loc) (ls : Array Slot), SR G x H locs → lv_has ls 7 [(0, .ref (G.1 + 99)), (1, .int u1), (2, .int u2), (3, .int u3), (4, .int u4), (5, .int u5)] → W p l e rmX8_bestShare s m args below meth c H locs 0 0 (MQ below (QC G (some (.int r)) z) args s 0 0 (AB G)) (F0 m 34 ls []) := by
  intro u1 u2 u3 u4 u5 x hf H locs ls hS hl
  have hx := C.1
  have hb := C.2.1
  have hown := C.2.2.2.2.2.1
  have hw := C.2.2.2.2.2.2.1
  unfold bX8_bestShare_h34 at hf
  refine lv_iload hx hb dX8_bestShare_34 (lv_at hl 5 rfl) ?_
  refine lv_bipush (v := 100) hx hb dX8_bestShare_36 (by decide) ?_
  refine lv_icmp_ge (tgt := 91) hx hb dX8_bestShare_38 (by decide) (fun c_9 => ?_) (fun c_9 => ?_)
  · replace hf := if_p c_9 hf
    refine lv_iload_n hx hb dX8_bestShare_91 rfl (lv_at hl 2 rfl) ?_
    refine lv_if_ne (tgt := 99) hx hb dX8_bestShare_92 (by decide) (fun c_10 => ?_) (fun c_10 => ?_)
    · replace hf := if_n c_10 hf
      refine lv_iload hx hb dX8_bestShare_99 (lv_at hl 4 rfl) ?_
      exact rtI C hS hf dX8_bestShare_101
    · replace hf := if_p c_10 hf
      refine lv_iload_n hx hb dX8_bestShare_95 rfl (lv_at hl 3 rfl) ?_
      refine lv_goto (tgt := 101) hx hb dX8_bestShare_96 (by decide) ?_
      exact rtI C hS hf dX8_bestShare_101
  · replace hf := if_n c_9 hf
    refine lv_aload_n hx hb dX8_bestShare_41 rfl (lv_at hl 0 rfl) ?_
    refine gf7_0 C hS (rfl) g_805 dX8_bestShare_42 ?_
    refine lv_iconst (v := 3) hx hb dX8_bestShare_45 (by decide) ?_
    refine lv_iload hx hb dX8_bestShare_46 (lv_at hl 5 rfl) ?_
    obtain ⟨gg_11, hf⟩ := gd_out hf
    obtain ⟨x_12, ex_12, hf⟩ := st_out hf
    refine asI C hS (rfl) rfl gg_11 ex_12 dX8_bestShare_48 (fun H locs hS => ?_)
    refine lv_aload_n hx hb dX8_bestShare_49 rfl (lv_at hl 0 rfl) ?_
    refine lv_iload_n hx hb dX8_bestShare_50 rfl (lv_at hl 1 rfl) ?_
    obtain ⟨r_13, x_14, qr_13, hf⟩ := bd_out hf
    refine rvV (As := [.int u1]) (rest := []) C hS (rfl) rfl KX8_goesOn (cX8_goesOn_ qr_13) g_1025 ⟨rfl, rfl⟩ ⟨(Nat.le_of_ble_eq_true rfl), (Nat.le_of_ble_eq_true rfl)⟩ hl.1 rfl rfl (Nat.le_of_ble_eq_true rfl) ⟨Nat.zero_le _, Nat.zero_le _⟩ dX8_bestShare_51 (fun H locs hS => ?_)
    refine lv_aload_n hx hb dX8_bestShare_54 rfl (lv_at hl 0 rfl) ?_
    refine gf7_0 C hS (rfl) g_805 dX8_bestShare_55 ?_
    refine lv_bipush (v := 6) hx hb dX8_bestShare_58 (by decide) ?_
    obtain ⟨gg_15, hf⟩ := gd_out hf
    refine alI C hS (rfl) rfl gg_15 dX8_bestShare_60 ?_
    obtain ⟨v_16, ev_16, hf⟩ := st_out hf
    refine topI ev_16 ?_
    refine lv_istore (lv' := [(6, .int v_16), (0, .ref (G.1 + 99)), (1, .int u1), (2, .int u2), (3, .int u3), (4, .int u4), (5, .int u5)]) hx hb dX8_bestShare_61 hl (by decide) rfl (fun ls hl => ?_)
    refine lv_aload_n hx hb dX8_bestShare_63 rfl (lv_at hl 1 rfl) ?_
    obtain ⟨r_17, x_18, qr_17, hf⟩ := bd_out hf
    refine rvV (As := []) (rest := []) C hS (rfl) rfl KX8_putsBack (cX8_putsBack_ qr_17) g_1073 ⟨rfl, rfl⟩ ⟨(Nat.le_of_ble_eq_true rfl), (Nat.le_of_ble_eq_true rfl)⟩ hl.1 rfl rfl (Nat.le_of_ble_eq_true rfl) ⟨Nat.zero_le _, Nat.zero_le _⟩ dX8_bestShare_64 (fun H locs hS => ?_)
    refine lv_iload_n hx hb dX8_bestShare_67 rfl (lv_at hl 4 rfl) ?_
    refine lv_if_lt (tgt := 78) hx hb dX8_bestShare_68 (by decide) (fun c_19 => ?_) (fun c_19 => ?_)
    · replace hf := if_p c_19 hf
      refine lv_iload hx hb dX8_bestShare_78 (lv_at hl 6 rfl) ?_
      refine lv_istore_n (lv' := [(3, .int u5), (6, .int v_16), (0, .ref (G.1 + 99)), (1, .int u1), (2, .int u2), (4, .int u4), (5, .int u5)]) hx hb dX8_bestShare_80 rfl hl (by decide) rfl (fun ls hl => ?_)
      refine lv_iload hx hb dX8_bestShare_81 (lv_at hl 1 rfl) ?_
      refine lv_istore (lv' := [(4, .int v_16), (3, .int u5), (6, .int v_16), (0, .ref (G.1 + 99)), (1, .int u1), (2, .int u2), (5, .int u5)]) hx hb dX8_bestShare_83 hl (by decide) rfl (fun ls hl => ?_)
      obtain ⟨v_20, ev_20, hf⟩ := st_out hf
      refine lv_iinc (v := v_20) (lv' := [(5, .int v_20), (4, .int v_16), (3, .int u5), (6, .int v_16), (0, .ref (G.1 + 99)), (1, .int u1), (2, .int u2)]) hx hb dX8_bestShare_85 hl (k := 6) rfl (by rw [ev_20]; rfl) (by decide) rfl (fun ls hl => ?_)
      refine lv_goto (tgt := 34) hx hb dX8_bestShare_88 (by decide) ?_
      exact hk34 u1 u2 u5 v_16 v_20 x_18 hf _ _ _ hS (lv_sub hl [4, 5, 6, 2, 1, 0] rfl)
    · replace hf := if_n c_19 hf
      refine lv_iload hx hb dX8_bestShare_71 (lv_at hl 0 rfl) ?_
      refine lv_iload hx hb dX8_bestShare_73 (lv_at hl 5 rfl) ?_
      refine lv_icmp_le (tgt := 85) hx hb dX8_bestShare_75 (by decide) (fun c_21 => ?_) (fun c_21 => ?_)
      · replace hf := if_p c_21 hf
        obtain ⟨v_22, ev_22, hf⟩ := st_out hf
        refine lv_iinc (v := v_22) (lv' := [(5, .int v_22), (6, .int v_16), (0, .ref (G.1 + 99)), (1, .int u1), (2, .int u2), (3, .int u3), (4, .int u4)]) hx hb dX8_bestShare_85 hl (k := 6) rfl (by rw [ev_22]; rfl) (by decide) rfl (fun ls hl => ?_)
        refine lv_goto (tgt := 34) hx hb dX8_bestShare_88 (by decide) ?_
        exact hk34 u1 u2 u3 u4 v_22 x_18 hf _ _ _ hS (lv_sub hl [2, 3, 4, 5, 6, 0] rfl)
      · replace hf := if_n c_21 hf
        refine lv_iload hx hb dX8_bestShare_78 (lv_at hl 6 rfl) ?_
        refine lv_istore_n (lv' := [(3, .int u5), (6, .int v_16), (0, .ref (G.1 + 99)), (1, .int u1), (2, .int u2), (4, .int u4), (5, .int u5)]) hx hb dX8_bestShare_80 rfl hl (by decide) rfl (fun ls hl => ?_)
        refine lv_iload hx hb dX8_bestShare_81 (lv_at hl 1 rfl) ?_
        refine lv_istore (lv' := [(4, .int v_16), (3, .int u5), (6, .int v_16), (0, .ref (G.1 + 99)), (1, .int u1), (2, .int u2), (5, .int u5)]) hx hb dX8_bestShare_83 hl (by decide) rfl (fun ls hl => ?_)
        obtain ⟨v_23, ev_23, hf⟩ := st_out hf
        refine lv_iinc (v := v_23) (lv' := [(5, .int v_23), (4, .int v_16), (3, .int u5), (6, .int v_16), (0, .ref (G.1 + 99)), (1, .int u1), (2, .int u2)]) hx hb dX8_bestShare_85 hl (k := 6) rfl (by rw [ev_23]; rfl) (by decide) rfl (fun ls hl => ?_)
        refine lv_goto (tgt := 34) hx hb dX8_bestShare_88 (by decide) ?_
        exact hk34 u1 u2 u5 v_16 v_23 x_18 hf _ _ _ hS (lv_sub hl [4, 5, 6, 2, 1, 0] rfl)
theorem wlX8_bestShare_h34 {p : Program} {l : Launch} {e : Env} {s : State} {m : MethodId} {args : Array Value} {below : List Frame} {meth : Method} {c : Code} {G : GT} {r : Int32} {z : XS} (C : CX G p s m args meth c cX8_bestShare 7 (some .int) RX8) (n : Nat) : ∀ (u1 : Int32) (u2 : Int32) (u3 : Int32) (u4 : Int32) (u5 : Int32) (x : XS), lX8_bestShare_h34 n u1 u2 u3 u4 u5 x = some (r, z) → ∀ (H : Heap) (locs : List Loc) (ls : Array Slot), SR G x H locs → lv_has ls 7 [(0, .ref (G.1 + 99)), (1, .int u1), (2, .int u2), (3, .int u3), (4, .int u4), (5, .int u5)] → W p l e rmX8_bestShare s m args below meth c H locs 0 0 (MQ below (QC G (some (.int r)) z) args s 0 0 (AB G)) (F0 m 34 ls []) := by
  induction n with
  | zero => intro u1 u2 u3 u4 u5 x hf H locs ls hS hl; exact absurd hf (by intro q; cases q)
  | succ n ih => exact wbX8_bestShare_h34 C ih
theorem wX8_bestShare_h34 {p : Program} {l : Launch} {e : Env} {s : State} {m : MethodId} {args : Array Value} {below : List Frame} {meth : Method} {c : Code} {G : GT} {r : Int32} {z : XS} (C : CX G p s m args meth c cX8_bestShare 7 (some .int) RX8) : ∀ (u1 : Int32) (u2 : Int32) (u3 : Int32) (u4 : Int32) (u5 : Int32) (x : XS), fX8_bestShare_h34 u1 u2 u3 u4 u5 x = some (r, z) → ∀ (H : Heap) (locs : List Loc) (ls : Array Slot), SR G x H locs → lv_has ls 7 [(0, .ref (G.1 + 99)), (1, .int u1), (2, .int u2), (3, .int u3), (4, .int u4), (5, .int u5)] → W p l e rmX8_bestShare s m args below meth c H locs 0 0 (MQ below (QC G (some (.int r)) z) args s 0 0 (AB G)) (F0 m 34 ls []) := wlX8_bestShare_h34 C FU
set_option maxRecDepth 100000 in
set_option maxHeartbeats 4000000 in
theorem cX8_bestShare_ {G : GT} {l : Launch} {v1 : Int32} {v2 : Int32} {x z : XS} {r : Int32} (hf : fX8_bestShare v1 v2 x = some (r, z)) : Ct G l yX8_bestShare (.code yX8_bestShare cX8_bestShare 7 (some .int)) rmX8_bestShare [.ref (G.1 + 99), .int v1, .int v2] x (some (.int r)) z := by
  refine Ct.of (by decide +kernel) (Nat.le_of_ble_eq_true rfl) ?_
  intro p e s m args below meth c C ls hl hS
  have C : CX G p s m args meth c cX8_bestShare 7 (some .int) RX8 := C
  have hl : lv_has ls 7 [(0, .ref (G.1 + 99)), (1, .int v1), (2, .int v2)] := hl
  have hx := C.1
  have hb := C.2.1
  have hown := C.2.2.2.2.2.1
  have hw := C.2.2.2.2.2.2.1
  unfold fX8_bestShare at hf
  refine lv_iload_n hx hb dX8_bestShare_0 rfl (lv_at hl 1 rfl) ?_
  refine lv_iconst (v := 1) hx hb dX8_bestShare_1 (by decide) ?_
  refine lv_bipush (v := 60) hx hb dX8_bestShare_2 (by decide) ?_
  obtain ⟨r_1, x_2, qr_1, hf⟩ := bd_out hf
  refine rsI (As := [.int v1, .int 1, .int 60]) (rest := []) C hS KX8_in (cX8_in_ qr_1) g_914 ⟨rfl, rfl⟩ ⟨(Nat.le_of_ble_eq_true rfl), (Nat.le_of_ble_eq_true rfl)⟩ hl.1 rfl rfl (Nat.le_of_ble_eq_true rfl) ⟨Nat.zero_le _, Nat.zero_le _⟩ dX8_bestShare_4 (fun H locs hS => ?_)
  refine lv_if_eq (tgt := 19) hx hb dX8_bestShare_7 (by decide) (fun c_3 => ?_) (fun c_3 => ?_)
  · replace hf := if_p c_3 hf
    refine lv_ldc (v := (-1000000001)) hx hb hown (hw _ g_920) dX8_bestShare_19 ?_
    exact rtI C hS hf dX8_bestShare_21
  · replace hf := if_n c_3 hf
    refine lv_iload_n hx hb dX8_bestShare_10 rfl (lv_at hl 2 rfl) ?_
    refine lv_iconst (v := 0) hx hb dX8_bestShare_11 (by decide) ?_
    refine lv_iconst (v := 1) hx hb dX8_bestShare_12 (by decide) ?_
    obtain ⟨r_4, x_5, qr_4, hf⟩ := bd_out hf
    refine rsI (As := [.int v2, .int 0, .int 1]) (rest := []) C hS KX8_in (cX8_in_ qr_4) g_914 ⟨rfl, rfl⟩ ⟨(Nat.le_of_ble_eq_true rfl), (Nat.le_of_ble_eq_true rfl)⟩ hl.1 rfl rfl (Nat.le_of_ble_eq_true rfl) ⟨Nat.zero_le _, Nat.zero_le _⟩ dX8_bestShare_13 (fun H locs hS => ?_)
    refine lv_if_ne (tgt := 22) hx hb dX8_bestShare_16 (by decide) (fun c_6 => ?_) (fun c_6 => ?_)
    · replace hf := if_n c_6 hf
      refine lv_aload_n hx hb dX8_bestShare_22 rfl (lv_at hl 0 rfl) ?_
      obtain ⟨r_7, x_8, qr_7, hf⟩ := bd_out hf
      refine rvV (As := []) (rest := []) C hS (rfl) rfl KX8_thinks (cX8_thinks_ qr_7) g_1068 ⟨rfl, rfl⟩ ⟨(Nat.le_of_ble_eq_true rfl), (Nat.le_of_ble_eq_true rfl)⟩ hl.1 rfl rfl (Nat.le_of_ble_eq_true rfl) ⟨Nat.zero_le _, Nat.zero_le _⟩ dX8_bestShare_23 (fun H locs hS => ?_)
      refine lv_iconst (v := (-1)) hx hb dX8_bestShare_26 (by decide) ?_
      refine lv_istore_n (lv' := [(3, .int (-1)), (0, .ref (G.1 + 99)), (1, .int v1), (2, .int v2)]) hx hb dX8_bestShare_27 rfl hl (by decide) rfl (fun ls hl => ?_)
      refine lv_iconst (v := 0) hx hb dX8_bestShare_28 (by decide) ?_
      refine lv_istore (lv' := [(4, .int 0), (3, .int (-1)), (0, .ref (G.1 + 99)), (1, .int v1), (2, .int v2)]) hx hb dX8_bestShare_29 hl (by decide) rfl (fun ls hl => ?_)
      refine lv_iconst (v := 0) hx hb dX8_bestShare_31 (by decide) ?_
      refine lv_istore (lv' := [(5, .int 0), (4, .int 0), (3, .int (-1)), (0, .ref (G.1 + 99)), (1, .int v1), (2, .int v2)]) hx hb dX8_bestShare_32 hl (by decide) rfl (fun ls hl => ?_)
      exact wX8_bestShare_h34  C v1 v2 (-1) 0 0 x_8 hf _ _ _ hS (lv_sub hl [3, 4, 5, 2, 1, 0] rfl)
    · replace hf := if_p c_6 hf
      refine lv_ldc (v := (-1000000001)) hx hb hown (hw _ g_920) dX8_bestShare_19 ?_
      exact rtI C hS hf dX8_bestShare_21
abbrev rmX8_sentAway : Room := { frames := 8, cells := 0, slots := 0, locals := 188 }
set_option maxRecDepth 100000 in
set_option maxHeartbeats 4000000 in
theorem wbX8_sentAway_h34 {p : Program} {l : Launch} {e : Env} {s : State} {m : MethodId} {args : Array Value} {below : List Frame} {meth : Method} {c : Code} {G : GT} {r : Int32} {z : XS} (C : CX G p s m args meth c cX8_sentAway 7 (some .int) RX8) {k34 : Int32 → Int32 → Int32 → Int32 → Int32 → XS → Option (Int32 × XS)} (hk34 : ∀ (u1 : Int32) (u2 : Int32) (u3 : Int32) (u4 : Int32) (u5 : Int32) (x : XS), k34 u1 u2 u3 u4 u5 x = some (r, z) → ∀ (H : Heap) (locs : List Loc) (ls : Array Slot), SR G x H locs → lv_has ls 7 [(0, .ref (G.1 + 99)), (1, .int u1), (2, .int u2), (3, .int u3), (4, .int u4), (5, .int u5)] → W p l e rmX8_sentAway s m args below meth c H locs 0 0 (MQ below (QC G (some (.int r)) z) args s 0 0 (AB G)) (F0 m 34 ls [])) : ∀ (u1 : Int32) (u2 : Int32) (u3 : Int32) (u4 : Int32) (u5 : Int32) (x : XS), bX8_sentAway_h34 k34 u1 u2 u3 u4 u5 x = some (r, z) → ∀ (H : Heap) (locs : List Loc) (ls : Array Slot), SR G x H locs → lv_has ls 7 [(0, .ref (G.1 + 99)), (1, .int u1), (2, .int u2), (3, .int u3), (4, .int u4), (5, .int u5)] → W p l e rmX8_sentAway s m args below meth c H locs 0 0 (MQ below (QC G (some (.int r)) z) args s 0 0 (AB G)) (F0 m 34 ls []) := by
  intro u1 u2 u3 u4 u5 x hf H locs ls hS hl
  have hx := C.1
  have hb := C.2.1
  have hown := C.2.2.2.2.2.1
  have hw := C.2.2.2.2.2.2.1
  unfold bX8_sentAway_h34 at hf
  refine lv_iload hx hb dX8_sentAway_34 (lv_at hl 5 rfl) ?_
  refine lv_aload_n hx hb dX8_sentAway_36 rfl (lv_at hl 0 rfl) ?_
  refine gf7_0 C hS (rfl) g_805 dX8_sentAway_37 ?_
  refine lv_iconst (v := 1) hx hb dX8_sentAway_40 (by decide) ?_
  obtain ⟨gg_9, hf⟩ := gd_out hf
  refine alI C hS (rfl) rfl gg_9 dX8_sentAway_41 ?_
  refine lv_icmp_ge (tgt := 91) hx hb dX8_sentAway_42 (by decide) (fun c_10 => ?_) (fun c_10 => ?_)
  · replace hf := if_p c_10 hf
    refine lv_iload_n hx hb dX8_sentAway_91 rfl (lv_at hl 3 rfl) ?_
    refine lv_if_ge (tgt := 100) hx hb dX8_sentAway_92 (by decide) (fun c_11 => ?_) (fun c_11 => ?_)
    · replace hf := if_p c_11 hf
      refine lv_iload_n hx hb dX8_sentAway_100 rfl (lv_at hl 2 rfl) ?_
      refine lv_if_ne (tgt := 108) hx hb dX8_sentAway_101 (by decide) (fun c_12 => ?_) (fun c_12 => ?_)
      · replace hf := if_n c_12 hf
        refine lv_iload hx hb dX8_sentAway_108 (lv_at hl 4 rfl) ?_
        exact rtI C hS hf dX8_sentAway_110
      · replace hf := if_p c_12 hf
        refine lv_iload_n hx hb dX8_sentAway_104 rfl (lv_at hl 3 rfl) ?_
        refine lv_goto (tgt := 110) hx hb dX8_sentAway_105 (by decide) ?_
        exact rtI C hS hf dX8_sentAway_110
    · replace hf := if_n c_11 hf
      refine lv_ldc (v := (-1000000005)) hx hb hown (hw _ g_1063) dX8_sentAway_95 ?_
      refine lv_goto (tgt := 110) hx hb dX8_sentAway_97 (by decide) ?_
      exact rtI C hS hf dX8_sentAway_110
  · replace hf := if_n c_10 hf
    refine lv_aload_n hx hb dX8_sentAway_45 rfl (lv_at hl 0 rfl) ?_
    refine lv_iload hx hb dX8_sentAway_46 (lv_at hl 5 rfl) ?_
    obtain ⟨x_13, ex_13, hf⟩ := st_out hf
    refine pf7_4 C hS (rfl) g_809 ex_13 dX8_sentAway_48 (fun H locs hS => ?_)
    refine lv_aload_n hx hb dX8_sentAway_51 rfl (lv_at hl 0 rfl) ?_
    refine lv_iload_n hx hb dX8_sentAway_52 rfl (lv_at hl 1 rfl) ?_
    obtain ⟨r_14, x_15, qr_14, hf⟩ := bd_out hf
    refine rvV (As := [.int u1]) (rest := []) C hS (rfl) rfl KX8_goesOn (cX8_goesOn_ qr_14) g_1025 ⟨rfl, rfl⟩ ⟨(Nat.le_of_ble_eq_true rfl), (Nat.le_of_ble_eq_true rfl)⟩ hl.1 rfl rfl (Nat.le_of_ble_eq_true rfl) ⟨Nat.zero_le _, Nat.zero_le _⟩ dX8_sentAway_53 (fun H locs hS => ?_)
    refine lv_aload_n hx hb dX8_sentAway_56 rfl (lv_at hl 0 rfl) ?_
    refine lv_iconst (v := 4) hx hb dX8_sentAway_57 (by decide) ?_
    obtain ⟨r_16, x_17, qr_16, hf⟩ := bd_out hf
    refine rvI (As := [.int 4]) (rest := []) C hS (rfl) rfl KX8_sumOf (cX8_sumOf_ qr_16) g_1021 ⟨rfl, rfl⟩ ⟨(Nat.le_of_ble_eq_true rfl), (Nat.le_of_ble_eq_true rfl)⟩ hl.1 rfl rfl (Nat.le_of_ble_eq_true rfl) ⟨Nat.zero_le _, Nat.zero_le _⟩ dX8_sentAway_58 (fun H locs hS => ?_)
    refine lv_istore (lv' := [(6, .int r_16), (0, .ref (G.1 + 99)), (1, .int u1), (2, .int u2), (3, .int u3), (4, .int u4), (5, .int u5)]) hx hb dX8_sentAway_61 hl (by decide) rfl (fun ls hl => ?_)
    refine lv_aload_n hx hb dX8_sentAway_63 rfl (lv_at hl 1 rfl) ?_
    obtain ⟨r_18, x_19, qr_18, hf⟩ := bd_out hf
    refine rvV (As := []) (rest := []) C hS (rfl) rfl KX8_putsBack (cX8_putsBack_ qr_18) g_1073 ⟨rfl, rfl⟩ ⟨(Nat.le_of_ble_eq_true rfl), (Nat.le_of_ble_eq_true rfl)⟩ hl.1 rfl rfl (Nat.le_of_ble_eq_true rfl) ⟨Nat.zero_le _, Nat.zero_le _⟩ dX8_sentAway_64 (fun H locs hS => ?_)
    refine lv_iload_n hx hb dX8_sentAway_67 rfl (lv_at hl 4 rfl) ?_
    refine lv_if_lt (tgt := 78) hx hb dX8_sentAway_68 (by decide) (fun c_20 => ?_) (fun c_20 => ?_)
    · replace hf := if_p c_20 hf
      refine lv_iload hx hb dX8_sentAway_78 (lv_at hl 6 rfl) ?_
      refine lv_istore_n (lv' := [(3, .int u5), (6, .int r_16), (0, .ref (G.1 + 99)), (1, .int u1), (2, .int u2), (4, .int u4), (5, .int u5)]) hx hb dX8_sentAway_80 rfl hl (by decide) rfl (fun ls hl => ?_)
      refine lv_iload hx hb dX8_sentAway_81 (lv_at hl 1 rfl) ?_
      refine lv_istore (lv' := [(4, .int r_16), (3, .int u5), (6, .int r_16), (0, .ref (G.1 + 99)), (1, .int u1), (2, .int u2), (5, .int u5)]) hx hb dX8_sentAway_83 hl (by decide) rfl (fun ls hl => ?_)
      obtain ⟨v_21, ev_21, hf⟩ := st_out hf
      refine lv_iinc (v := v_21) (lv' := [(5, .int v_21), (4, .int r_16), (3, .int u5), (6, .int r_16), (0, .ref (G.1 + 99)), (1, .int u1), (2, .int u2)]) hx hb dX8_sentAway_85 hl (k := 6) rfl (by rw [ev_21]; rfl) (by decide) rfl (fun ls hl => ?_)
      refine lv_goto (tgt := 34) hx hb dX8_sentAway_88 (by decide) ?_
      exact hk34 u1 u2 u5 r_16 v_21 x_19 hf _ _ _ hS (lv_sub hl [4, 5, 6, 2, 1, 0] rfl)
    · replace hf := if_n c_20 hf
      refine lv_iload hx hb dX8_sentAway_71 (lv_at hl 0 rfl) ?_
      refine lv_iload hx hb dX8_sentAway_73 (lv_at hl 5 rfl) ?_
      refine lv_icmp_le (tgt := 85) hx hb dX8_sentAway_75 (by decide) (fun c_22 => ?_) (fun c_22 => ?_)
      · replace hf := if_p c_22 hf
        obtain ⟨v_23, ev_23, hf⟩ := st_out hf
        refine lv_iinc (v := v_23) (lv' := [(5, .int v_23), (6, .int r_16), (0, .ref (G.1 + 99)), (1, .int u1), (2, .int u2), (3, .int u3), (4, .int u4)]) hx hb dX8_sentAway_85 hl (k := 6) rfl (by rw [ev_23]; rfl) (by decide) rfl (fun ls hl => ?_)
        refine lv_goto (tgt := 34) hx hb dX8_sentAway_88 (by decide) ?_
        exact hk34 u1 u2 u3 u4 v_23 x_19 hf _ _ _ hS (lv_sub hl [2, 3, 4, 5, 6, 0] rfl)
      · replace hf := if_n c_22 hf
        refine lv_iload hx hb dX8_sentAway_78 (lv_at hl 6 rfl) ?_
        refine lv_istore_n (lv' := [(3, .int u5), (6, .int r_16), (0, .ref (G.1 + 99)), (1, .int u1), (2, .int u2), (4, .int u4), (5, .int u5)]) hx hb dX8_sentAway_80 rfl hl (by decide) rfl (fun ls hl => ?_)
        refine lv_iload hx hb dX8_sentAway_81 (lv_at hl 1 rfl) ?_
        refine lv_istore (lv' := [(4, .int r_16), (3, .int u5), (6, .int r_16), (0, .ref (G.1 + 99)), (1, .int u1), (2, .int u2), (5, .int u5)]) hx hb dX8_sentAway_83 hl (by decide) rfl (fun ls hl => ?_)
        obtain ⟨v_24, ev_24, hf⟩ := st_out hf
        refine lv_iinc (v := v_24) (lv' := [(5, .int v_24), (4, .int r_16), (3, .int u5), (6, .int r_16), (0, .ref (G.1 + 99)), (1, .int u1), (2, .int u2)]) hx hb dX8_sentAway_85 hl (k := 6) rfl (by rw [ev_24]; rfl) (by decide) rfl (fun ls hl => ?_)
        refine lv_goto (tgt := 34) hx hb dX8_sentAway_88 (by decide) ?_
        exact hk34 u1 u2 u5 r_16 v_24 x_19 hf _ _ _ hS (lv_sub hl [4, 5, 6, 2, 1, 0] rfl)
theorem wlX8_sentAway_h34 {p : Program} {l : Launch} {e : Env} {s : State} {m : MethodId} {args : Array Value} {below : List Frame} {meth : Method} {c : Code} {G : GT} {r : Int32} {z : XS} (C : CX G p s m args meth c cX8_sentAway 7 (some .int) RX8) (n : Nat) : ∀ (u1 : Int32) (u2 : Int32) (u3 : Int32) (u4 : Int32) (u5 : Int32) (x : XS), lX8_sentAway_h34 n u1 u2 u3 u4 u5 x = some (r, z) → ∀ (H : Heap) (locs : List Loc) (ls : Array Slot), SR G x H locs → lv_has ls 7 [(0, .ref (G.1 + 99)), (1, .int u1), (2, .int u2), (3, .int u3), (4, .int u4), (5, .int u5)] → W p l e rmX8_sentAway s m args below meth c H locs 0 0 (MQ below (QC G (some (.int r)) z) args s 0 0 (AB G)) (F0 m 34 ls []) := by
  induction n with
  | zero => intro u1 u2 u3 u4 u5 x hf H locs ls hS hl; exact absurd hf (by intro q; cases q)
  | succ n ih => exact wbX8_sentAway_h34 C ih
theorem wX8_sentAway_h34 {p : Program} {l : Launch} {e : Env} {s : State} {m : MethodId} {args : Array Value} {below : List Frame} {meth : Method} {c : Code} {G : GT} {r : Int32} {z : XS} (C : CX G p s m args meth c cX8_sentAway 7 (some .int) RX8) : ∀ (u1 : Int32) (u2 : Int32) (u3 : Int32) (u4 : Int32) (u5 : Int32) (x : XS), fX8_sentAway_h34 u1 u2 u3 u4 u5 x = some (r, z) → ∀ (H : Heap) (locs : List Loc) (ls : Array Slot), SR G x H locs → lv_has ls 7 [(0, .ref (G.1 + 99)), (1, .int u1), (2, .int u2), (3, .int u3), (4, .int u4), (5, .int u5)] → W p l e rmX8_sentAway s m args below meth c H locs 0 0 (MQ below (QC G (some (.int r)) z) args s 0 0 (AB G)) (F0 m 34 ls []) := wlX8_sentAway_h34 C FU
set_option maxRecDepth 100000 in
set_option maxHeartbeats 4000000 in
theorem cX8_sentAway_ {G : GT} {l : Launch} {v1 : Int32} {v2 : Int32} {x z : XS} {r : Int32} (hf : fX8_sentAway v1 v2 x = some (r, z)) : Ct G l yX8_sentAway (.code yX8_sentAway cX8_sentAway 7 (some .int)) rmX8_sentAway [.ref (G.1 + 99), .int v1, .int v2] x (some (.int r)) z := by
  refine Ct.of (by decide +kernel) (Nat.le_of_ble_eq_true rfl) ?_
  intro p e s m args below meth c C ls hl hS
  have C : CX G p s m args meth c cX8_sentAway 7 (some .int) RX8 := C
  have hl : lv_has ls 7 [(0, .ref (G.1 + 99)), (1, .int v1), (2, .int v2)] := hl
  have hx := C.1
  have hb := C.2.1
  have hown := C.2.2.2.2.2.1
  have hw := C.2.2.2.2.2.2.1
  unfold fX8_sentAway at hf
  refine lv_iload_n hx hb dX8_sentAway_0 rfl (lv_at hl 1 rfl) ?_
  refine lv_iconst (v := 1) hx hb dX8_sentAway_1 (by decide) ?_
  refine lv_bipush (v := 60) hx hb dX8_sentAway_2 (by decide) ?_
  obtain ⟨r_1, x_2, qr_1, hf⟩ := bd_out hf
  refine rsI (As := [.int v1, .int 1, .int 60]) (rest := []) C hS KX8_in (cX8_in_ qr_1) g_914 ⟨rfl, rfl⟩ ⟨(Nat.le_of_ble_eq_true rfl), (Nat.le_of_ble_eq_true rfl)⟩ hl.1 rfl rfl (Nat.le_of_ble_eq_true rfl) ⟨Nat.zero_le _, Nat.zero_le _⟩ dX8_sentAway_4 (fun H locs hS => ?_)
  refine lv_if_eq (tgt := 19) hx hb dX8_sentAway_7 (by decide) (fun c_3 => ?_) (fun c_3 => ?_)
  · replace hf := if_p c_3 hf
    refine lv_ldc (v := (-1000000001)) hx hb hown (hw _ g_920) dX8_sentAway_19 ?_
    exact rtI C hS hf dX8_sentAway_21
  · replace hf := if_n c_3 hf
    refine lv_iload_n hx hb dX8_sentAway_10 rfl (lv_at hl 2 rfl) ?_
    refine lv_iconst (v := 0) hx hb dX8_sentAway_11 (by decide) ?_
    refine lv_iconst (v := 1) hx hb dX8_sentAway_12 (by decide) ?_
    obtain ⟨r_4, x_5, qr_4, hf⟩ := bd_out hf
    refine rsI (As := [.int v2, .int 0, .int 1]) (rest := []) C hS KX8_in (cX8_in_ qr_4) g_914 ⟨rfl, rfl⟩ ⟨(Nat.le_of_ble_eq_true rfl), (Nat.le_of_ble_eq_true rfl)⟩ hl.1 rfl rfl (Nat.le_of_ble_eq_true rfl) ⟨Nat.zero_le _, Nat.zero_le _⟩ dX8_sentAway_13 (fun H locs hS => ?_)
    refine lv_if_ne (tgt := 22) hx hb dX8_sentAway_16 (by decide) (fun c_6 => ?_) (fun c_6 => ?_)
    · replace hf := if_n c_6 hf
      refine lv_aload_n hx hb dX8_sentAway_22 rfl (lv_at hl 0 rfl) ?_
      obtain ⟨r_7, x_8, qr_7, hf⟩ := bd_out hf
      refine rvV (As := []) (rest := []) C hS (rfl) rfl KX8_thinks (cX8_thinks_ qr_7) g_1068 ⟨rfl, rfl⟩ ⟨(Nat.le_of_ble_eq_true rfl), (Nat.le_of_ble_eq_true rfl)⟩ hl.1 rfl rfl (Nat.le_of_ble_eq_true rfl) ⟨Nat.zero_le _, Nat.zero_le _⟩ dX8_sentAway_23 (fun H locs hS => ?_)
      refine lv_iconst (v := (-1)) hx hb dX8_sentAway_26 (by decide) ?_
      refine lv_istore_n (lv' := [(3, .int (-1)), (0, .ref (G.1 + 99)), (1, .int v1), (2, .int v2)]) hx hb dX8_sentAway_27 rfl hl (by decide) rfl (fun ls hl => ?_)
      refine lv_iconst (v := 0) hx hb dX8_sentAway_28 (by decide) ?_
      refine lv_istore (lv' := [(4, .int 0), (3, .int (-1)), (0, .ref (G.1 + 99)), (1, .int v1), (2, .int v2)]) hx hb dX8_sentAway_29 hl (by decide) rfl (fun ls hl => ?_)
      refine lv_iconst (v := 0) hx hb dX8_sentAway_31 (by decide) ?_
      refine lv_istore (lv' := [(5, .int 0), (4, .int 0), (3, .int (-1)), (0, .ref (G.1 + 99)), (1, .int v1), (2, .int v2)]) hx hb dX8_sentAway_32 hl (by decide) rfl (fun ls hl => ?_)
      exact wX8_sentAway_h34  C v1 v2 (-1) 0 0 x_8 hf _ _ _ hS (lv_sub hl [3, 4, 5, 2, 1, 0] rfl)
    · replace hf := if_p c_6 hf
      refine lv_ldc (v := (-1000000001)) hx hb hown (hw _ g_920) dX8_sentAway_19 ?_
      exact rtI C hS hf dX8_sentAway_21
abbrev rmX8_dry : Room := { frames := 8, cells := 0, slots := 0, locals := 188 }
set_option maxRecDepth 100000 in
set_option maxHeartbeats 4000000 in
theorem cX8_dry_ {G : GT} {l : Launch} {v1 : Int32} {x z : XS} {r : Int32} (hf : fX8_dry v1 x = some (r, z)) : Ct G l yX8_dry (.code yX8_dry cX8_dry 4 (some .int)) rmX8_dry [.ref (G.1 + 99), .int v1] x (some (.int r)) z := by
  refine Ct.of (by decide +kernel) (Nat.le_of_ble_eq_true rfl) ?_
  intro p e s m args below meth c C ls hl hS
  have C : CX G p s m args meth c cX8_dry 4 (some .int) RX8 := C
  have hl : lv_has ls 4 [(0, .ref (G.1 + 99)), (1, .int v1)] := hl
  have hx := C.1
  have hb := C.2.1
  have hown := C.2.2.2.2.2.1
  have hw := C.2.2.2.2.2.2.1
  unfold fX8_dry at hf
  refine lv_iload_n hx hb dX8_dry_0 rfl (lv_at hl 1 rfl) ?_
  refine lv_iconst (v := 1) hx hb dX8_dry_1 (by decide) ?_
  refine lv_bipush (v := 60) hx hb dX8_dry_2 (by decide) ?_
  obtain ⟨r_1, x_2, qr_1, hf⟩ := bd_out hf
  refine rsI (As := [.int v1, .int 1, .int 60]) (rest := []) C hS KX8_in (cX8_in_ qr_1) g_914 ⟨rfl, rfl⟩ ⟨(Nat.le_of_ble_eq_true rfl), (Nat.le_of_ble_eq_true rfl)⟩ hl.1 rfl rfl (Nat.le_of_ble_eq_true rfl) ⟨Nat.zero_le _, Nat.zero_le _⟩ dX8_dry_4 (fun H locs hS => ?_)
  refine lv_if_ne (tgt := 13) hx hb dX8_dry_7 (by decide) (fun c_3 => ?_) (fun c_3 => ?_)
  · replace hf := if_n c_3 hf
    refine lv_aload_n hx hb dX8_dry_13 rfl (lv_at hl 0 rfl) ?_
    obtain ⟨r_4, x_5, qr_4, hf⟩ := bd_out hf
    refine rvV (As := []) (rest := []) C hS (rfl) rfl KX8_thinks (cX8_thinks_ qr_4) g_1068 ⟨rfl, rfl⟩ ⟨(Nat.le_of_ble_eq_true rfl), (Nat.le_of_ble_eq_true rfl)⟩ hl.1 rfl rfl (Nat.le_of_ble_eq_true rfl) ⟨Nat.zero_le _, Nat.zero_le _⟩ dX8_dry_14 (fun H locs hS => ?_)
    refine lv_aload_n hx hb dX8_dry_17 rfl (lv_at hl 0 rfl) ?_
    refine lv_iload_n hx hb dX8_dry_18 rfl (lv_at hl 1 rfl) ?_
    obtain ⟨r_6, x_7, qr_6, hf⟩ := bd_out hf
    refine rvV (As := [.int v1]) (rest := []) C hS (rfl) rfl KX8_goesOn (cX8_goesOn_ qr_6) g_1025 ⟨rfl, rfl⟩ ⟨(Nat.le_of_ble_eq_true rfl), (Nat.le_of_ble_eq_true rfl)⟩ hl.1 rfl rfl (Nat.le_of_ble_eq_true rfl) ⟨Nat.zero_le _, Nat.zero_le _⟩ dX8_dry_19 (fun H locs hS => ?_)
    refine lv_aload_n hx hb dX8_dry_22 rfl (lv_at hl 0 rfl) ?_
    refine lv_iconst (v := 4) hx hb dX8_dry_23 (by decide) ?_
    obtain ⟨r_8, x_9, qr_8, hf⟩ := bd_out hf
    refine rvI (As := [.int 4]) (rest := []) C hS (rfl) rfl KX8_sumOf (cX8_sumOf_ qr_8) g_1021 ⟨rfl, rfl⟩ ⟨(Nat.le_of_ble_eq_true rfl), (Nat.le_of_ble_eq_true rfl)⟩ hl.1 rfl rfl (Nat.le_of_ble_eq_true rfl) ⟨Nat.zero_le _, Nat.zero_le _⟩ dX8_dry_24 (fun H locs hS => ?_)
    refine lv_istore_n (lv' := [(2, .int r_8), (0, .ref (G.1 + 99)), (1, .int v1)]) hx hb dX8_dry_27 rfl hl (by decide) rfl (fun ls hl => ?_)
    refine lv_aload_n hx hb dX8_dry_28 rfl (lv_at hl 1 rfl) ?_
    obtain ⟨r_10, x_11, qr_10, hf⟩ := bd_out hf
    refine rvV (As := []) (rest := []) C hS (rfl) rfl KX8_putsBack (cX8_putsBack_ qr_10) g_1073 ⟨rfl, rfl⟩ ⟨(Nat.le_of_ble_eq_true rfl), (Nat.le_of_ble_eq_true rfl)⟩ hl.1 rfl rfl (Nat.le_of_ble_eq_true rfl) ⟨Nat.zero_le _, Nat.zero_le _⟩ dX8_dry_29 (fun H locs hS => ?_)
    refine lv_aload_n hx hb dX8_dry_32 rfl (lv_at hl 1 rfl) ?_
    refine gf7_0 C hS (rfl) g_805 dX8_dry_33 ?_
    refine lv_iconst (v := 5) hx hb dX8_dry_36 (by decide) ?_
    refine lv_iconst (v := 0) hx hb dX8_dry_37 (by decide) ?_
    obtain ⟨gg_12, hf⟩ := gd_out hf
    obtain ⟨x_13, ex_13, hf⟩ := st_out hf
    refine asI C hS (rfl) rfl gg_12 ex_13 dX8_dry_38 (fun H locs hS => ?_)
    refine lv_aload_n hx hb dX8_dry_39 rfl (lv_at hl 1 rfl) ?_
    refine gf7_0 C hS (rfl) g_805 dX8_dry_40 ?_
    refine lv_iconst (v := 4) hx hb dX8_dry_43 (by decide) ?_
    refine lv_iconst (v := 0) hx hb dX8_dry_44 (by decide) ?_
    obtain ⟨gg_14, hf⟩ := gd_out hf
    obtain ⟨x_15, ex_15, hf⟩ := st_out hf
    refine asI C hS (rfl) rfl gg_14 ex_15 dX8_dry_45 (fun H locs hS => ?_)
    refine lv_aload_n hx hb dX8_dry_46 rfl (lv_at hl 1 rfl) ?_
    refine lv_iload_n hx hb dX8_dry_47 rfl (lv_at hl 2 rfl) ?_
    obtain ⟨r_16, x_17, qr_16, hf⟩ := bd_out hf
    refine rvV (As := [.int v1]) (rest := []) C hS (rfl) rfl KX8_goesOn (cX8_goesOn_ qr_16) g_1025 ⟨rfl, rfl⟩ ⟨(Nat.le_of_ble_eq_true rfl), (Nat.le_of_ble_eq_true rfl)⟩ hl.1 rfl rfl (Nat.le_of_ble_eq_true rfl) ⟨Nat.zero_le _, Nat.zero_le _⟩ dX8_dry_48 (fun H locs hS => ?_)
    refine lv_aload_n hx hb dX8_dry_51 rfl (lv_at hl 1 rfl) ?_
    refine lv_iconst (v := 4) hx hb dX8_dry_52 (by decide) ?_
    obtain ⟨r_18, x_19, qr_18, hf⟩ := bd_out hf
    refine rvI (As := [.int 4]) (rest := []) C hS (rfl) rfl KX8_sumOf (cX8_sumOf_ qr_18) g_1021 ⟨rfl, rfl⟩ ⟨(Nat.le_of_ble_eq_true rfl), (Nat.le_of_ble_eq_true rfl)⟩ hl.1 rfl rfl (Nat.le_of_ble_eq_true rfl) ⟨Nat.zero_le _, Nat.zero_le _⟩ dX8_dry_53 (fun H locs hS => ?_)
    refine lv_istore_n (lv' := [(3, .int r_18), (2, .int r_8), (0, .ref (G.1 + 99)), (1, .int v1)]) hx hb dX8_dry_56 rfl hl (by decide) rfl (fun ls hl => ?_)
    refine lv_aload_n hx hb dX8_dry_57 rfl (lv_at hl 2 rfl) ?_
    obtain ⟨r_20, x_21, qr_20, hf⟩ := bd_out hf
    refine rvV (As := []) (rest := []) C hS (rfl) rfl KX8_putsBack (cX8_putsBack_ qr_20) g_1073 ⟨rfl, rfl⟩ ⟨(Nat.le_of_ble_eq_true rfl), (Nat.le_of_ble_eq_true rfl)⟩ hl.1 rfl rfl (Nat.le_of_ble_eq_true rfl) ⟨Nat.zero_le _, Nat.zero_le _⟩ dX8_dry_58 (fun H locs hS => ?_)
    refine lv_iload_n hx hb dX8_dry_61 rfl (lv_at hl 0 rfl) ?_
    refine lv_iload_n hx hb dX8_dry_62 rfl (lv_at hl 1 rfl) ?_
    refine lv_isub hx hb dX8_dry_63 ?_
    exact rtI C hS hf dX8_dry_64
  · replace hf := if_p c_3 hf
    refine lv_ldc (v := (-1000000001)) hx hb hown (hw _ g_920) dX8_dry_10 ?_
    exact rtI C hS hf dX8_dry_12
abbrev rmX8_offBy : Room := { frames := 4, cells := 0, slots := 0, locals := 94 }
set_option maxRecDepth 100000 in
set_option maxHeartbeats 4000000 in
theorem wX8_offBy_h72 {p : Program} {l : Launch} {e : Env} {s : State} {m : MethodId} {args : Array Value} {below : List Frame} {meth : Method} {c : Code} {G : GT} {r : Int64} {z : XS} (C : CX G p s m args meth c cX8_offBy 9 (some .long) RX8) {k5 : Int32 → Int32 → Int64 → Int32 → XS → Option (Int64 × XS)} (hk5 : ∀ (u1 : Int32) (u2 : Int32) (u3 : Int64) (u5 : Int32) (x : XS), k5 u1 u2 u3 u5 x = some (r, z) → ∀ (H : Heap) (locs : List Loc) (ls : Array Slot), SR G x H locs → lv_has ls 9 [(0, .ref (G.1 + 99)), (1, .int u1), (2, .int u2), (3, .long u3), (5, .int u5)] → W p l e rmX8_offBy s m args below meth c H locs 0 0 (MQ below (QC G (some (.long r)) z) args s 0 0 (AB G)) (F0 m 5 ls [])) : ∀ (u1 : Int32) (u2 : Int32) (u5 : Int32) (s0 : Int64) (s1 : Int64) (x : XS), fX8_offBy_h72 k5 u1 u2 u5 s0 s1 x = some (r, z) → ∀ (H : Heap) (locs : List Loc) (ls : Array Slot), SR G x H locs → lv_has ls 9 [(0, .ref (G.1 + 99)), (1, .int u1), (2, .int u2), (5, .int u5)] → W p l e rmX8_offBy s m args below meth c H locs 0 0 (MQ below (QC G (some (.long r)) z) args s 0 0 (AB G)) (F0 m 72 ls [.long s1, .long s0]) := by
  intro u1 u2 u5 s0 s1 x hf H locs ls hS hl
  have hx := C.1
  have hb := C.2.1
  have hown := C.2.2.2.2.2.1
  have hw := C.2.2.2.2.2.2.1
  unfold fX8_offBy_h72 at hf
  refine lv_ladd hx hb dX8_offBy_72 ?_
  obtain ⟨v_13, ev_13, hf⟩ := st_out hf
  refine topJ ev_13 ?_
  refine lv_lstore_n (lv' := [(3, .long v_13), (0, .ref (G.1 + 99)), (1, .int u1), (2, .int u2), (5, .int u5)]) hx hb dX8_offBy_73 rfl hl (by decide) rfl (fun ls hl => ?_)
  obtain ⟨v_14, ev_14, hf⟩ := st_out hf
  refine lv_iinc (v := v_14) (lv' := [(5, .int v_14), (3, .long v_13), (0, .ref (G.1 + 99)), (1, .int u1), (2, .int u2)]) hx hb dX8_offBy_74 hl (k := 4) rfl (by rw [ev_14]; rfl) (by decide) rfl (fun ls hl => ?_)
  refine lv_goto (tgt := 5) hx hb dX8_offBy_77 (by decide) ?_
  exact hk5 u1 u2 v_13 v_14 x hf _ _ _ hS (lv_sub hl [2, 3, 4, 1, 0] rfl)
set_option maxRecDepth 100000 in
set_option maxHeartbeats 4000000 in
theorem wbX8_offBy_h5 {p : Program} {l : Launch} {e : Env} {s : State} {m : MethodId} {args : Array Value} {below : List Frame} {meth : Method} {c : Code} {G : GT} {r : Int64} {z : XS} (C : CX G p s m args meth c cX8_offBy 9 (some .long) RX8) {k5 : Int32 → Int32 → Int64 → Int32 → XS → Option (Int64 × XS)} (hk5 : ∀ (u1 : Int32) (u2 : Int32) (u3 : Int64) (u5 : Int32) (x : XS), k5 u1 u2 u3 u5 x = some (r, z) → ∀ (H : Heap) (locs : List Loc) (ls : Array Slot), SR G x H locs → lv_has ls 9 [(0, .ref (G.1 + 99)), (1, .int u1), (2, .int u2), (3, .long u3), (5, .int u5)] → W p l e rmX8_offBy s m args below meth c H locs 0 0 (MQ below (QC G (some (.long r)) z) args s 0 0 (AB G)) (F0 m 5 ls [])) : ∀ (u1 : Int32) (u2 : Int32) (u3 : Int64) (u5 : Int32) (x : XS), bX8_offBy_h5 k5 u1 u2 u3 u5 x = some (r, z) → ∀ (H : Heap) (locs : List Loc) (ls : Array Slot), SR G x H locs → lv_has ls 9 [(0, .ref (G.1 + 99)), (1, .int u1), (2, .int u2), (3, .long u3), (5, .int u5)] → W p l e rmX8_offBy s m args below meth c H locs 0 0 (MQ below (QC G (some (.long r)) z) args s 0 0 (AB G)) (F0 m 5 ls []) := by
  intro u1 u2 u3 u5 x hf H locs ls hS hl
  have hx := C.1
  have hb := C.2.1
  have hown := C.2.2.2.2.2.1
  have hw := C.2.2.2.2.2.2.1
  unfold bX8_offBy_h5 at hf
  refine lv_iload hx hb dX8_offBy_5 (lv_at hl 4 rfl) ?_
  refine lv_aload_n hx hb dX8_offBy_7 rfl (lv_at hl 0 rfl) ?_
  refine gf7_25 C hS (rfl) g_830 dX8_offBy_8 ?_
  refine lv_iload_n hx hb dX8_offBy_11 rfl (lv_at hl 1 rfl) ?_
  obtain ⟨gg_1, hf⟩ := gd_out hf
  refine alI C hS (rfl) rfl gg_1 dX8_offBy_12 ?_
  refine lv_icmp_ge (tgt := 80) hx hb dX8_offBy_13 (by decide) (fun c_2 => ?_) (fun c_2 => ?_)
  · replace hf := if_p c_2 hf
    refine lv_lload_n hx hb dX8_offBy_80 rfl (lv_at hl 3 rfl) ?_
    exact rtJ C hS hf dX8_offBy_81
  · replace hf := if_n c_2 hf
    refine lv_aload_n hx hb dX8_offBy_16 rfl (lv_at hl 0 rfl) ?_
    refine gf7_26 C hS (rfl) g_831 dX8_offBy_17 ?_
    refine lv_bipush (v := 24) hx hb dX8_offBy_20 (by decide) ?_
    refine lv_iload_n hx hb dX8_offBy_22 rfl (lv_at hl 1 rfl) ?_
    refine lv_imul hx hb dX8_offBy_23 ?_
    refine lv_iload hx hb dX8_offBy_24 (lv_at hl 4 rfl) ?_
    refine lv_iadd hx hb dX8_offBy_26 ?_
    obtain ⟨gg_3, hf⟩ := gd_out hf
    refine alI C hS (rfl) rfl gg_3 dX8_offBy_27 ?_
    obtain ⟨v_4, ev_4, hf⟩ := st_out hf
    refine topI ev_4 ?_
    refine lv_istore (lv' := [(6, .int v_4), (0, .ref (G.1 + 99)), (1, .int u1), (2, .int u2), (3, .long u3), (5, .int u5)]) hx hb dX8_offBy_28 hl (by decide) rfl (fun ls hl => ?_)
    refine lv_iload hx hb dX8_offBy_30 (lv_at hl 0 rfl) ?_
    obtain ⟨v_5, ev_5, hf⟩ := st_out hf
    refine lv_i2l (v := v_5) hx hb dX8_offBy_32 ev_5.symm ?_
    refine lv_aload_n hx hb dX8_offBy_33 rfl (lv_at hl 1 rfl) ?_
    refine lv_iload_n hx hb dX8_offBy_34 rfl (lv_at hl 3 rfl) ?_
    refine lv_iload hx hb dX8_offBy_35 (lv_at hl 5 rfl) ?_
    refine lv_iconst (v := 0) hx hb dX8_offBy_37 (by decide) ?_
    obtain ⟨r_6, x_7, qr_6, hf⟩ := bd_out hf
    refine rvI (As := [.int u2, .int u5, .int 0]) (rest := [.long v_5]) C hS (rfl) rfl KX8_shineOf (cX8_shineOf_ qr_6) g_958 ⟨rfl, rfl⟩ ⟨(Nat.le_of_ble_eq_true rfl), (Nat.le_of_ble_eq_true rfl)⟩ hl.1 rfl rfl (Nat.le_of_ble_eq_true rfl) ⟨Nat.zero_le _, Nat.zero_le _⟩ dX8_offBy_38 (fun H locs hS => ?_)
    obtain ⟨v_8, ev_8, hf⟩ := st_out hf
    refine lv_i2l (v := v_8) hx hb dX8_offBy_41 ev_8.symm ?_
    refine lv_lsub hx hb dX8_offBy_42 ?_
    obtain ⟨v_9, ev_9, hf⟩ := st_out hf
    refine topJ ev_9 ?_
    refine lv_lstore (lv' := [(7, .long v_9), (6, .int v_4), (0, .ref (G.1 + 99)), (1, .int u1), (2, .int u2), (3, .long u3), (5, .int u5)]) hx hb dX8_offBy_43 hl (by decide) rfl (fun ls hl => ?_)
    refine lv_lload_n hx hb dX8_offBy_45 rfl (lv_at hl 5 rfl) ?_
    refine lv_iload hx hb dX8_offBy_46 (lv_at hl 1 rfl) ?_
    refine lv_ldc (v := (-1000000005)) hx hb hown (hw _ g_1063) dX8_offBy_48 ?_
    refine lv_icmp_ne (tgt := 57) hx hb dX8_offBy_50 (by decide) (fun c_10 => ?_) (fun c_10 => ?_)
    · replace hf := if_n c_10 hf
      refine lv_lload hx hb dX8_offBy_57 (lv_at hl 0 rfl) ?_
      refine lv_lconst (v := 0) hx hb dX8_offBy_59 (by decide) ?_
      refine W.lcmp hx hb dX8_offBy_60 ?_
      obtain ⟨v_11, ev_11, hf⟩ := st_out hf
      refine topI ev_11 ?_
      refine lv_if_ge (tgt := 70) hx hb dX8_offBy_61 (by decide) (fun c_12 => ?_) (fun c_12 => ?_)
      · replace hf := if_p c_12 hf
        refine lv_lload hx hb dX8_offBy_70 (lv_at hl 0 rfl) ?_
        exact wX8_offBy_h72  C hk5 u1 u2 u5 u3 v_9 x_7 hf _ _ _ hS (lv_sub hl [2, 3, 4, 6] rfl)
      · replace hf := if_n c_12 hf
        refine lv_lload hx hb dX8_offBy_64 (lv_at hl 0 rfl) ?_
        refine lv_lneg hx hb dX8_offBy_66 ?_
        refine lv_goto (tgt := 72) hx hb dX8_offBy_67 (by decide) ?_
        exact wX8_offBy_h72  C hk5 u1 u2 u5 u3 (-v_9) x_7 hf _ _ _ hS (lv_sub hl [2, 3, 4, 6] rfl)
    · replace hf := if_p c_10 hf
      refine lv_lconst (v := 0) hx hb dX8_offBy_53 (by decide) ?_
      refine lv_goto (tgt := 72) hx hb dX8_offBy_54 (by decide) ?_
      exact wX8_offBy_h72  C hk5 u1 u2 u5 u3 0 x_7 hf _ _ _ hS (lv_sub hl [2, 3, 4, 6] rfl)
theorem wlX8_offBy_h5 {p : Program} {l : Launch} {e : Env} {s : State} {m : MethodId} {args : Array Value} {below : List Frame} {meth : Method} {c : Code} {G : GT} {r : Int64} {z : XS} (C : CX G p s m args meth c cX8_offBy 9 (some .long) RX8) (n : Nat) : ∀ (u1 : Int32) (u2 : Int32) (u3 : Int64) (u5 : Int32) (x : XS), lX8_offBy_h5 n u1 u2 u3 u5 x = some (r, z) → ∀ (H : Heap) (locs : List Loc) (ls : Array Slot), SR G x H locs → lv_has ls 9 [(0, .ref (G.1 + 99)), (1, .int u1), (2, .int u2), (3, .long u3), (5, .int u5)] → W p l e rmX8_offBy s m args below meth c H locs 0 0 (MQ below (QC G (some (.long r)) z) args s 0 0 (AB G)) (F0 m 5 ls []) := by
  induction n with
  | zero => intro u1 u2 u3 u5 x hf H locs ls hS hl; exact absurd hf (by intro q; cases q)
  | succ n ih => exact wbX8_offBy_h5 C ih
theorem wX8_offBy_h5 {p : Program} {l : Launch} {e : Env} {s : State} {m : MethodId} {args : Array Value} {below : List Frame} {meth : Method} {c : Code} {G : GT} {r : Int64} {z : XS} (C : CX G p s m args meth c cX8_offBy 9 (some .long) RX8) : ∀ (u1 : Int32) (u2 : Int32) (u3 : Int64) (u5 : Int32) (x : XS), fX8_offBy_h5 u1 u2 u3 u5 x = some (r, z) → ∀ (H : Heap) (locs : List Loc) (ls : Array Slot), SR G x H locs → lv_has ls 9 [(0, .ref (G.1 + 99)), (1, .int u1), (2, .int u2), (3, .long u3), (5, .int u5)] → W p l e rmX8_offBy s m args below meth c H locs 0 0 (MQ below (QC G (some (.long r)) z) args s 0 0 (AB G)) (F0 m 5 ls []) := wlX8_offBy_h5 C FU
set_option maxRecDepth 100000 in
set_option maxHeartbeats 4000000 in
theorem cX8_offBy_ {G : GT} {l : Launch} {v1 : Int32} {v2 : Int32} {x z : XS} {r : Int64} (hf : fX8_offBy v1 v2 x = some (r, z)) : Ct G l yX8_offBy (.code yX8_offBy cX8_offBy 9 (some .long)) rmX8_offBy [.ref (G.1 + 99), .int v1, .int v2] x (some (.long r)) z := by
  refine Ct.of (by decide +kernel) (Nat.le_of_ble_eq_true rfl) ?_
  intro p e s m args below meth c C ls hl hS
  have C : CX G p s m args meth c cX8_offBy 9 (some .long) RX8 := C
  have hl : lv_has ls 9 [(0, .ref (G.1 + 99)), (1, .int v1), (2, .int v2)] := hl
  have hx := C.1
  have hb := C.2.1
  have hown := C.2.2.2.2.2.1
  have hw := C.2.2.2.2.2.2.1
  unfold fX8_offBy at hf
  refine lv_lconst (v := 0) hx hb dX8_offBy_0 (by decide) ?_
  refine lv_lstore_n (lv' := [(3, .long 0), (0, .ref (G.1 + 99)), (1, .int v1), (2, .int v2)]) hx hb dX8_offBy_1 rfl hl (by decide) rfl (fun ls hl => ?_)
  refine lv_iconst (v := 0) hx hb dX8_offBy_2 (by decide) ?_
  refine lv_istore (lv' := [(5, .int 0), (3, .long 0), (0, .ref (G.1 + 99)), (1, .int v1), (2, .int v2)]) hx hb dX8_offBy_3 hl (by decide) rfl (fun ls hl => ?_)
  exact wX8_offBy_h5  C v1 v2 0 0 x hf _ _ _ hS (lv_sub hl [2, 3, 4, 1, 0] rfl)
abbrev rmX8_isSheet : Room := { frames := 1, cells := 0, slots := 0, locals := 22 }
set_option maxRecDepth 100000 in
set_option maxHeartbeats 4000000 in
theorem cX8_isSheet_ {G : GT} {l : Launch} {v0 : Int32} {x z : XS} {r : Int32} (hf : fX8_isSheet v0 x = some (r, z)) : Ct G l yX8_isSheet (.code yX8_isSheet cX8_isSheet 1 (some .boolean)) rmX8_isSheet [.int v0] x (some (.int r)) z := by
  refine Ct.of (by decide +kernel) (Nat.le_of_ble_eq_true rfl) ?_
  intro p e s m args below meth c C ls hl hS
  have C : CX G p s m args meth c cX8_isSheet 1 (some .boolean) RX8 := C
  have hl : lv_has ls 1 [(0, .int v0)] := hl
  have hx := C.1
  have hb := C.2.1
  have hown := C.2.2.2.2.2.1
  have hw := C.2.2.2.2.2.2.1
  unfold fX8_isSheet at hf
  refine lv_iload_n hx hb dX8_isSheet_0 rfl (lv_at hl 0 rfl) ?_
  refine lv_iconst (v := 0) hx hb dX8_isSheet_1 (by decide) ?_
  refine lv_iconst (v := 3) hx hb dX8_isSheet_2 (by decide) ?_
  obtain ⟨r_1, x_2, qr_1, hf⟩ := bd_out hf
  refine rsI (As := [.int v0, .int 0, .int 3]) (rest := []) C hS KX8_in (cX8_in_ qr_1) g_914 ⟨rfl, rfl⟩ ⟨(Nat.le_of_ble_eq_true rfl), (Nat.le_of_ble_eq_true rfl)⟩ hl.1 rfl rfl (Nat.le_of_ble_eq_true rfl) ⟨Nat.zero_le _, Nat.zero_le _⟩ dX8_isSheet_3 (fun H locs hS => ?_)
  obtain ⟨gg_3, hf⟩ := gd_out hf
  exact rtZ C hS (isB_n gg_3) hf dX8_isSheet_6
abbrev rmX8_shone : Room := { frames := 5, cells := 0, slots := 0, locals := 122 }
set_option maxRecDepth 100000 in
set_option maxHeartbeats 4000000 in
theorem wbX8_shone_h39 {p : Program} {l : Launch} {e : Env} {s : State} {m : MethodId} {args : Array Value} {below : List Frame} {meth : Method} {c : Code} {G : GT} {r : Int32} {z : XS} (C : CX G p s m args meth c cX8_shone 9 (some .int) RX8) {k39 : Int32 → Int32 → Int32 → Int64 → Int32 → XS → Option (Int32 × XS)} (hk39 : ∀ (u1 : Int32) (u2 : Int32) (u3 : Int32) (u4 : Int64) (u6 : Int32) (x : XS), k39 u1 u2 u3 u4 u6 x = some (r, z) → ∀ (H : Heap) (locs : List Loc) (ls : Array Slot), SR G x H locs → lv_has ls 9 [(0, .ref (G.1 + 99)), (1, .int u1), (2, .int u2), (3, .int u3), (4, .long u4), (6, .int u6)] → W p l e rmX8_shone s m args below meth c H locs 0 0 (MQ below (QC G (some (.int r)) z) args s 0 0 (AB G)) (F0 m 39 ls [])) : ∀ (u1 : Int32) (u2 : Int32) (u3 : Int32) (u4 : Int64) (u6 : Int32) (x : XS), bX8_shone_h39 k39 u1 u2 u3 u4 u6 x = some (r, z) → ∀ (H : Heap) (locs : List Loc) (ls : Array Slot), SR G x H locs → lv_has ls 9 [(0, .ref (G.1 + 99)), (1, .int u1), (2, .int u2), (3, .int u3), (4, .long u4), (6, .int u6)] → W p l e rmX8_shone s m args below meth c H locs 0 0 (MQ below (QC G (some (.int r)) z) args s 0 0 (AB G)) (F0 m 39 ls []) := by
  intro u1 u2 u3 u4 u6 x hf H locs ls hS hl
  have hx := C.1
  have hb := C.2.1
  have hown := C.2.2.2.2.2.1
  have hw := C.2.2.2.2.2.2.1
  unfold bX8_shone_h39 at hf
  refine lv_iload hx hb dX8_shone_39 (lv_at hl 5 rfl) ?_
  refine lv_aload_n hx hb dX8_shone_41 rfl (lv_at hl 0 rfl) ?_
  refine gf7_0 C hS (rfl) g_805 dX8_shone_42 ?_
  refine lv_iconst (v := 1) hx hb dX8_shone_45 (by decide) ?_
  obtain ⟨gg_9, hf⟩ := gd_out hf
  refine alI C hS (rfl) rfl gg_9 dX8_shone_46 ?_
  refine lv_icmp_ge (tgt := 84) hx hb dX8_shone_47 (by decide) (fun c_10 => ?_) (fun c_10 => ?_)
  · replace hf := if_p c_10 hf
    refine lv_iload_n hx hb dX8_shone_84 rfl (lv_at hl 3 rfl) ?_
    refine lv_if_ge (tgt := 93) hx hb dX8_shone_85 (by decide) (fun c_11 => ?_) (fun c_11 => ?_)
    · replace hf := if_p c_11 hf
      refine lv_iload_n hx hb dX8_shone_93 rfl (lv_at hl 2 rfl) ?_
      refine lv_if_ne (tgt := 101) hx hb dX8_shone_94 (by decide) (fun c_12 => ?_) (fun c_12 => ?_)
      · replace hf := if_n c_12 hf
        refine lv_lload hx hb dX8_shone_101 (lv_at hl 4 rfl) ?_
        obtain ⟨v_13, ev_13, hf⟩ := st_out hf
        refine lv_l2i (v := v_13) hx hb dX8_shone_103 ev_13.symm ?_
        exact rtI C hS hf dX8_shone_104
      · replace hf := if_p c_12 hf
        refine lv_iload_n hx hb dX8_shone_97 rfl (lv_at hl 3 rfl) ?_
        refine lv_goto (tgt := 104) hx hb dX8_shone_98 (by decide) ?_
        exact rtI C hS hf dX8_shone_104
    · replace hf := if_n c_11 hf
      refine lv_ldc (v := (-1000000005)) hx hb hown (hw _ g_1063) dX8_shone_88 ?_
      refine lv_goto (tgt := 104) hx hb dX8_shone_90 (by decide) ?_
      exact rtI C hS hf dX8_shone_104
  · replace hf := if_n c_10 hf
    refine lv_aload_n hx hb dX8_shone_50 rfl (lv_at hl 0 rfl) ?_
    refine lv_iload_n hx hb dX8_shone_51 rfl (lv_at hl 1 rfl) ?_
    refine lv_iload hx hb dX8_shone_52 (lv_at hl 5 rfl) ?_
    obtain ⟨r_14, x_15, qr_14, hf⟩ := bd_out hf
    refine rvJ (As := [.int u1, .int u6]) (rest := []) C hS (rfl) rfl KX8_offBy (cX8_offBy_ qr_14) g_1101 ⟨rfl, rfl⟩ ⟨(Nat.le_of_ble_eq_true rfl), (Nat.le_of_ble_eq_true rfl)⟩ hl.1 rfl rfl (Nat.le_of_ble_eq_true rfl) ⟨Nat.zero_le _, Nat.zero_le _⟩ dX8_shone_54 (fun H locs hS => ?_)
    refine lv_lstore (lv' := [(7, .long r_14), (0, .ref (G.1 + 99)), (1, .int u1), (2, .int u2), (3, .int u3), (4, .long u4), (6, .int u6)]) hx hb dX8_shone_57 hl (by decide) rfl (fun ls hl => ?_)
    refine lv_iload_n hx hb dX8_shone_59 rfl (lv_at hl 4 rfl) ?_
    refine lv_if_lt (tgt := 71) hx hb dX8_shone_60 (by decide) (fun c_16 => ?_) (fun c_16 => ?_)
    · replace hf := if_p c_16 hf
      refine lv_iload hx hb dX8_shone_71 (lv_at hl 6 rfl) ?_
      refine lv_istore_n (lv' := [(3, .int u6), (7, .long r_14), (0, .ref (G.1 + 99)), (1, .int u1), (2, .int u2), (4, .long u4), (6, .int u6)]) hx hb dX8_shone_73 rfl hl (by decide) rfl (fun ls hl => ?_)
      refine lv_lload hx hb dX8_shone_74 (lv_at hl 1 rfl) ?_
      refine lv_lstore (lv' := [(4, .long r_14), (3, .int u6), (7, .long r_14), (0, .ref (G.1 + 99)), (1, .int u1), (2, .int u2), (6, .int u6)]) hx hb dX8_shone_76 hl (by decide) rfl (fun ls hl => ?_)
      obtain ⟨v_17, ev_17, hf⟩ := st_out hf
      refine lv_iinc (v := v_17) (lv' := [(6, .int v_17), (4, .long r_14), (3, .int u6), (7, .long r_14), (0, .ref (G.1 + 99)), (1, .int u1), (2, .int u2)]) hx hb dX8_shone_78 hl (k := 6) rfl (by rw [ev_17]; rfl) (by decide) rfl (fun ls hl => ?_)
      refine lv_goto (tgt := 39) hx hb dX8_shone_81 (by decide) ?_
      exact hk39 u1 u2 u6 r_14 v_17 x_15 hf _ _ _ hS (lv_sub hl [4, 5, 6, 2, 1, 0] rfl)
    · replace hf := if_n c_16 hf
      refine lv_lload hx hb dX8_shone_63 (lv_at hl 0 rfl) ?_
      refine lv_lload hx hb dX8_shone_65 (lv_at hl 5 rfl) ?_
      refine W.lcmp hx hb dX8_shone_67 ?_
      obtain ⟨v_18, ev_18, hf⟩ := st_out hf
      refine topI ev_18 ?_
      refine lv_if_ge (tgt := 78) hx hb dX8_shone_68 (by decide) (fun c_19 => ?_) (fun c_19 => ?_)
      · replace hf := if_p c_19 hf
        obtain ⟨v_20, ev_20, hf⟩ := st_out hf
        refine lv_iinc (v := v_20) (lv' := [(6, .int v_20), (7, .long r_14), (0, .ref (G.1 + 99)), (1, .int u1), (2, .int u2), (3, .int u3), (4, .long u4)]) hx hb dX8_shone_78 hl (k := 6) rfl (by rw [ev_20]; rfl) (by decide) rfl (fun ls hl => ?_)
        refine lv_goto (tgt := 39) hx hb dX8_shone_81 (by decide) ?_
        exact hk39 u1 u2 u3 u4 v_20 x_15 hf _ _ _ hS (lv_sub hl [2, 3, 4, 5, 6, 0] rfl)
      · replace hf := if_n c_19 hf
        refine lv_iload hx hb dX8_shone_71 (lv_at hl 6 rfl) ?_
        refine lv_istore_n (lv' := [(3, .int u6), (7, .long r_14), (0, .ref (G.1 + 99)), (1, .int u1), (2, .int u2), (4, .long u4), (6, .int u6)]) hx hb dX8_shone_73 rfl hl (by decide) rfl (fun ls hl => ?_)
        refine lv_lload hx hb dX8_shone_74 (lv_at hl 1 rfl) ?_
        refine lv_lstore (lv' := [(4, .long r_14), (3, .int u6), (7, .long r_14), (0, .ref (G.1 + 99)), (1, .int u1), (2, .int u2), (6, .int u6)]) hx hb dX8_shone_76 hl (by decide) rfl (fun ls hl => ?_)
        obtain ⟨v_21, ev_21, hf⟩ := st_out hf
        refine lv_iinc (v := v_21) (lv' := [(6, .int v_21), (4, .long r_14), (3, .int u6), (7, .long r_14), (0, .ref (G.1 + 99)), (1, .int u1), (2, .int u2)]) hx hb dX8_shone_78 hl (k := 6) rfl (by rw [ev_21]; rfl) (by decide) rfl (fun ls hl => ?_)
        refine lv_goto (tgt := 39) hx hb dX8_shone_81 (by decide) ?_
        exact hk39 u1 u2 u6 r_14 v_21 x_15 hf _ _ _ hS (lv_sub hl [4, 5, 6, 2, 1, 0] rfl)
theorem wlX8_shone_h39 {p : Program} {l : Launch} {e : Env} {s : State} {m : MethodId} {args : Array Value} {below : List Frame} {meth : Method} {c : Code} {G : GT} {r : Int32} {z : XS} (C : CX G p s m args meth c cX8_shone 9 (some .int) RX8) (n : Nat) : ∀ (u1 : Int32) (u2 : Int32) (u3 : Int32) (u4 : Int64) (u6 : Int32) (x : XS), lX8_shone_h39 n u1 u2 u3 u4 u6 x = some (r, z) → ∀ (H : Heap) (locs : List Loc) (ls : Array Slot), SR G x H locs → lv_has ls 9 [(0, .ref (G.1 + 99)), (1, .int u1), (2, .int u2), (3, .int u3), (4, .long u4), (6, .int u6)] → W p l e rmX8_shone s m args below meth c H locs 0 0 (MQ below (QC G (some (.int r)) z) args s 0 0 (AB G)) (F0 m 39 ls []) := by
  induction n with
  | zero => intro u1 u2 u3 u4 u6 x hf H locs ls hS hl; exact absurd hf (by intro q; cases q)
  | succ n ih => exact wbX8_shone_h39 C ih
theorem wX8_shone_h39 {p : Program} {l : Launch} {e : Env} {s : State} {m : MethodId} {args : Array Value} {below : List Frame} {meth : Method} {c : Code} {G : GT} {r : Int32} {z : XS} (C : CX G p s m args meth c cX8_shone 9 (some .int) RX8) : ∀ (u1 : Int32) (u2 : Int32) (u3 : Int32) (u4 : Int64) (u6 : Int32) (x : XS), fX8_shone_h39 u1 u2 u3 u4 u6 x = some (r, z) → ∀ (H : Heap) (locs : List Loc) (ls : Array Slot), SR G x H locs → lv_has ls 9 [(0, .ref (G.1 + 99)), (1, .int u1), (2, .int u2), (3, .int u3), (4, .long u4), (6, .int u6)] → W p l e rmX8_shone s m args below meth c H locs 0 0 (MQ below (QC G (some (.int r)) z) args s 0 0 (AB G)) (F0 m 39 ls []) := wlX8_shone_h39 C FU
set_option maxRecDepth 100000 in
set_option maxHeartbeats 4000000 in
theorem cX8_shone_ {G : GT} {l : Launch} {v1 : Int32} {v2 : Int32} {x z : XS} {r : Int32} (hf : fX8_shone v1 v2 x = some (r, z)) : Ct G l yX8_shone (.code yX8_shone cX8_shone 9 (some .int)) rmX8_shone [.ref (G.1 + 99), .int v1, .int v2] x (some (.int r)) z := by
  refine Ct.of (by decide +kernel) (Nat.le_of_ble_eq_true rfl) ?_
  intro p e s m args below meth c C ls hl hS
  have C : CX G p s m args meth c cX8_shone 9 (some .int) RX8 := C
  have hl : lv_has ls 9 [(0, .ref (G.1 + 99)), (1, .int v1), (2, .int v2)] := hl
  have hx := C.1
  have hb := C.2.1
  have hown := C.2.2.2.2.2.1
  have hw := C.2.2.2.2.2.2.1
  unfold fX8_shone at hf
  refine lv_iload_n hx hb dX8_shone_0 rfl (lv_at hl 1 rfl) ?_
  obtain ⟨r_1, x_2, qr_1, hf⟩ := bd_out hf
  refine rsI (As := [.int v1]) (rest := []) C hS KX8_isSheet (cX8_isSheet_ qr_1) g_1097 ⟨rfl, rfl⟩ ⟨(Nat.le_of_ble_eq_true rfl), (Nat.le_of_ble_eq_true rfl)⟩ hl.1 rfl rfl (Nat.le_of_ble_eq_true rfl) ⟨Nat.zero_le _, Nat.zero_le _⟩ dX8_shone_1 (fun H locs hS => ?_)
  refine lv_if_eq (tgt := 16) hx hb dX8_shone_4 (by decide) (fun c_3 => ?_) (fun c_3 => ?_)
  · replace hf := if_p c_3 hf
    refine lv_ldc (v := (-1000000001)) hx hb hown (hw _ g_920) dX8_shone_16 ?_
    exact rtI C hS hf dX8_shone_18
  · replace hf := if_n c_3 hf
    refine lv_iload_n hx hb dX8_shone_7 rfl (lv_at hl 2 rfl) ?_
    refine lv_iconst (v := 0) hx hb dX8_shone_8 (by decide) ?_
    refine lv_iconst (v := 1) hx hb dX8_shone_9 (by decide) ?_
    obtain ⟨r_4, x_5, qr_4, hf⟩ := bd_out hf
    refine rsI (As := [.int v2, .int 0, .int 1]) (rest := []) C hS KX8_in (cX8_in_ qr_4) g_914 ⟨rfl, rfl⟩ ⟨(Nat.le_of_ble_eq_true rfl), (Nat.le_of_ble_eq_true rfl)⟩ hl.1 rfl rfl (Nat.le_of_ble_eq_true rfl) ⟨Nat.zero_le _, Nat.zero_le _⟩ dX8_shone_10 (fun H locs hS => ?_)
    refine lv_if_ne (tgt := 19) hx hb dX8_shone_13 (by decide) (fun c_6 => ?_) (fun c_6 => ?_)
    · replace hf := if_n c_6 hf
      refine lv_aload_n hx hb dX8_shone_19 rfl (lv_at hl 0 rfl) ?_
      refine gf7_24 C hS (rfl) g_829 dX8_shone_20 ?_
      refine lv_iload_n hx hb dX8_shone_23 rfl (lv_at hl 1 rfl) ?_
      obtain ⟨gg_7, hf⟩ := gd_out hf
      refine alI C hS (rfl) rfl gg_7 dX8_shone_24 ?_
      refine lv_if_ge (tgt := 31) hx hb dX8_shone_25 (by decide) (fun c_8 => ?_) (fun c_8 => ?_)
      · replace hf := if_p c_8 hf
        refine lv_iconst (v := (-1)) hx hb dX8_shone_31 (by decide) ?_
        refine lv_istore_n (lv' := [(3, .int (-1)), (0, .ref (G.1 + 99)), (1, .int v1), (2, .int v2)]) hx hb dX8_shone_32 rfl hl (by decide) rfl (fun ls hl => ?_)
        refine lv_lconst (v := 0) hx hb dX8_shone_33 (by decide) ?_
        refine lv_lstore (lv' := [(4, .long 0), (3, .int (-1)), (0, .ref (G.1 + 99)), (1, .int v1), (2, .int v2)]) hx hb dX8_shone_34 hl (by decide) rfl (fun ls hl => ?_)
        refine lv_iconst (v := 0) hx hb dX8_shone_36 (by decide) ?_
        refine lv_istore (lv' := [(6, .int 0), (4, .long 0), (3, .int (-1)), (0, .ref (G.1 + 99)), (1, .int v1), (2, .int v2)]) hx hb dX8_shone_37 hl (by decide) rfl (fun ls hl => ?_)
        exact wX8_shone_h39  C v1 v2 (-1) 0 0 x_5 hf _ _ _ hS (lv_sub hl [3, 4, 5, 2, 1, 0] rfl)
      · replace hf := if_n c_8 hf
        refine lv_ldc (v := (-1000000011)) hx hb hown (hw _ g_1100) dX8_shone_28 ?_
        exact rtI C hS hf dX8_shone_30
    · replace hf := if_p c_6 hf
      refine lv_ldc (v := (-1000000001)) hx hb hown (hw _ g_920) dX8_shone_16 ?_
      exact rtI C hS hf dX8_shone_18
abbrev rmX8_fee : Room := { frames := 2, cells := 0, slots := 0, locals := 47 }
set_option maxRecDepth 100000 in
set_option maxHeartbeats 4000000 in
theorem cX8_fee_ {G : GT} {l : Launch} {x z : XS} {r : Int32} (hf : fX8_fee x = some (r, z)) : Ct G l yX8_fee (.code yX8_fee cX8_fee 2 (some .int)) rmX8_fee [.ref (G.1 + 99)] x (some (.int r)) z := by
  refine Ct.of (by decide +kernel) (Nat.le_of_ble_eq_true rfl) ?_
  intro p e s m args below meth c C ls hl hS
  have C : CX G p s m args meth c cX8_fee 2 (some .int) RX8 := C
  have hl : lv_has ls 2 [(0, .ref (G.1 + 99))] := hl
  have hx := C.1
  have hb := C.2.1
  have hown := C.2.2.2.2.2.1
  have hw := C.2.2.2.2.2.2.1
  unfold fX8_fee at hf
  refine lv_aload_n hx hb dX8_fee_0 rfl (lv_at hl 0 rfl) ?_
  refine lv_iconst (v := 1) hx hb dX8_fee_1 (by decide) ?_
  obtain ⟨r_1, x_2, qr_1, hf⟩ := bd_out hf
  refine rvI (As := [.int 1]) (rest := []) C hS (rfl) rfl KX8_counts (cX8_counts_ qr_1) g_966 ⟨rfl, rfl⟩ ⟨(Nat.le_of_ble_eq_true rfl), (Nat.le_of_ble_eq_true rfl)⟩ hl.1 rfl rfl (Nat.le_of_ble_eq_true rfl) ⟨Nat.zero_le _, Nat.zero_le _⟩ dX8_fee_2 (fun H locs hS => ?_)
  refine lv_istore_n (lv' := [(1, .int r_1), (0, .ref (G.1 + 99))]) hx hb dX8_fee_5 rfl hl (by decide) rfl (fun ls hl => ?_)
  refine lv_aload_n hx hb dX8_fee_6 rfl (lv_at hl 1 rfl) ?_
  refine gf7_23 C hS (rfl) g_828 dX8_fee_7 ?_
  refine lv_iconst (v := 0) hx hb dX8_fee_10 (by decide) ?_
  refine lv_aload_n hx hb dX8_fee_11 rfl (lv_at hl 1 rfl) ?_
  refine gf7_0 C hS (rfl) g_805 dX8_fee_12 ?_
  refine lv_bipush (v := 7) hx hb dX8_fee_15 (by decide) ?_
  obtain ⟨gg_3, hf⟩ := gd_out hf
  refine alI C hS (rfl) rfl gg_3 dX8_fee_17 ?_
  obtain ⟨gg_4, hf⟩ := gd_out hf
  obtain ⟨x_5, ex_5, hf⟩ := st_out hf
  refine asI C hS (rfl) rfl gg_4 ex_5 dX8_fee_18 (fun H locs hS => ?_)
  refine lv_aload_n hx hb dX8_fee_19 rfl (lv_at hl 1 rfl) ?_
  refine gf7_23 C hS (rfl) g_828 dX8_fee_20 ?_
  refine lv_iconst (v := 1) hx hb dX8_fee_23 (by decide) ?_
  refine lv_aload_n hx hb dX8_fee_24 rfl (lv_at hl 1 rfl) ?_
  refine gf7_0 C hS (rfl) g_805 dX8_fee_25 ?_
  refine lv_bipush (v := 6) hx hb dX8_fee_28 (by decide) ?_
  obtain ⟨gg_6, hf⟩ := gd_out hf
  refine alI C hS (rfl) rfl gg_6 dX8_fee_30 ?_
  obtain ⟨gg_7, hf⟩ := gd_out hf
  obtain ⟨x_8, ex_8, hf⟩ := st_out hf
  refine asI C hS (rfl) rfl gg_7 ex_8 dX8_fee_31 (fun H locs hS => ?_)
  refine lv_iload_n hx hb dX8_fee_32 rfl (lv_at hl 0 rfl) ?_
  refine lv_if_ge (tgt := 46) hx hb dX8_fee_33 (by decide) (fun c_9 => ?_) (fun c_9 => ?_)
  · replace hf := if_p c_9 hf
    refine lv_aload_n hx hb dX8_fee_46 rfl (lv_at hl 1 rfl) ?_
    refine lv_iload_n hx hb dX8_fee_47 rfl (lv_at hl 0 rfl) ?_
    obtain ⟨r_10, x_11, qr_10, hf⟩ := bd_out hf
    refine rvI (As := [.int r_1]) (rest := []) C hS (rfl) rfl KX8_worksOut (cX8_worksOut_ qr_10) g_970 ⟨rfl, rfl⟩ ⟨(Nat.le_of_ble_eq_true rfl), (Nat.le_of_ble_eq_true rfl)⟩ hl.1 rfl rfl (Nat.le_of_ble_eq_true rfl) ⟨Nat.zero_le _, Nat.zero_le _⟩ dX8_fee_48 (fun H locs hS => ?_)
    exact rtI C hS hf dX8_fee_51
  · replace hf := if_n c_9 hf
    refine lv_aload_n hx hb dX8_fee_36 rfl (lv_at hl 1 rfl) ?_
    refine gf7_0 C hS (rfl) g_805 dX8_fee_37 ?_
    refine lv_bipush (v := 7) hx hb dX8_fee_40 (by decide) ?_
    obtain ⟨gg_12, hf⟩ := gd_out hf
    refine alI C hS (rfl) rfl gg_12 dX8_fee_42 ?_
    refine lv_goto (tgt := 51) hx hb dX8_fee_43 (by decide) ?_
    exact rtI C hS hf dX8_fee_51
abbrev rmX8_fine : Room := { frames := 2, cells := 0, slots := 0, locals := 47 }
set_option maxRecDepth 100000 in
set_option maxHeartbeats 4000000 in
theorem cX8_fine_ {G : GT} {l : Launch} {v1 : Int32} {x z : XS} {r : Int32} (hf : fX8_fine v1 x = some (r, z)) : Ct G l yX8_fine (.code yX8_fine cX8_fine 3 (some .int)) rmX8_fine [.ref (G.1 + 99), .int v1] x (some (.int r)) z := by
  refine Ct.of (by decide +kernel) (Nat.le_of_ble_eq_true rfl) ?_
  intro p e s m args below meth c C ls hl hS
  have C : CX G p s m args meth c cX8_fine 3 (some .int) RX8 := C
  have hl : lv_has ls 3 [(0, .ref (G.1 + 99)), (1, .int v1)] := hl
  have hx := C.1
  have hb := C.2.1
  have hown := C.2.2.2.2.2.1
  have hw := C.2.2.2.2.2.2.1
  unfold fX8_fine at hf
  refine lv_aload_n hx hb dX8_fine_0 rfl (lv_at hl 0 rfl) ?_
  refine lv_iload_n hx hb dX8_fine_1 rfl (lv_at hl 1 rfl) ?_
  obtain ⟨r_1, x_2, qr_1, hf⟩ := bd_out hf
  refine rvI (As := [.int v1]) (rest := []) C hS (rfl) rfl KX8_isBoy (cX8_isBoy_ qr_1) g_934 ⟨rfl, rfl⟩ ⟨(Nat.le_of_ble_eq_true rfl), (Nat.le_of_ble_eq_true rfl)⟩ hl.1 rfl rfl (Nat.le_of_ble_eq_true rfl) ⟨Nat.zero_le _, Nat.zero_le _⟩ dX8_fine_2 (fun H locs hS => ?_)
  refine lv_if_ne (tgt := 11) hx hb dX8_fine_5 (by decide) (fun c_3 => ?_) (fun c_3 => ?_)
  · replace hf := if_n c_3 hf
    refine lv_aload_n hx hb dX8_fine_11 rfl (lv_at hl 0 rfl) ?_
    refine lv_iconst (v := 2) hx hb dX8_fine_12 (by decide) ?_
    obtain ⟨r_4, x_5, qr_4, hf⟩ := bd_out hf
    refine rvI (As := [.int 2]) (rest := []) C hS (rfl) rfl KX8_counts (cX8_counts_ qr_4) g_966 ⟨rfl, rfl⟩ ⟨(Nat.le_of_ble_eq_true rfl), (Nat.le_of_ble_eq_true rfl)⟩ hl.1 rfl rfl (Nat.le_of_ble_eq_true rfl) ⟨Nat.zero_le _, Nat.zero_le _⟩ dX8_fine_13 (fun H locs hS => ?_)
    refine lv_istore_n (lv' := [(2, .int r_4), (0, .ref (G.1 + 99)), (1, .int v1)]) hx hb dX8_fine_16 rfl hl (by decide) rfl (fun ls hl => ?_)
    refine lv_aload_n hx hb dX8_fine_17 rfl (lv_at hl 1 rfl) ?_
    refine gf7_23 C hS (rfl) g_828 dX8_fine_18 ?_
    refine lv_iconst (v := 0) hx hb dX8_fine_21 (by decide) ?_
    refine lv_aload_n hx hb dX8_fine_22 rfl (lv_at hl 1 rfl) ?_
    refine lv_iload_n hx hb dX8_fine_23 rfl (lv_at hl 2 rfl) ?_
    refine lv_iconst (v := 4) hx hb dX8_fine_24 (by decide) ?_
    obtain ⟨r_6, x_7, qr_6, hf⟩ := bd_out hf
    refine rvI (As := [.int v1, .int 4]) (rest := [.int 0, .ref (G.1 + 111)]) C hS (rfl) rfl KX8_of (cX8_of_ qr_6) g_938 ⟨rfl, rfl⟩ ⟨(Nat.le_of_ble_eq_true rfl), (Nat.le_of_ble_eq_true rfl)⟩ hl.1 rfl rfl (Nat.le_of_ble_eq_true rfl) ⟨Nat.zero_le _, Nat.zero_le _⟩ dX8_fine_25 (fun H locs hS => ?_)
    obtain ⟨gg_8, hf⟩ := gd_out hf
    obtain ⟨x_9, ex_9, hf⟩ := st_out hf
    refine asI C hS (rfl) rfl gg_8 ex_9 dX8_fine_28 (fun H locs hS => ?_)
    refine lv_aload_n hx hb dX8_fine_29 rfl (lv_at hl 1 rfl) ?_
    refine gf7_23 C hS (rfl) g_828 dX8_fine_30 ?_
    refine lv_iconst (v := 1) hx hb dX8_fine_33 (by decide) ?_
    refine lv_aload_n hx hb dX8_fine_34 rfl (lv_at hl 1 rfl) ?_
    refine lv_iload_n hx hb dX8_fine_35 rfl (lv_at hl 2 rfl) ?_
    refine lv_bipush (v := 6) hx hb dX8_fine_36 (by decide) ?_
    obtain ⟨r_10, x_11, qr_10, hf⟩ := bd_out hf
    refine rvI (As := [.int v1, .int 6]) (rest := [.int 1, .ref (G.1 + 111)]) C hS (rfl) rfl KX8_of (cX8_of_ qr_10) g_938 ⟨rfl, rfl⟩ ⟨(Nat.le_of_ble_eq_true rfl), (Nat.le_of_ble_eq_true rfl)⟩ hl.1 rfl rfl (Nat.le_of_ble_eq_true rfl) ⟨Nat.zero_le _, Nat.zero_le _⟩ dX8_fine_38 (fun H locs hS => ?_)
    obtain ⟨gg_12, hf⟩ := gd_out hf
    obtain ⟨x_13, ex_13, hf⟩ := st_out hf
    refine asI C hS (rfl) rfl gg_12 ex_13 dX8_fine_41 (fun H locs hS => ?_)
    refine lv_iload_n hx hb dX8_fine_42 rfl (lv_at hl 0 rfl) ?_
    refine lv_if_ge (tgt := 55) hx hb dX8_fine_43 (by decide) (fun c_14 => ?_) (fun c_14 => ?_)
    · replace hf := if_p c_14 hf
      refine lv_aload_n hx hb dX8_fine_55 rfl (lv_at hl 1 rfl) ?_
      refine lv_iload_n hx hb dX8_fine_56 rfl (lv_at hl 0 rfl) ?_
      obtain ⟨r_15, x_16, qr_15, hf⟩ := bd_out hf
      refine rvI (As := [.int r_4]) (rest := []) C hS (rfl) rfl KX8_worksOut (cX8_worksOut_ qr_15) g_970 ⟨rfl, rfl⟩ ⟨(Nat.le_of_ble_eq_true rfl), (Nat.le_of_ble_eq_true rfl)⟩ hl.1 rfl rfl (Nat.le_of_ble_eq_true rfl) ⟨Nat.zero_le _, Nat.zero_le _⟩ dX8_fine_57 (fun H locs hS => ?_)
      exact rtI C hS hf dX8_fine_60
    · replace hf := if_n c_14 hf
      refine lv_aload_n hx hb dX8_fine_46 rfl (lv_at hl 1 rfl) ?_
      refine lv_iload_n hx hb dX8_fine_47 rfl (lv_at hl 2 rfl) ?_
      refine lv_iconst (v := 4) hx hb dX8_fine_48 (by decide) ?_
      obtain ⟨r_17, x_18, qr_17, hf⟩ := bd_out hf
      refine rvI (As := [.int v1, .int 4]) (rest := []) C hS (rfl) rfl KX8_of (cX8_of_ qr_17) g_938 ⟨rfl, rfl⟩ ⟨(Nat.le_of_ble_eq_true rfl), (Nat.le_of_ble_eq_true rfl)⟩ hl.1 rfl rfl (Nat.le_of_ble_eq_true rfl) ⟨Nat.zero_le _, Nat.zero_le _⟩ dX8_fine_49 (fun H locs hS => ?_)
      refine lv_goto (tgt := 60) hx hb dX8_fine_52 (by decide) ?_
      exact rtI C hS hf dX8_fine_60
  · replace hf := if_p c_3 hf
    refine lv_ldc (v := (-1000000001)) hx hb hown (hw _ g_920) dX8_fine_8 ?_
    exact rtI C hS hf dX8_fine_10
abbrev rmX8_feed : Room := { frames := 0, cells := 0, slots := 0, locals := 0 }
set_option maxRecDepth 100000 in
set_option maxHeartbeats 4000000 in
theorem wX8_feed_h47 {p : Program} {l : Launch} {e : Env} {s : State} {m : MethodId} {args : Array Value} {below : List Frame} {meth : Method} {c : Code} {G : GT} {r : Int32} {z : XS} (C : CX G p s m args meth c cX8_feed 6 (some .int) RX8) {k18 : Int32 → Int32 → Int32 → Int32 → XS → Option (Int32 × XS)} (hk18 : ∀ (u1 : Int32) (u2 : Int32) (u3 : Int32) (u4 : Int32) (x : XS), k18 u1 u2 u3 u4 x = some (r, z) → ∀ (H : Heap) (locs : List Loc) (ls : Array Slot), SR G x H locs → lv_has ls 6 [(0, .ref (G.1 + 99)), (1, .int u1), (2, .int u2), (3, .int u3), (4, .int u4)] → W p l e rmX8_feed s m args below meth c H locs 0 0 (MQ below (QC G (some (.int r)) z) args s 0 0 (AB G)) (F0 m 18 ls [])) : ∀ (u1 : Int32) (u2 : Int32) (u3 : Int32) (u4 : Int32) (s0 : Int32) (x : XS), fX8_feed_h47 k18 u1 u2 u3 u4 s0 x = some (r, z) → ∀ (H : Heap) (locs : List Loc) (ls : Array Slot), SR G x H locs → lv_has ls 6 [(0, .ref (G.1 + 99)), (1, .int u1), (2, .int u2), (3, .int u3), (4, .int u4)] → W p l e rmX8_feed s m args below meth c H locs 0 0 (MQ below (QC G (some (.int r)) z) args s 0 0 (AB G)) (F0 m 47 ls [.int s0]) := by
  intro u1 u2 u3 u4 s0 x hf H locs ls hS hl
  have hx := C.1
  have hb := C.2.1
  have hown := C.2.2.2.2.2.1
  have hw := C.2.2.2.2.2.2.1
  unfold fX8_feed_h47 at hf
  refine lv_istore (lv' := [(5, .int s0), (0, .ref (G.1 + 99)), (1, .int u1), (2, .int u2), (3, .int u3), (4, .int u4)]) hx hb dX8_feed_47 hl (by decide) rfl (fun ls hl => ?_)
  refine lv_aload_n hx hb dX8_feed_49 rfl (lv_at hl 1 rfl) ?_
  refine gf7_6 C hS (rfl) g_811 dX8_feed_50 ?_
  refine lv_aload_n hx hb dX8_feed_53 rfl (lv_at hl 1 rfl) ?_
  refine gf7_7 C hS (rfl) g_812 dX8_feed_54 ?_
  refine lv_iload hx hb dX8_feed_57 (lv_at hl 5 rfl) ?_
  refine lv_iadd hx hb dX8_feed_59 ?_
  refine lv_iload hx hb dX8_feed_60 (lv_at hl 0 rfl) ?_
  refine lv_bipush (v := 24) hx hb dX8_feed_62 (by decide) ?_
  refine lv_bipush (v := 8) hx hb dX8_feed_64 (by decide) ?_
  refine lv_iload hx hb dX8_feed_66 (lv_at hl 5 rfl) ?_
  refine lv_iconst (v := 4) hx hb dX8_feed_68 (by decide) ?_
  refine lv_irem hx hb dX8_feed_69 (by decide) ?_
  obtain ⟨v_6, ev_6, hf⟩ := st_out hf
  refine topI ev_6 ?_
  refine lv_imul hx hb dX8_feed_70 ?_
  refine lv_isub hx hb dX8_feed_71 ?_
  refine lv_ishr hx hb dX8_feed_72 ?_
  obtain ⟨v_7, ev_7, hf⟩ := st_out hf
  refine topI ev_7 ?_
  refine lv_sipush (v := 255) hx hb dX8_feed_73 (by decide) ?_
  refine lv_iand hx hb dX8_feed_76 ?_
  obtain ⟨gg_8, hf⟩ := gd_out hf
  obtain ⟨x_9, ex_9, hf⟩ := st_out hf
  refine asI C hS (rfl) rfl gg_8 ex_9 dX8_feed_77 (fun H locs hS => ?_)
  obtain ⟨v_10, ev_10, hf⟩ := st_out hf
  refine lv_iinc (v := v_10) (lv' := [(4, .int v_10), (5, .int s0), (0, .ref (G.1 + 99)), (1, .int u1), (2, .int u2), (3, .int u3)]) hx hb dX8_feed_78 hl (k := 5) rfl (by rw [ev_10]; rfl) (by decide) rfl (fun ls hl => ?_)
  refine lv_goto (tgt := 18) hx hb dX8_feed_81 (by decide) ?_
  exact hk18 u1 u2 u3 v_10 x_9 hf _ _ _ hS (lv_sub hl [2, 3, 4, 5, 0] rfl)
set_option maxRecDepth 100000 in
set_option maxHeartbeats 4000000 in
theorem wbX8_feed_h18 {p : Program} {l : Launch} {e : Env} {s : State} {m : MethodId} {args : Array Value} {below : List Frame} {meth : Method} {c : Code} {G : GT} {r : Int32} {z : XS} (C : CX G p s m args meth c cX8_feed 6 (some .int) RX8) {k18 : Int32 → Int32 → Int32 → Int32 → XS → Option (Int32 × XS)} (hk18 : ∀ (u1 : Int32) (u2 : Int32) (u3 : Int32) (u4 : Int32) (x : XS), k18 u1 u2 u3 u4 x = some (r, z) → ∀ (H : Heap) (locs : List Loc) (ls : Array Slot), SR G x H locs → lv_has ls 6 [(0, .ref (G.1 + 99)), (1, .int u1), (2, .int u2), (3, .int u3), (4, .int u4)] → W p l e rmX8_feed s m args below meth c H locs 0 0 (MQ below (QC G (some (.int r)) z) args s 0 0 (AB G)) (F0 m 18 ls [])) : ∀ (u1 : Int32) (u2 : Int32) (u3 : Int32) (u4 : Int32) (x : XS), bX8_feed_h18 k18 u1 u2 u3 u4 x = some (r, z) → ∀ (H : Heap) (locs : List Loc) (ls : Array Slot), SR G x H locs → lv_has ls 6 [(0, .ref (G.1 + 99)), (1, .int u1), (2, .int u2), (3, .int u3), (4, .int u4)] → W p l e rmX8_feed s m args below meth c H locs 0 0 (MQ below (QC G (some (.int r)) z) args s 0 0 (AB G)) (F0 m 18 ls []) := by
  intro u1 u2 u3 u4 x hf H locs ls hS hl
  have hx := C.1
  have hb := C.2.1
  have hown := C.2.2.2.2.2.1
  have hw := C.2.2.2.2.2.2.1
  unfold bX8_feed_h18 at hf
  refine lv_iload hx hb dX8_feed_18 (lv_at hl 4 rfl) ?_
  refine lv_bipush (v := 12) hx hb dX8_feed_20 (by decide) ?_
  refine lv_icmp_ge (tgt := 84) hx hb dX8_feed_22 (by decide) (fun c_2 => ?_) (fun c_2 => ?_)
  · replace hf := if_p c_2 hf
    refine lv_aload_n hx hb dX8_feed_84 rfl (lv_at hl 0 rfl) ?_
    refine lv_dup hx hb dX8_feed_85 rfl ?_
    refine gf7_7 C hS (rfl) g_812 dX8_feed_86 ?_
    refine lv_bipush (v := 12) hx hb dX8_feed_89 (by decide) ?_
    refine lv_iadd hx hb dX8_feed_91 ?_
    obtain ⟨x_3, ex_3, hf⟩ := st_out hf
    refine pf7_7 C hS (rfl) g_812 ex_3 dX8_feed_92 (fun H locs hS => ?_)
    refine lv_aload_n hx hb dX8_feed_95 rfl (lv_at hl 0 rfl) ?_
    refine gf7_7 C hS (rfl) g_812 dX8_feed_96 ?_
    exact rtI C hS hf dX8_feed_99
  · replace hf := if_n c_2 hf
    refine lv_iload hx hb dX8_feed_25 (lv_at hl 4 rfl) ?_
    refine lv_iconst (v := 4) hx hb dX8_feed_27 (by decide) ?_
    refine lv_icmp_ge (tgt := 35) hx hb dX8_feed_28 (by decide) (fun c_4 => ?_) (fun c_4 => ?_)
    · replace hf := if_p c_4 hf
      refine lv_iload hx hb dX8_feed_35 (lv_at hl 4 rfl) ?_
      refine lv_bipush (v := 8) hx hb dX8_feed_37 (by decide) ?_
      refine lv_icmp_ge (tgt := 46) hx hb dX8_feed_39 (by decide) (fun c_5 => ?_) (fun c_5 => ?_)
      · replace hf := if_p c_5 hf
        refine lv_iload_n hx hb dX8_feed_46 rfl (lv_at hl 3 rfl) ?_
        exact wX8_feed_h47  C hk18 u1 u2 u3 u4 u3 x hf _ _ _ hS (lv_sub hl [0, 1, 2, 3, 4] rfl)
      · replace hf := if_n c_5 hf
        refine lv_iload_n hx hb dX8_feed_42 rfl (lv_at hl 2 rfl) ?_
        refine lv_goto (tgt := 47) hx hb dX8_feed_43 (by decide) ?_
        exact wX8_feed_h47  C hk18 u1 u2 u3 u4 u2 x hf _ _ _ hS (lv_sub hl [0, 1, 2, 3, 4] rfl)
    · replace hf := if_n c_4 hf
      refine lv_iload_n hx hb dX8_feed_31 rfl (lv_at hl 1 rfl) ?_
      refine lv_goto (tgt := 47) hx hb dX8_feed_32 (by decide) ?_
      exact wX8_feed_h47  C hk18 u1 u2 u3 u4 u1 x hf _ _ _ hS (lv_sub hl [0, 1, 2, 3, 4] rfl)
theorem wlX8_feed_h18 {p : Program} {l : Launch} {e : Env} {s : State} {m : MethodId} {args : Array Value} {below : List Frame} {meth : Method} {c : Code} {G : GT} {r : Int32} {z : XS} (C : CX G p s m args meth c cX8_feed 6 (some .int) RX8) (n : Nat) : ∀ (u1 : Int32) (u2 : Int32) (u3 : Int32) (u4 : Int32) (x : XS), lX8_feed_h18 n u1 u2 u3 u4 x = some (r, z) → ∀ (H : Heap) (locs : List Loc) (ls : Array Slot), SR G x H locs → lv_has ls 6 [(0, .ref (G.1 + 99)), (1, .int u1), (2, .int u2), (3, .int u3), (4, .int u4)] → W p l e rmX8_feed s m args below meth c H locs 0 0 (MQ below (QC G (some (.int r)) z) args s 0 0 (AB G)) (F0 m 18 ls []) := by
  induction n with
  | zero => intro u1 u2 u3 u4 x hf H locs ls hS hl; exact absurd hf (by intro q; cases q)
  | succ n ih => exact wbX8_feed_h18 C ih
theorem wX8_feed_h18 {p : Program} {l : Launch} {e : Env} {s : State} {m : MethodId} {args : Array Value} {below : List Frame} {meth : Method} {c : Code} {G : GT} {r : Int32} {z : XS} (C : CX G p s m args meth c cX8_feed 6 (some .int) RX8) : ∀ (u1 : Int32) (u2 : Int32) (u3 : Int32) (u4 : Int32) (x : XS), fX8_feed_h18 u1 u2 u3 u4 x = some (r, z) → ∀ (H : Heap) (locs : List Loc) (ls : Array Slot), SR G x H locs → lv_has ls 6 [(0, .ref (G.1 + 99)), (1, .int u1), (2, .int u2), (3, .int u3), (4, .int u4)] → W p l e rmX8_feed s m args below meth c H locs 0 0 (MQ below (QC G (some (.int r)) z) args s 0 0 (AB G)) (F0 m 18 ls []) := wlX8_feed_h18 C FU
set_option maxRecDepth 100000 in
set_option maxHeartbeats 4000000 in
theorem cX8_feed_ {G : GT} {l : Launch} {v1 : Int32} {v2 : Int32} {v3 : Int32} {x z : XS} {r : Int32} (hf : fX8_feed v1 v2 v3 x = some (r, z)) : Ct G l yX8_feed (.code yX8_feed cX8_feed 6 (some .int)) rmX8_feed [.ref (G.1 + 99), .int v1, .int v2, .int v3] x (some (.int r)) z := by
  refine Ct.of (by decide +kernel) (Nat.le_of_ble_eq_true rfl) ?_
  intro p e s m args below meth c C ls hl hS
  have C : CX G p s m args meth c cX8_feed 6 (some .int) RX8 := C
  have hl : lv_has ls 6 [(0, .ref (G.1 + 99)), (1, .int v1), (2, .int v2), (3, .int v3)] := hl
  have hx := C.1
  have hb := C.2.1
  have hown := C.2.2.2.2.2.1
  have hw := C.2.2.2.2.2.2.1
  unfold fX8_feed at hf
  refine lv_aload_n hx hb dX8_feed_0 rfl (lv_at hl 0 rfl) ?_
  refine gf7_7 C hS (rfl) g_812 dX8_feed_1 ?_
  refine lv_bipush (v := 12) hx hb dX8_feed_4 (by decide) ?_
  refine lv_iadd hx hb dX8_feed_6 ?_
  refine lv_bipush (v := 96) hx hb dX8_feed_7 (by decide) ?_
  refine lv_icmp_le (tgt := 15) hx hb dX8_feed_9 (by decide) (fun c_1 => ?_) (fun c_1 => ?_)
  · replace hf := if_p c_1 hf
    refine lv_iconst (v := 0) hx hb dX8_feed_15 (by decide) ?_
    refine lv_istore (lv' := [(4, .int 0), (0, .ref (G.1 + 99)), (1, .int v1), (2, .int v2), (3, .int v3)]) hx hb dX8_feed_16 hl (by decide) rfl (fun ls hl => ?_)
    exact wX8_feed_h18  C v1 v2 v3 0 x hf _ _ _ hS (lv_sub hl [1, 2, 3, 4, 0] rfl)
  · replace hf := if_n c_1 hf
    refine lv_ldc (v := (-1000000003)) hx hb hown (hw _ g_921) dX8_feed_12 ?_
    exact rtI C hS hf dX8_feed_14
abbrev rmX8_trim : Room := { frames := 1, cells := 0, slots := 0, locals := 22 }
set_option maxRecDepth 100000 in
set_option maxHeartbeats 4000000 in
theorem cX8_trim_ {G : GT} {l : Launch} {v1 : Int32} {x z : XS} {r : Int32} (hf : fX8_trim v1 x = some (r, z)) : Ct G l yX8_trim (.code yX8_trim cX8_trim 2 (some .int)) rmX8_trim [.ref (G.1 + 99), .int v1] x (some (.int r)) z := by
  refine Ct.of (by decide +kernel) (Nat.le_of_ble_eq_true rfl) ?_
  intro p e s m args below meth c C ls hl hS
  have C : CX G p s m args meth c cX8_trim 2 (some .int) RX8 := C
  have hl : lv_has ls 2 [(0, .ref (G.1 + 99)), (1, .int v1)] := hl
  have hx := C.1
  have hb := C.2.1
  have hown := C.2.2.2.2.2.1
  have hw := C.2.2.2.2.2.2.1
  unfold fX8_trim at hf
  refine lv_iload_n hx hb dX8_trim_0 rfl (lv_at hl 1 rfl) ?_
  refine lv_iconst (v := 0) hx hb dX8_trim_1 (by decide) ?_
  refine lv_aload_n hx hb dX8_trim_2 rfl (lv_at hl 0 rfl) ?_
  refine gf7_7 C hS (rfl) g_812 dX8_trim_3 ?_
  obtain ⟨r_1, x_2, qr_1, hf⟩ := bd_out hf
  refine rsI (As := [.int v1, .int 0, .int (x 99 7)]) (rest := []) C hS KX8_in (cX8_in_ qr_1) g_914 ⟨rfl, rfl⟩ ⟨(Nat.le_of_ble_eq_true rfl), (Nat.le_of_ble_eq_true rfl)⟩ hl.1 rfl rfl (Nat.le_of_ble_eq_true rfl) ⟨Nat.zero_le _, Nat.zero_le _⟩ dX8_trim_6 (fun H locs hS => ?_)
  refine lv_if_ne (tgt := 15) hx hb dX8_trim_9 (by decide) (fun c_3 => ?_) (fun c_3 => ?_)
  · replace hf := if_n c_3 hf
    refine lv_aload_n hx hb dX8_trim_15 rfl (lv_at hl 0 rfl) ?_
    refine lv_iload_n hx hb dX8_trim_16 rfl (lv_at hl 1 rfl) ?_
    obtain ⟨x_4, ex_4, hf⟩ := st_out hf
    refine pf7_7 C hS (rfl) g_812 ex_4 dX8_trim_17 (fun H locs hS => ?_)
    refine lv_iload_n hx hb dX8_trim_20 rfl (lv_at hl 1 rfl) ?_
    exact rtI C hS hf dX8_trim_21
  · replace hf := if_p c_3 hf
    refine lv_ldc (v := (-1000000001)) hx hb hown (hw _ g_920) dX8_trim_12 ?_
    exact rtI C hS hf dX8_trim_14
abbrev rmX8_isLetter : Room := { frames := 0, cells := 0, slots := 0, locals := 0 }
set_option maxRecDepth 100000 in
set_option maxHeartbeats 4000000 in
theorem cX8_isLetter_ {G : GT} {l : Launch} {v1 : Int32} {x z : XS} {r : Int32} (hf : fX8_isLetter v1 x = some (r, z)) : Ct G l yX8_isLetter (.code yX8_isLetter cX8_isLetter 2 (some .boolean)) rmX8_isLetter [.ref (G.1 + 99), .int v1] x (some (.int r)) z := by
  refine Ct.of (by decide +kernel) (Nat.le_of_ble_eq_true rfl) ?_
  intro p e s m args below meth c C ls hl hS
  have C : CX G p s m args meth c cX8_isLetter 2 (some .boolean) RX8 := C
  have hl : lv_has ls 2 [(0, .ref (G.1 + 99)), (1, .int v1)] := hl
  have hx := C.1
  have hb := C.2.1
  have hown := C.2.2.2.2.2.1
  have hw := C.2.2.2.2.2.2.1
  unfold fX8_isLetter at hf
  refine lv_iload_n hx hb dX8_isLetter_0 rfl (lv_at hl 1 rfl) ?_
  refine lv_aload_n hx hb dX8_isLetter_1 rfl (lv_at hl 0 rfl) ?_
  refine gf7_7 C hS (rfl) g_812 dX8_isLetter_2 ?_
  refine lv_icmp_ge (tgt := 34) hx hb dX8_isLetter_5 (by decide) (fun c_1 => ?_) (fun c_1 => ?_)
  · replace hf := if_p c_1 hf
    refine lv_iconst (v := 0) hx hb dX8_isLetter_34 (by decide) ?_
    exact rtZ C hS rfl hf dX8_isLetter_35
  · replace hf := if_n c_1 hf
    refine lv_aload_n hx hb dX8_isLetter_8 rfl (lv_at hl 0 rfl) ?_
    refine gf7_6 C hS (rfl) g_811 dX8_isLetter_9 ?_
    refine lv_iload_n hx hb dX8_isLetter_12 rfl (lv_at hl 1 rfl) ?_
    obtain ⟨gg_2, hf⟩ := gd_out hf
    refine alI C hS (rfl) rfl gg_2 dX8_isLetter_13 ?_
    refine lv_bipush (v := 97) hx hb dX8_isLetter_14 (by decide) ?_
    refine lv_icmp_lt (tgt := 34) hx hb dX8_isLetter_16 (by decide) (fun c_3 => ?_) (fun c_3 => ?_)
    · replace hf := if_p c_3 hf
      refine lv_iconst (v := 0) hx hb dX8_isLetter_34 (by decide) ?_
      exact rtZ C hS rfl hf dX8_isLetter_35
    · replace hf := if_n c_3 hf
      refine lv_aload_n hx hb dX8_isLetter_19 rfl (lv_at hl 0 rfl) ?_
      refine gf7_6 C hS (rfl) g_811 dX8_isLetter_20 ?_
      refine lv_iload_n hx hb dX8_isLetter_23 rfl (lv_at hl 1 rfl) ?_
      obtain ⟨gg_4, hf⟩ := gd_out hf
      refine alI C hS (rfl) rfl gg_4 dX8_isLetter_24 ?_
      refine lv_bipush (v := 122) hx hb dX8_isLetter_25 (by decide) ?_
      refine lv_icmp_gt (tgt := 34) hx hb dX8_isLetter_27 (by decide) (fun c_5 => ?_) (fun c_5 => ?_)
      · replace hf := if_p c_5 hf
        refine lv_iconst (v := 0) hx hb dX8_isLetter_34 (by decide) ?_
        exact rtZ C hS rfl hf dX8_isLetter_35
      · replace hf := if_n c_5 hf
        refine lv_iconst (v := 1) hx hb dX8_isLetter_30 (by decide) ?_
        refine lv_goto (tgt := 35) hx hb dX8_isLetter_31 (by decide) ?_
        exact rtZ C hS rfl hf dX8_isLetter_35
abbrev rmX8_isFigure : Room := { frames := 0, cells := 0, slots := 0, locals := 0 }
set_option maxRecDepth 100000 in
set_option maxHeartbeats 4000000 in
theorem cX8_isFigure_ {G : GT} {l : Launch} {v1 : Int32} {x z : XS} {r : Int32} (hf : fX8_isFigure v1 x = some (r, z)) : Ct G l yX8_isFigure (.code yX8_isFigure cX8_isFigure 2 (some .boolean)) rmX8_isFigure [.ref (G.1 + 99), .int v1] x (some (.int r)) z := by
  refine Ct.of (by decide +kernel) (Nat.le_of_ble_eq_true rfl) ?_
  intro p e s m args below meth c C ls hl hS
  have C : CX G p s m args meth c cX8_isFigure 2 (some .boolean) RX8 := C
  have hl : lv_has ls 2 [(0, .ref (G.1 + 99)), (1, .int v1)] := hl
  have hx := C.1
  have hb := C.2.1
  have hown := C.2.2.2.2.2.1
  have hw := C.2.2.2.2.2.2.1
  unfold fX8_isFigure at hf
  refine lv_iload_n hx hb dX8_isFigure_0 rfl (lv_at hl 1 rfl) ?_
  refine lv_aload_n hx hb dX8_isFigure_1 rfl (lv_at hl 0 rfl) ?_
  refine gf7_7 C hS (rfl) g_812 dX8_isFigure_2 ?_
  refine lv_icmp_ge (tgt := 34) hx hb dX8_isFigure_5 (by decide) (fun c_1 => ?_) (fun c_1 => ?_)
  · replace hf := if_p c_1 hf
    refine lv_iconst (v := 0) hx hb dX8_isFigure_34 (by decide) ?_
    exact rtZ C hS rfl hf dX8_isFigure_35
  · replace hf := if_n c_1 hf
    refine lv_aload_n hx hb dX8_isFigure_8 rfl (lv_at hl 0 rfl) ?_
    refine gf7_6 C hS (rfl) g_811 dX8_isFigure_9 ?_
    refine lv_iload_n hx hb dX8_isFigure_12 rfl (lv_at hl 1 rfl) ?_
    obtain ⟨gg_2, hf⟩ := gd_out hf
    refine alI C hS (rfl) rfl gg_2 dX8_isFigure_13 ?_
    refine lv_bipush (v := 48) hx hb dX8_isFigure_14 (by decide) ?_
    refine lv_icmp_lt (tgt := 34) hx hb dX8_isFigure_16 (by decide) (fun c_3 => ?_) (fun c_3 => ?_)
    · replace hf := if_p c_3 hf
      refine lv_iconst (v := 0) hx hb dX8_isFigure_34 (by decide) ?_
      exact rtZ C hS rfl hf dX8_isFigure_35
    · replace hf := if_n c_3 hf
      refine lv_aload_n hx hb dX8_isFigure_19 rfl (lv_at hl 0 rfl) ?_
      refine gf7_6 C hS (rfl) g_811 dX8_isFigure_20 ?_
      refine lv_iload_n hx hb dX8_isFigure_23 rfl (lv_at hl 1 rfl) ?_
      obtain ⟨gg_4, hf⟩ := gd_out hf
      refine alI C hS (rfl) rfl gg_4 dX8_isFigure_24 ?_
      refine lv_bipush (v := 57) hx hb dX8_isFigure_25 (by decide) ?_
      refine lv_icmp_gt (tgt := 34) hx hb dX8_isFigure_27 (by decide) (fun c_5 => ?_) (fun c_5 => ?_)
      · replace hf := if_p c_5 hf
        refine lv_iconst (v := 0) hx hb dX8_isFigure_34 (by decide) ?_
        exact rtZ C hS rfl hf dX8_isFigure_35
      · replace hf := if_n c_5 hf
        refine lv_iconst (v := 1) hx hb dX8_isFigure_30 (by decide) ?_
        refine lv_goto (tgt := 35) hx hb dX8_isFigure_31 (by decide) ?_
        exact rtZ C hS rfl hf dX8_isFigure_35
abbrev rmX8_go : Room := { frames := 1, cells := 0, slots := 0, locals := 21 }
set_option maxRecDepth 100000 in
set_option maxHeartbeats 4000000 in
theorem wX8_go_h127 {p : Program} {l : Launch} {e : Env} {s : State} {m : MethodId} {args : Array Value} {below : List Frame} {meth : Method} {c : Code} {G : GT} {r : Unit} {z : XS} (C : CX G p s m args meth c cX8_go 2 none RX8) : ∀ (s1 : Int32) (x : XS), fX8_go_h127 s1 x = some (r, z) → ∀ (H : Heap) (locs : List Loc) (ls : Array Slot), SR G x H locs → lv_has ls 2 [(0, .ref (G.1 + 99))] → W p l e rmX8_go s m args below meth c H locs 0 0 (MQ below (QC G none z) args s 0 0 (AB G)) (F0 m 127 ls [.int s1, .ref (G.1 + 99)]) := by
  intro s1 x hf H locs ls hS hl
  have hx := C.1
  have hb := C.2.1
  have hown := C.2.2.2.2.2.1
  have hw := C.2.2.2.2.2.2.1
  unfold fX8_go_h127 at hf
  obtain ⟨x_42, ex_42, hf⟩ := st_out hf
  refine pf7_10 C hS (rfl) g_815 ex_42 dX8_go_127 (fun H locs hS => ?_)
  refine lv_aload_n hx hb dX8_go_130 rfl (lv_at hl 0 rfl) ?_
  refine lv_aload_n hx hb dX8_go_131 rfl (lv_at hl 0 rfl) ?_
  refine gf7_6 C hS (rfl) g_811 dX8_go_132 ?_
  refine lv_aload_n hx hb dX8_go_135 rfl (lv_at hl 0 rfl) ?_
  refine gf7_9 C hS (rfl) g_814 dX8_go_136 ?_
  obtain ⟨gg_43, hf⟩ := gd_out hf
  refine alI C hS (rfl) rfl gg_43 dX8_go_139 ?_
  obtain ⟨x_44, ex_44, hf⟩ := st_out hf
  refine pf7_11 C hS (rfl) g_816 ex_44 dX8_go_140 (fun H locs hS => ?_)
  refine lv_aload_n hx hb dX8_go_143 rfl (lv_at hl 0 rfl) ?_
  refine lv_aload_n hx hb dX8_go_144 rfl (lv_at hl 0 rfl) ?_
  refine gf7_8 C hS (rfl) g_813 dX8_go_145 ?_
  obtain ⟨x_45, ex_45, hf⟩ := st_out hf
  refine pf7_12 C hS (rfl) g_817 ex_45 dX8_go_148 (fun H locs hS => ?_)
  refine lv_goto (tgt := 303) hx hb dX8_go_151 (by decide) ?_
  exact rtV C hS (r := ()) hf dX8_go_303
set_option maxRecDepth 100000 in
set_option maxHeartbeats 4000000 in
theorem wbX8_go_h93 {p : Program} {l : Launch} {e : Env} {s : State} {m : MethodId} {args : Array Value} {below : List Frame} {meth : Method} {c : Code} {G : GT} {r : Unit} {z : XS} (C : CX G p s m args meth c cX8_go 2 none RX8) {k93 : Int32 → XS → Option (Unit × XS)} (hk93 : ∀ (u1 : Int32) (x : XS), k93 u1 x = some (r, z) → ∀ (H : Heap) (locs : List Loc) (ls : Array Slot), SR G x H locs → lv_has ls 2 [(0, .ref (G.1 + 99)), (1, .int u1)] → W p l e rmX8_go s m args below meth c H locs 0 0 (MQ below (QC G none z) args s 0 0 (AB G)) (F0 m 93 ls [])) : ∀ (u1 : Int32) (x : XS), bX8_go_h93 k93 u1 x = some (r, z) → ∀ (H : Heap) (locs : List Loc) (ls : Array Slot), SR G x H locs → lv_has ls 2 [(0, .ref (G.1 + 99)), (1, .int u1)] → W p l e rmX8_go s m args below meth c H locs 0 0 (MQ below (QC G none z) args s 0 0 (AB G)) (F0 m 93 ls []) := by
  intro u1 x hf H locs ls hS hl
  have hx := C.1
  have hb := C.2.1
  have hown := C.2.2.2.2.2.1
  have hw := C.2.2.2.2.2.2.1
  unfold bX8_go_h93 at hf
  refine lv_aload_n hx hb dX8_go_93 rfl (lv_at hl 0 rfl) ?_
  refine lv_aload_n hx hb dX8_go_94 rfl (lv_at hl 0 rfl) ?_
  refine gf7_8 C hS (rfl) g_813 dX8_go_95 ?_
  obtain ⟨r_37, x_38, qr_37, hf⟩ := bd_out hf
  refine rvI (As := [.int (x 99 8)]) (rest := []) C hS (rfl) rfl KX8_isLetter (cX8_isLetter_ qr_37) g_1129 ⟨rfl, rfl⟩ ⟨(Nat.le_of_ble_eq_true rfl), (Nat.le_of_ble_eq_true rfl)⟩ hl.1 rfl rfl (Nat.le_of_ble_eq_true rfl) ⟨Nat.zero_le _, Nat.zero_le _⟩ dX8_go_98 (fun H locs hS => ?_)
  refine lv_if_eq (tgt := 117) hx hb dX8_go_101 (by decide) (fun c_39 => ?_) (fun c_39 => ?_)
  · replace hf := if_p c_39 hf
    refine lv_aload_n hx hb dX8_go_117 rfl (lv_at hl 0 rfl) ?_
    refine lv_iload_n hx hb dX8_go_118 rfl (lv_at hl 1 rfl) ?_
    refine lv_if_eq (tgt := 126) hx hb dX8_go_119 (by decide) (fun c_40 => ?_) (fun c_40 => ?_)
    · replace hf := if_p c_40 hf
      refine lv_iconst (v := 1) hx hb dX8_go_126 (by decide) ?_
      exact wX8_go_h127  C 1 x_38 hf _ _ _ hS (lv_sub hl [0] rfl)
    · replace hf := if_n c_40 hf
      refine lv_iconst (v := 4) hx hb dX8_go_122 (by decide) ?_
      refine lv_goto (tgt := 127) hx hb dX8_go_123 (by decide) ?_
      exact wX8_go_h127  C 4 x_38 hf _ _ _ hS (lv_sub hl [0] rfl)
  · replace hf := if_n c_39 hf
    refine lv_aload_n hx hb dX8_go_104 rfl (lv_at hl 0 rfl) ?_
    refine lv_dup hx hb dX8_go_105 rfl ?_
    refine gf7_8 C hS (rfl) g_813 dX8_go_106 ?_
    refine lv_iconst (v := 1) hx hb dX8_go_109 (by decide) ?_
    refine lv_iadd hx hb dX8_go_110 ?_
    obtain ⟨x_41, ex_41, hf⟩ := st_out hf
    refine pf7_8 C hS (rfl) g_813 ex_41 dX8_go_111 (fun H locs hS => ?_)
    refine lv_goto (tgt := 93) hx hb dX8_go_114 (by decide) ?_
    exact hk93 u1 x_41 hf _ _ _ hS (lv_sub hl [0, 1] rfl)
theorem wlX8_go_h93 {p : Program} {l : Launch} {e : Env} {s : State} {m : MethodId} {args : Array Value} {below : List Frame} {meth : Method} {c : Code} {G : GT} {r : Unit} {z : XS} (C : CX G p s m args meth c cX8_go 2 none RX8) (n : Nat) : ∀ (u1 : Int32) (x : XS), lX8_go_h93 n u1 x = some (r, z) → ∀ (H : Heap) (locs : List Loc) (ls : Array Slot), SR G x H locs → lv_has ls 2 [(0, .ref (G.1 + 99)), (1, .int u1)] → W p l e rmX8_go s m args below meth c H locs 0 0 (MQ below (QC G none z) args s 0 0 (AB G)) (F0 m 93 ls []) := by
  induction n with
  | zero => intro u1 x hf H locs ls hS hl; exact absurd hf (by intro q; cases q)
  | succ n ih => exact wbX8_go_h93 C ih
theorem wX8_go_h93 {p : Program} {l : Launch} {e : Env} {s : State} {m : MethodId} {args : Array Value} {below : List Frame} {meth : Method} {c : Code} {G : GT} {r : Unit} {z : XS} (C : CX G p s m args meth c cX8_go 2 none RX8) : ∀ (u1 : Int32) (x : XS), fX8_go_h93 u1 x = some (r, z) → ∀ (H : Heap) (locs : List Loc) (ls : Array Slot), SR G x H locs → lv_has ls 2 [(0, .ref (G.1 + 99)), (1, .int u1)] → W p l e rmX8_go s m args below meth c H locs 0 0 (MQ below (QC G none z) args s 0 0 (AB G)) (F0 m 93 ls []) := wlX8_go_h93 C FU
set_option maxRecDepth 100000 in
set_option maxHeartbeats 4000000 in
theorem wbX8_go_h170 {p : Program} {l : Launch} {e : Env} {s : State} {m : MethodId} {args : Array Value} {below : List Frame} {meth : Method} {c : Code} {G : GT} {r : Unit} {z : XS} (C : CX G p s m args meth c cX8_go 2 none RX8) {k170 : Int32 → XS → Option (Unit × XS)} (hk170 : ∀ (u1 : Int32) (x : XS), k170 u1 x = some (r, z) → ∀ (H : Heap) (locs : List Loc) (ls : Array Slot), SR G x H locs → lv_has ls 2 [(0, .ref (G.1 + 99)), (1, .int u1)] → W p l e rmX8_go s m args below meth c H locs 0 0 (MQ below (QC G none z) args s 0 0 (AB G)) (F0 m 170 ls [])) : ∀ (u1 : Int32) (x : XS), bX8_go_h170 k170 u1 x = some (r, z) → ∀ (H : Heap) (locs : List Loc) (ls : Array Slot), SR G x H locs → lv_has ls 2 [(0, .ref (G.1 + 99)), (1, .int u1)] → W p l e rmX8_go s m args below meth c H locs 0 0 (MQ below (QC G none z) args s 0 0 (AB G)) (F0 m 170 ls []) := by
  intro u1 x hf H locs ls hS hl
  have hx := C.1
  have hb := C.2.1
  have hown := C.2.2.2.2.2.1
  have hw := C.2.2.2.2.2.2.1
  unfold bX8_go_h170 at hf
  refine lv_aload_n hx hb dX8_go_170 rfl (lv_at hl 0 rfl) ?_
  refine lv_aload_n hx hb dX8_go_171 rfl (lv_at hl 0 rfl) ?_
  refine gf7_8 C hS (rfl) g_813 dX8_go_172 ?_
  obtain ⟨r_20, x_21, qr_20, hf⟩ := bd_out hf
  refine rvI (As := [.int (x 99 8)]) (rest := []) C hS (rfl) rfl KX8_isFigure (cX8_isFigure_ qr_20) g_1133 ⟨rfl, rfl⟩ ⟨(Nat.le_of_ble_eq_true rfl), (Nat.le_of_ble_eq_true rfl)⟩ hl.1 rfl rfl (Nat.le_of_ble_eq_true rfl) ⟨Nat.zero_le _, Nat.zero_le _⟩ dX8_go_175 (fun H locs hS => ?_)
  refine lv_if_eq (tgt := 238) hx hb dX8_go_178 (by decide) (fun c_22 => ?_) (fun c_22 => ?_)
  · replace hf := if_p c_22 hf
    refine lv_aload_n hx hb dX8_go_238 rfl (lv_at hl 0 rfl) ?_
    refine lv_iload_n hx hb dX8_go_239 rfl (lv_at hl 1 rfl) ?_
    refine lv_if_ne (tgt := 256) hx hb dX8_go_240 (by decide) (fun c_23 => ?_) (fun c_23 => ?_)
    · replace hf := if_n c_23 hf
      refine lv_iconst (v := 4) hx hb dX8_go_256 (by decide) ?_
      refine lv_goto (tgt := 261) hx hb dX8_go_257 (by decide) ?_
      obtain ⟨x_24, ex_24, hf⟩ := st_out hf
      refine pf7_10 C hS (rfl) g_815 ex_24 dX8_go_261 (fun H locs hS => ?_)
      refine lv_aload_n hx hb dX8_go_264 rfl (lv_at hl 0 rfl) ?_
      refine lv_aload_n hx hb dX8_go_265 rfl (lv_at hl 0 rfl) ?_
      refine gf7_8 C hS (rfl) g_813 dX8_go_266 ?_
      obtain ⟨x_25, ex_25, hf⟩ := st_out hf
      refine pf7_12 C hS (rfl) g_817 ex_25 dX8_go_269 (fun H locs hS => ?_)
      refine lv_goto (tgt := 303) hx hb dX8_go_272 (by decide) ?_
      exact rtV C hS (r := ()) hf dX8_go_303
    · replace hf := if_p c_23 hf
      refine lv_aload_n hx hb dX8_go_243 rfl (lv_at hl 0 rfl) ?_
      refine gf7_8 C hS (rfl) g_813 dX8_go_244 ?_
      refine lv_aload_n hx hb dX8_go_247 rfl (lv_at hl 0 rfl) ?_
      refine gf7_9 C hS (rfl) g_814 dX8_go_248 ?_
      refine lv_isub hx hb dX8_go_251 ?_
      refine lv_iconst (v := 4) hx hb dX8_go_252 (by decide) ?_
      refine lv_icmp_le (tgt := 260) hx hb dX8_go_253 (by decide) (fun c_26 => ?_) (fun c_26 => ?_)
      · replace hf := if_p c_26 hf
        refine lv_iconst (v := 2) hx hb dX8_go_260 (by decide) ?_
        obtain ⟨x_27, ex_27, hf⟩ := st_out hf
        refine pf7_10 C hS (rfl) g_815 ex_27 dX8_go_261 (fun H locs hS => ?_)
        refine lv_aload_n hx hb dX8_go_264 rfl (lv_at hl 0 rfl) ?_
        refine lv_aload_n hx hb dX8_go_265 rfl (lv_at hl 0 rfl) ?_
        refine gf7_8 C hS (rfl) g_813 dX8_go_266 ?_
        obtain ⟨x_28, ex_28, hf⟩ := st_out hf
        refine pf7_12 C hS (rfl) g_817 ex_28 dX8_go_269 (fun H locs hS => ?_)
        refine lv_goto (tgt := 303) hx hb dX8_go_272 (by decide) ?_
        exact rtV C hS (r := ()) hf dX8_go_303
      · replace hf := if_n c_26 hf
        refine lv_iconst (v := 4) hx hb dX8_go_256 (by decide) ?_
        refine lv_goto (tgt := 261) hx hb dX8_go_257 (by decide) ?_
        obtain ⟨x_29, ex_29, hf⟩ := st_out hf
        refine pf7_10 C hS (rfl) g_815 ex_29 dX8_go_261 (fun H locs hS => ?_)
        refine lv_aload_n hx hb dX8_go_264 rfl (lv_at hl 0 rfl) ?_
        refine lv_aload_n hx hb dX8_go_265 rfl (lv_at hl 0 rfl) ?_
        refine gf7_8 C hS (rfl) g_813 dX8_go_266 ?_
        obtain ⟨x_30, ex_30, hf⟩ := st_out hf
        refine pf7_12 C hS (rfl) g_817 ex_30 dX8_go_269 (fun H locs hS => ?_)
        refine lv_goto (tgt := 303) hx hb dX8_go_272 (by decide) ?_
        exact rtV C hS (r := ()) hf dX8_go_303
  · replace hf := if_n c_22 hf
    refine lv_aload_n hx hb dX8_go_181 rfl (lv_at hl 0 rfl) ?_
    refine lv_aload_n hx hb dX8_go_182 rfl (lv_at hl 0 rfl) ?_
    refine gf7_8 C hS (rfl) g_813 dX8_go_183 ?_
    refine lv_aload_n hx hb dX8_go_186 rfl (lv_at hl 0 rfl) ?_
    refine gf7_9 C hS (rfl) g_814 dX8_go_187 ?_
    refine lv_isub hx hb dX8_go_190 ?_
    refine lv_iconst (v := 4) hx hb dX8_go_191 (by decide) ?_
    refine lv_icmp_ge (tgt := 218) hx hb dX8_go_192 (by decide) (fun c_31 => ?_) (fun c_31 => ?_)
    · replace hf := if_p c_31 hf
      refine lv_aload_n hx hb dX8_go_218 rfl (lv_at hl 0 rfl) ?_
      refine gf7_11 C hS (rfl) g_816 dX8_go_219 ?_
      obtain ⟨x_32, ex_32, hf⟩ := st_out hf
      refine pf7_11 C hS (rfl) g_816 ex_32 dX8_go_222 (fun H locs hS => ?_)
      refine lv_aload_n hx hb dX8_go_225 rfl (lv_at hl 0 rfl) ?_
      refine lv_dup hx hb dX8_go_226 rfl ?_
      refine gf7_8 C hS (rfl) g_813 dX8_go_227 ?_
      refine lv_iconst (v := 1) hx hb dX8_go_230 (by decide) ?_
      refine lv_iadd hx hb dX8_go_231 ?_
      obtain ⟨x_33, ex_33, hf⟩ := st_out hf
      refine pf7_8 C hS (rfl) g_813 ex_33 dX8_go_232 (fun H locs hS => ?_)
      refine lv_goto (tgt := 170) hx hb dX8_go_235 (by decide) ?_
      exact hk170 u1 x_33 hf _ _ _ hS (lv_sub hl [0, 1] rfl)
    · replace hf := if_n c_31 hf
      refine lv_bipush (v := 10) hx hb dX8_go_195 (by decide) ?_
      refine lv_aload_n hx hb dX8_go_197 rfl (lv_at hl 0 rfl) ?_
      refine gf7_11 C hS (rfl) g_816 dX8_go_198 ?_
      refine lv_imul hx hb dX8_go_201 ?_
      refine lv_aload_n hx hb dX8_go_202 rfl (lv_at hl 0 rfl) ?_
      refine gf7_6 C hS (rfl) g_811 dX8_go_203 ?_
      refine lv_aload_n hx hb dX8_go_206 rfl (lv_at hl 0 rfl) ?_
      refine gf7_8 C hS (rfl) g_813 dX8_go_207 ?_
      obtain ⟨gg_34, hf⟩ := gd_out hf
      refine alI C hS (rfl) rfl gg_34 dX8_go_210 ?_
      refine lv_iadd hx hb dX8_go_211 ?_
      refine lv_bipush (v := 48) hx hb dX8_go_212 (by decide) ?_
      refine lv_isub hx hb dX8_go_214 ?_
      refine lv_goto (tgt := 222) hx hb dX8_go_215 (by decide) ?_
      obtain ⟨x_35, ex_35, hf⟩ := st_out hf
      refine pf7_11 C hS (rfl) g_816 ex_35 dX8_go_222 (fun H locs hS => ?_)
      refine lv_aload_n hx hb dX8_go_225 rfl (lv_at hl 0 rfl) ?_
      refine lv_dup hx hb dX8_go_226 rfl ?_
      refine gf7_8 C hS (rfl) g_813 dX8_go_227 ?_
      refine lv_iconst (v := 1) hx hb dX8_go_230 (by decide) ?_
      refine lv_iadd hx hb dX8_go_231 ?_
      obtain ⟨x_36, ex_36, hf⟩ := st_out hf
      refine pf7_8 C hS (rfl) g_813 ex_36 dX8_go_232 (fun H locs hS => ?_)
      refine lv_goto (tgt := 170) hx hb dX8_go_235 (by decide) ?_
      exact hk170 u1 x_36 hf _ _ _ hS (lv_sub hl [0, 1] rfl)
theorem wlX8_go_h170 {p : Program} {l : Launch} {e : Env} {s : State} {m : MethodId} {args : Array Value} {below : List Frame} {meth : Method} {c : Code} {G : GT} {r : Unit} {z : XS} (C : CX G p s m args meth c cX8_go 2 none RX8) (n : Nat) : ∀ (u1 : Int32) (x : XS), lX8_go_h170 n u1 x = some (r, z) → ∀ (H : Heap) (locs : List Loc) (ls : Array Slot), SR G x H locs → lv_has ls 2 [(0, .ref (G.1 + 99)), (1, .int u1)] → W p l e rmX8_go s m args below meth c H locs 0 0 (MQ below (QC G none z) args s 0 0 (AB G)) (F0 m 170 ls []) := by
  induction n with
  | zero => intro u1 x hf H locs ls hS hl; exact absurd hf (by intro q; cases q)
  | succ n ih => exact wbX8_go_h170 C ih
theorem wX8_go_h170 {p : Program} {l : Launch} {e : Env} {s : State} {m : MethodId} {args : Array Value} {below : List Frame} {meth : Method} {c : Code} {G : GT} {r : Unit} {z : XS} (C : CX G p s m args meth c cX8_go 2 none RX8) : ∀ (u1 : Int32) (x : XS), fX8_go_h170 u1 x = some (r, z) → ∀ (H : Heap) (locs : List Loc) (ls : Array Slot), SR G x H locs → lv_has ls 2 [(0, .ref (G.1 + 99)), (1, .int u1)] → W p l e rmX8_go s m args below meth c H locs 0 0 (MQ below (QC G none z) args s 0 0 (AB G)) (F0 m 170 ls []) := wlX8_go_h170 C FU
set_option maxRecDepth 100000 in
set_option maxHeartbeats 4000000 in
theorem wX8_go_h62 {p : Program} {l : Launch} {e : Env} {s : State} {m : MethodId} {args : Array Value} {below : List Frame} {meth : Method} {c : Code} {G : GT} {r : Unit} {z : XS} (C : CX G p s m args meth c cX8_go 2 none RX8) : ∀ (s0 : Int32) (x : XS), fX8_go_h62 s0 x = some (r, z) → ∀ (H : Heap) (locs : List Loc) (ls : Array Slot), SR G x H locs → lv_has ls 2 [(0, .ref (G.1 + 99))] → W p l e rmX8_go s m args below meth c H locs 0 0 (MQ below (QC G none z) args s 0 0 (AB G)) (F0 m 62 ls [.int s0]) := by
  intro s0 x hf H locs ls hS hl
  have hx := C.1
  have hb := C.2.1
  have hown := C.2.2.2.2.2.1
  have hw := C.2.2.2.2.2.2.1
  unfold fX8_go_h62 at hf
  refine lv_istore_n (lv' := [(1, .int s0), (0, .ref (G.1 + 99))]) hx hb dX8_go_62 rfl hl (by decide) rfl (fun ls hl => ?_)
  refine lv_aload_n hx hb dX8_go_63 rfl (lv_at hl 1 rfl) ?_
  refine gf7_9 C hS (rfl) g_814 dX8_go_64 ?_
  refine lv_aload_n hx hb dX8_go_67 rfl (lv_at hl 1 rfl) ?_
  refine gf7_7 C hS (rfl) g_812 dX8_go_68 ?_
  refine lv_icmp_ne (tgt := 82) hx hb dX8_go_71 (by decide) (fun c_7 => ?_) (fun c_7 => ?_)
  · replace hf := if_n c_7 hf
    refine lv_aload_n hx hb dX8_go_82 rfl (lv_at hl 1 rfl) ?_
    refine lv_aload_n hx hb dX8_go_83 rfl (lv_at hl 1 rfl) ?_
    refine gf7_9 C hS (rfl) g_814 dX8_go_84 ?_
    obtain ⟨r_8, x_9, qr_8, hf⟩ := bd_out hf
    refine rvI (As := [.int (x 99 9)]) (rest := []) C hS (rfl) rfl KX8_isLetter (cX8_isLetter_ qr_8) g_1129 ⟨rfl, rfl⟩ ⟨(Nat.le_of_ble_eq_true rfl), (Nat.le_of_ble_eq_true rfl)⟩ hl.1 rfl rfl (Nat.le_of_ble_eq_true rfl) ⟨Nat.zero_le _, Nat.zero_le _⟩ dX8_go_87 (fun H locs hS => ?_)
    refine lv_if_eq (tgt := 154) hx hb dX8_go_90 (by decide) (fun c_10 => ?_) (fun c_10 => ?_)
    · replace hf := if_p c_10 hf
      refine lv_aload_n hx hb dX8_go_154 rfl (lv_at hl 1 rfl) ?_
      refine lv_aload_n hx hb dX8_go_155 rfl (lv_at hl 1 rfl) ?_
      refine gf7_9 C hS (rfl) g_814 dX8_go_156 ?_
      obtain ⟨r_11, x_12, qr_11, hf⟩ := bd_out hf
      refine rvI (As := [.int (x_9 99 9)]) (rest := []) C hS (rfl) rfl KX8_isFigure (cX8_isFigure_ qr_11) g_1133 ⟨rfl, rfl⟩ ⟨(Nat.le_of_ble_eq_true rfl), (Nat.le_of_ble_eq_true rfl)⟩ hl.1 rfl rfl (Nat.le_of_ble_eq_true rfl) ⟨Nat.zero_le _, Nat.zero_le _⟩ dX8_go_159 (fun H locs hS => ?_)
      refine lv_if_eq (tgt := 275) hx hb dX8_go_162 (by decide) (fun c_13 => ?_) (fun c_13 => ?_)
      · replace hf := if_p c_13 hf
        refine lv_aload_n hx hb dX8_go_275 rfl (lv_at hl 1 rfl) ?_
        refine lv_iconst (v := 3) hx hb dX8_go_276 (by decide) ?_
        obtain ⟨x_14, ex_14, hf⟩ := st_out hf
        refine pf7_10 C hS (rfl) g_815 ex_14 dX8_go_277 (fun H locs hS => ?_)
        refine lv_aload_n hx hb dX8_go_280 rfl (lv_at hl 1 rfl) ?_
        refine lv_aload_n hx hb dX8_go_281 rfl (lv_at hl 1 rfl) ?_
        refine gf7_6 C hS (rfl) g_811 dX8_go_282 ?_
        refine lv_aload_n hx hb dX8_go_285 rfl (lv_at hl 1 rfl) ?_
        refine gf7_9 C hS (rfl) g_814 dX8_go_286 ?_
        obtain ⟨gg_15, hf⟩ := gd_out hf
        refine alI C hS (rfl) rfl gg_15 dX8_go_289 ?_
        obtain ⟨x_16, ex_16, hf⟩ := st_out hf
        refine pf7_11 C hS (rfl) g_816 ex_16 dX8_go_290 (fun H locs hS => ?_)
        refine lv_aload_n hx hb dX8_go_293 rfl (lv_at hl 1 rfl) ?_
        refine lv_dup hx hb dX8_go_294 rfl ?_
        refine gf7_8 C hS (rfl) g_813 dX8_go_295 ?_
        refine lv_iconst (v := 1) hx hb dX8_go_298 (by decide) ?_
        refine lv_iadd hx hb dX8_go_299 ?_
        obtain ⟨x_17, ex_17, hf⟩ := st_out hf
        refine pf7_8 C hS (rfl) g_813 ex_17 dX8_go_300 (fun H locs hS => ?_)
        exact rtV C hS (r := ()) hf dX8_go_303
      · replace hf := if_n c_13 hf
        refine lv_aload_n hx hb dX8_go_165 rfl (lv_at hl 1 rfl) ?_
        refine lv_iconst (v := 0) hx hb dX8_go_166 (by decide) ?_
        obtain ⟨x_18, ex_18, hf⟩ := st_out hf
        refine pf7_11 C hS (rfl) g_816 ex_18 dX8_go_167 (fun H locs hS => ?_)
        exact wX8_go_h170  C s0 x_18 hf _ _ _ hS (lv_sub hl [1, 0] rfl)
    · replace hf := if_n c_10 hf
      exact wX8_go_h93  C s0 x_9 hf _ _ _ hS (lv_sub hl [1, 0] rfl)
  · replace hf := if_p c_7 hf
    refine lv_aload_n hx hb dX8_go_74 rfl (lv_at hl 1 rfl) ?_
    refine lv_iconst (v := 0) hx hb dX8_go_75 (by decide) ?_
    obtain ⟨x_19, ex_19, hf⟩ := st_out hf
    refine pf7_10 C hS (rfl) g_815 ex_19 dX8_go_76 (fun H locs hS => ?_)
    refine lv_goto (tgt := 303) hx hb dX8_go_79 (by decide) ?_
    exact rtV C hS (r := ()) hf dX8_go_303
set_option maxRecDepth 100000 in
set_option maxHeartbeats 4000000 in
theorem wX8_go_h38 {p : Program} {l : Launch} {e : Env} {s : State} {m : MethodId} {args : Array Value} {below : List Frame} {meth : Method} {c : Code} {G : GT} {r : Unit} {z : XS} (C : CX G p s m args meth c cX8_go 2 none RX8) : ∀ (x : XS), fX8_go_h38 x = some (r, z) → ∀ (H : Heap) (locs : List Loc) (ls : Array Slot), SR G x H locs → lv_has ls 2 [(0, .ref (G.1 + 99))] → W p l e rmX8_go s m args below meth c H locs 0 0 (MQ below (QC G none z) args s 0 0 (AB G)) (F0 m 38 ls []) := by
  intro x hf H locs ls hS hl
  have hx := C.1
  have hb := C.2.1
  have hown := C.2.2.2.2.2.1
  have hw := C.2.2.2.2.2.2.1
  unfold fX8_go_h38 at hf
  refine lv_aload_n hx hb dX8_go_38 rfl (lv_at hl 0 rfl) ?_
  refine lv_aload_n hx hb dX8_go_39 rfl (lv_at hl 0 rfl) ?_
  refine gf7_8 C hS (rfl) g_813 dX8_go_40 ?_
  obtain ⟨x_5, ex_5, hf⟩ := st_out hf
  refine pf7_9 C hS (rfl) g_814 ex_5 dX8_go_43 (fun H locs hS => ?_)
  refine lv_aload_n hx hb dX8_go_46 rfl (lv_at hl 0 rfl) ?_
  refine gf7_9 C hS (rfl) g_814 dX8_go_47 ?_
  refine lv_aload_n hx hb dX8_go_50 rfl (lv_at hl 0 rfl) ?_
  refine gf7_12 C hS (rfl) g_817 dX8_go_51 ?_
  refine lv_icmp_ne (tgt := 61) hx hb dX8_go_54 (by decide) (fun c_6 => ?_) (fun c_6 => ?_)
  · replace hf := if_n c_6 hf
    refine lv_iconst (v := 0) hx hb dX8_go_61 (by decide) ?_
    exact wX8_go_h62  C 0 x_5 hf _ _ _ hS (lv_sub hl [0] rfl)
  · replace hf := if_p c_6 hf
    refine lv_iconst (v := 1) hx hb dX8_go_57 (by decide) ?_
    refine lv_goto (tgt := 62) hx hb dX8_go_58 (by decide) ?_
    exact wX8_go_h62  C 1 x_5 hf _ _ _ hS (lv_sub hl [0] rfl)
set_option maxRecDepth 100000 in
set_option maxHeartbeats 4000000 in
theorem wbX8_go_h0 {p : Program} {l : Launch} {e : Env} {s : State} {m : MethodId} {args : Array Value} {below : List Frame} {meth : Method} {c : Code} {G : GT} {r : Unit} {z : XS} (C : CX G p s m args meth c cX8_go 2 none RX8) {k0 : XS → Option (Unit × XS)} (hk0 : ∀ (x : XS), k0 x = some (r, z) → ∀ (H : Heap) (locs : List Loc) (ls : Array Slot), SR G x H locs → lv_has ls 2 [(0, .ref (G.1 + 99))] → W p l e rmX8_go s m args below meth c H locs 0 0 (MQ below (QC G none z) args s 0 0 (AB G)) (F0 m 0 ls [])) : ∀ (x : XS), bX8_go_h0 k0 x = some (r, z) → ∀ (H : Heap) (locs : List Loc) (ls : Array Slot), SR G x H locs → lv_has ls 2 [(0, .ref (G.1 + 99))] → W p l e rmX8_go s m args below meth c H locs 0 0 (MQ below (QC G none z) args s 0 0 (AB G)) (F0 m 0 ls []) := by
  intro x hf H locs ls hS hl
  have hx := C.1
  have hb := C.2.1
  have hown := C.2.2.2.2.2.1
  have hw := C.2.2.2.2.2.2.1
  unfold bX8_go_h0 at hf
  refine lv_aload_n hx hb dX8_go_0 rfl (lv_at hl 0 rfl) ?_
  refine gf7_8 C hS (rfl) g_813 dX8_go_1 ?_
  refine lv_aload_n hx hb dX8_go_4 rfl (lv_at hl 0 rfl) ?_
  refine gf7_7 C hS (rfl) g_812 dX8_go_5 ?_
  refine lv_icmp_ge (tgt := 38) hx hb dX8_go_8 (by decide) (fun c_1 => ?_) (fun c_1 => ?_)
  · replace hf := if_p c_1 hf
    exact wX8_go_h38  C x hf _ _ _ hS (lv_sub hl [0] rfl)
  · replace hf := if_n c_1 hf
    refine lv_aload_n hx hb dX8_go_11 rfl (lv_at hl 0 rfl) ?_
    refine gf7_6 C hS (rfl) g_811 dX8_go_12 ?_
    refine lv_aload_n hx hb dX8_go_15 rfl (lv_at hl 0 rfl) ?_
    refine gf7_8 C hS (rfl) g_813 dX8_go_16 ?_
    obtain ⟨gg_2, hf⟩ := gd_out hf
    refine alI C hS (rfl) rfl gg_2 dX8_go_19 ?_
    refine lv_bipush (v := 32) hx hb dX8_go_20 (by decide) ?_
    refine lv_icmp_ne (tgt := 38) hx hb dX8_go_22 (by decide) (fun c_3 => ?_) (fun c_3 => ?_)
    · replace hf := if_n c_3 hf
      exact wX8_go_h38  C x hf _ _ _ hS (lv_sub hl [0] rfl)
    · replace hf := if_p c_3 hf
      refine lv_aload_n hx hb dX8_go_25 rfl (lv_at hl 0 rfl) ?_
      refine lv_dup hx hb dX8_go_26 rfl ?_
      refine gf7_8 C hS (rfl) g_813 dX8_go_27 ?_
      refine lv_iconst (v := 1) hx hb dX8_go_30 (by decide) ?_
      refine lv_iadd hx hb dX8_go_31 ?_
      obtain ⟨x_4, ex_4, hf⟩ := st_out hf
      refine pf7_8 C hS (rfl) g_813 ex_4 dX8_go_32 (fun H locs hS => ?_)
      refine lv_goto (tgt := 0) hx hb dX8_go_35 (by decide) ?_
      exact hk0 x_4 hf _ _ _ hS (lv_sub hl [0] rfl)
theorem wlX8_go_h0 {p : Program} {l : Launch} {e : Env} {s : State} {m : MethodId} {args : Array Value} {below : List Frame} {meth : Method} {c : Code} {G : GT} {r : Unit} {z : XS} (C : CX G p s m args meth c cX8_go 2 none RX8) (n : Nat) : ∀ (x : XS), lX8_go_h0 n x = some (r, z) → ∀ (H : Heap) (locs : List Loc) (ls : Array Slot), SR G x H locs → lv_has ls 2 [(0, .ref (G.1 + 99))] → W p l e rmX8_go s m args below meth c H locs 0 0 (MQ below (QC G none z) args s 0 0 (AB G)) (F0 m 0 ls []) := by
  induction n with
  | zero => intro x hf H locs ls hS hl; exact absurd hf (by intro q; cases q)
  | succ n ih => exact wbX8_go_h0 C ih
theorem wX8_go_h0 {p : Program} {l : Launch} {e : Env} {s : State} {m : MethodId} {args : Array Value} {below : List Frame} {meth : Method} {c : Code} {G : GT} {r : Unit} {z : XS} (C : CX G p s m args meth c cX8_go 2 none RX8) : ∀ (x : XS), fX8_go_h0 x = some (r, z) → ∀ (H : Heap) (locs : List Loc) (ls : Array Slot), SR G x H locs → lv_has ls 2 [(0, .ref (G.1 + 99))] → W p l e rmX8_go s m args below meth c H locs 0 0 (MQ below (QC G none z) args s 0 0 (AB G)) (F0 m 0 ls []) := wlX8_go_h0 C FU
set_option maxRecDepth 100000 in
set_option maxHeartbeats 4000000 in
theorem cX8_go_ {G : GT} {l : Launch} {x z : XS} {r : Unit} (hf : fX8_go x = some (r, z)) : Ct G l yX8_go (.code yX8_go cX8_go 2 none) rmX8_go [.ref (G.1 + 99)] x none z := by
  refine Ct.of (by decide +kernel) (Nat.le_of_ble_eq_true rfl) ?_
  intro p e s m args below meth c C ls hl hS
  have C : CX G p s m args meth c cX8_go 2 none RX8 := C
  have hl : lv_has ls 2 [(0, .ref (G.1 + 99))] := hl
  have hx := C.1
  have hb := C.2.1
  have hown := C.2.2.2.2.2.1
  have hw := C.2.2.2.2.2.2.1
  unfold fX8_go at hf
  exact wX8_go_h0  C x hf _ _ _ hS (lv_sub hl [0] rfl)
abbrev rmX8_takesKey : Room := { frames := 2, cells := 0, slots := 0, locals := 42 }
set_option maxRecDepth 100000 in
set_option maxHeartbeats 4000000 in
theorem wX8_takesKey_h106 {p : Program} {l : Launch} {e : Env} {s : State} {m : MethodId} {args : Array Value} {below : List Frame} {meth : Method} {c : Code} {G : GT} {r : Int32} {z : XS} (C : CX G p s m args meth c cX8_takesKey 5 (some .boolean) RX8) {k12 : Int32 → XS → Option (Int32 × XS)} (hk12 : ∀ (u1 : Int32) (x : XS), k12 u1 x = some (r, z) → ∀ (H : Heap) (locs : List Loc) (ls : Array Slot), SR G x H locs → lv_has ls 5 [(0, .ref (G.1 + 99)), (1, .int u1)] → W p l e rmX8_takesKey s m args below meth c H locs 0 0 (MQ below (QC G (some (.int r)) z) args s 0 0 (AB G)) (F0 m 12 ls [])) : ∀ (u1 : Int32) (u3 : Int32) (x : XS), fX8_takesKey_h106 k12 u1 u3 x = some (r, z) → ∀ (H : Heap) (locs : List Loc) (ls : Array Slot), SR G x H locs → lv_has ls 5 [(0, .ref (G.1 + 99)), (1, .int u1), (3, .int u3)] → W p l e rmX8_takesKey s m args below meth c H locs 0 0 (MQ below (QC G (some (.int r)) z) args s 0 0 (AB G)) (F0 m 106 ls []) := by
  intro u1 u3 x hf H locs ls hS hl
  have hx := C.1
  have hb := C.2.1
  have hown := C.2.2.2.2.2.1
  have hw := C.2.2.2.2.2.2.1
  unfold fX8_takesKey_h106 at hf
  refine lv_iload_n hx hb dX8_takesKey_106 rfl (lv_at hl 2 rfl) ?_
  refine lv_if_eq (tgt := 121) hx hb dX8_takesKey_107 (by decide) (fun c_15 => ?_) (fun c_15 => ?_)
  · replace hf := if_p c_15 hf
    obtain ⟨v_16, ev_16, hf⟩ := st_out hf
    refine lv_iinc (v := v_16) (lv' := [(1, .int v_16), (0, .ref (G.1 + 99)), (3, .int u3)]) hx hb dX8_takesKey_121 hl (k := 1) rfl (by rw [ev_16]; rfl) (by decide) rfl (fun ls hl => ?_)
    refine lv_goto (tgt := 12) hx hb dX8_takesKey_124 (by decide) ?_
    exact hk12 v_16 x hf _ _ _ hS (lv_sub hl [1, 0] rfl)
  · replace hf := if_n c_15 hf
    refine lv_aload_n hx hb dX8_takesKey_110 rfl (lv_at hl 0 rfl) ?_
    refine lv_iload_n hx hb dX8_takesKey_111 rfl (lv_at hl 1 rfl) ?_
    obtain ⟨x_17, ex_17, hf⟩ := st_out hf
    refine pf7_13 C hS (rfl) g_818 ex_17 dX8_takesKey_112 (fun H locs hS => ?_)
    refine lv_aload_n hx hb dX8_takesKey_115 rfl (lv_at hl 0 rfl) ?_
    obtain ⟨r_18, x_19, qr_18, hf⟩ := bd_out hf
    refine rvV (As := []) (rest := []) C hS (rfl) rfl KX8_go (cX8_go_ qr_18) g_1125 ⟨rfl, rfl⟩ ⟨(Nat.le_of_ble_eq_true rfl), (Nat.le_of_ble_eq_true rfl)⟩ hl.1 rfl rfl (Nat.le_of_ble_eq_true rfl) ⟨Nat.zero_le _, Nat.zero_le _⟩ dX8_takesKey_116 (fun H locs hS => ?_)
    refine lv_iconst (v := 1) hx hb dX8_takesKey_119 (by decide) ?_
    exact rtZ C hS rfl hf dX8_takesKey_120
set_option maxRecDepth 100000 in
set_option maxHeartbeats 4000000 in
theorem wbX8_takesKey_h55 {p : Program} {l : Launch} {e : Env} {s : State} {m : MethodId} {args : Array Value} {below : List Frame} {meth : Method} {c : Code} {G : GT} {r : Int32} {z : XS} (C : CX G p s m args meth c cX8_takesKey 5 (some .boolean) RX8) {k12 : Int32 → XS → Option (Int32 × XS)} {k55 : Int32 → Int32 → Int32 → Int32 → XS → Option (Int32 × XS)} (hk12 : ∀ (u1 : Int32) (x : XS), k12 u1 x = some (r, z) → ∀ (H : Heap) (locs : List Loc) (ls : Array Slot), SR G x H locs → lv_has ls 5 [(0, .ref (G.1 + 99)), (1, .int u1)] → W p l e rmX8_takesKey s m args below meth c H locs 0 0 (MQ below (QC G (some (.int r)) z) args s 0 0 (AB G)) (F0 m 12 ls [])) (hk55 : ∀ (u1 : Int32) (u2 : Int32) (u3 : Int32) (u4 : Int32) (x : XS), k55 u1 u2 u3 u4 x = some (r, z) → ∀ (H : Heap) (locs : List Loc) (ls : Array Slot), SR G x H locs → lv_has ls 5 [(0, .ref (G.1 + 99)), (1, .int u1), (2, .int u2), (3, .int u3), (4, .int u4)] → W p l e rmX8_takesKey s m args below meth c H locs 0 0 (MQ below (QC G (some (.int r)) z) args s 0 0 (AB G)) (F0 m 55 ls [])) : ∀ (u1 : Int32) (u2 : Int32) (u3 : Int32) (u4 : Int32) (x : XS), bX8_takesKey_h55 k12 k55 u1 u2 u3 u4 x = some (r, z) → ∀ (H : Heap) (locs : List Loc) (ls : Array Slot), SR G x H locs → lv_has ls 5 [(0, .ref (G.1 + 99)), (1, .int u1), (2, .int u2), (3, .int u3), (4, .int u4)] → W p l e rmX8_takesKey s m args below meth c H locs 0 0 (MQ below (QC G (some (.int r)) z) args s 0 0 (AB G)) (F0 m 55 ls []) := by
  intro u1 u2 u3 u4 x hf H locs ls hS hl
  have hx := C.1
  have hb := C.2.1
  have hown := C.2.2.2.2.2.1
  have hw := C.2.2.2.2.2.2.1
  unfold bX8_takesKey_h55 at hf
  refine lv_iload hx hb dX8_takesKey_55 (lv_at hl 4 rfl) ?_
  refine lv_iload_n hx hb dX8_takesKey_57 rfl (lv_at hl 2 rfl) ?_
  refine lv_icmp_ge (tgt := 106) hx hb dX8_takesKey_58 (by decide) (fun c_7 => ?_) (fun c_7 => ?_)
  · replace hf := if_p c_7 hf
    exact wX8_takesKey_h106  C hk12 u1 u3 x hf _ _ _ hS (lv_sub hl [0, 1, 3] rfl)
  · replace hf := if_n c_7 hf
    refine lv_iload_n hx hb dX8_takesKey_61 rfl (lv_at hl 3 rfl) ?_
    refine lv_if_eq (tgt := 106) hx hb dX8_takesKey_62 (by decide) (fun c_8 => ?_) (fun c_8 => ?_)
    · replace hf := if_p c_8 hf
      exact wX8_takesKey_h106  C hk12 u1 u3 x hf _ _ _ hS (lv_sub hl [0, 1, 3] rfl)
    · replace hf := if_n c_8 hf
      refine lv_aload_n hx hb dX8_takesKey_65 rfl (lv_at hl 0 rfl) ?_
      refine gf7_6 C hS (rfl) g_811 dX8_takesKey_66 ?_
      refine lv_aload_n hx hb dX8_takesKey_69 rfl (lv_at hl 0 rfl) ?_
      refine gf7_9 C hS (rfl) g_814 dX8_takesKey_70 ?_
      refine lv_iload hx hb dX8_takesKey_73 (lv_at hl 4 rfl) ?_
      refine lv_iadd hx hb dX8_takesKey_75 ?_
      obtain ⟨gg_9, hf⟩ := gd_out hf
      refine alI C hS (rfl) rfl gg_9 dX8_takesKey_76 ?_
      refine lv_aload_n hx hb dX8_takesKey_77 rfl (lv_at hl 0 rfl) ?_
      refine gf7_14 C hS (rfl) g_819 dX8_takesKey_78 ?_
      refine lv_aload_n hx hb dX8_takesKey_81 rfl (lv_at hl 0 rfl) ?_
      refine gf7_15 C hS (rfl) g_820 dX8_takesKey_82 ?_
      refine lv_iload_n hx hb dX8_takesKey_85 rfl (lv_at hl 1 rfl) ?_
      obtain ⟨gg_10, hf⟩ := gd_out hf
      refine alI C hS (rfl) rfl gg_10 dX8_takesKey_86 ?_
      refine lv_iload hx hb dX8_takesKey_87 (lv_at hl 4 rfl) ?_
      refine lv_iadd hx hb dX8_takesKey_89 ?_
      obtain ⟨gg_11, hf⟩ := gd_out hf
      refine alC C hS (rfl) rfl gg_11 dX8_takesKey_90 ?_
      refine lv_icmp_ne (tgt := 98) hx hb dX8_takesKey_91 (by decide) (fun c_12 => ?_) (fun c_12 => ?_)
      · replace hf := if_n c_12 hf
        refine lv_iconst (v := 0) hx hb dX8_takesKey_98 (by decide) ?_
        refine lv_istore_n (lv' := [(3, .int 0), (0, .ref (G.1 + 99)), (1, .int u1), (2, .int u2), (4, .int u4)]) hx hb dX8_takesKey_99 rfl hl (by decide) rfl (fun ls hl => ?_)
        obtain ⟨v_13, ev_13, hf⟩ := st_out hf
        refine lv_iinc (v := v_13) (lv' := [(4, .int v_13), (3, .int 0), (0, .ref (G.1 + 99)), (1, .int u1), (2, .int u2)]) hx hb dX8_takesKey_100 hl (k := 4) rfl (by rw [ev_13]; rfl) (by decide) rfl (fun ls hl => ?_)
        refine lv_goto (tgt := 55) hx hb dX8_takesKey_103 (by decide) ?_
        exact hk55 u1 u2 0 v_13 x hf _ _ _ hS (lv_sub hl [2, 3, 4, 1, 0] rfl)
      · replace hf := if_p c_12 hf
        refine lv_iconst (v := 1) hx hb dX8_takesKey_94 (by decide) ?_
        refine lv_goto (tgt := 99) hx hb dX8_takesKey_95 (by decide) ?_
        refine lv_istore_n (lv' := [(3, .int 1), (0, .ref (G.1 + 99)), (1, .int u1), (2, .int u2), (4, .int u4)]) hx hb dX8_takesKey_99 rfl hl (by decide) rfl (fun ls hl => ?_)
        obtain ⟨v_14, ev_14, hf⟩ := st_out hf
        refine lv_iinc (v := v_14) (lv' := [(4, .int v_14), (3, .int 1), (0, .ref (G.1 + 99)), (1, .int u1), (2, .int u2)]) hx hb dX8_takesKey_100 hl (k := 4) rfl (by rw [ev_14]; rfl) (by decide) rfl (fun ls hl => ?_)
        refine lv_goto (tgt := 55) hx hb dX8_takesKey_103 (by decide) ?_
        exact hk55 u1 u2 1 v_14 x hf _ _ _ hS (lv_sub hl [2, 3, 4, 1, 0] rfl)
theorem wlX8_takesKey_h55 {p : Program} {l : Launch} {e : Env} {s : State} {m : MethodId} {args : Array Value} {below : List Frame} {meth : Method} {c : Code} {G : GT} {r : Int32} {z : XS} (C : CX G p s m args meth c cX8_takesKey 5 (some .boolean) RX8) {k12 : Int32 → XS → Option (Int32 × XS)} (hk12 : ∀ (u1 : Int32) (x : XS), k12 u1 x = some (r, z) → ∀ (H : Heap) (locs : List Loc) (ls : Array Slot), SR G x H locs → lv_has ls 5 [(0, .ref (G.1 + 99)), (1, .int u1)] → W p l e rmX8_takesKey s m args below meth c H locs 0 0 (MQ below (QC G (some (.int r)) z) args s 0 0 (AB G)) (F0 m 12 ls [])) (n : Nat) : ∀ (u1 : Int32) (u2 : Int32) (u3 : Int32) (u4 : Int32) (x : XS), lX8_takesKey_h55 k12 n u1 u2 u3 u4 x = some (r, z) → ∀ (H : Heap) (locs : List Loc) (ls : Array Slot), SR G x H locs → lv_has ls 5 [(0, .ref (G.1 + 99)), (1, .int u1), (2, .int u2), (3, .int u3), (4, .int u4)] → W p l e rmX8_takesKey s m args below meth c H locs 0 0 (MQ below (QC G (some (.int r)) z) args s 0 0 (AB G)) (F0 m 55 ls []) := by
  induction n with
  | zero => intro u1 u2 u3 u4 x hf H locs ls hS hl; exact absurd hf (by intro q; cases q)
  | succ n ih => exact wbX8_takesKey_h55 C hk12 ih
theorem wX8_takesKey_h55 {p : Program} {l : Launch} {e : Env} {s : State} {m : MethodId} {args : Array Value} {below : List Frame} {meth : Method} {c : Code} {G : GT} {r : Int32} {z : XS} (C : CX G p s m args meth c cX8_takesKey 5 (some .boolean) RX8) {k12 : Int32 → XS → Option (Int32 × XS)} (hk12 : ∀ (u1 : Int32) (x : XS), k12 u1 x = some (r, z) → ∀ (H : Heap) (locs : List Loc) (ls : Array Slot), SR G x H locs → lv_has ls 5 [(0, .ref (G.1 + 99)), (1, .int u1)] → W p l e rmX8_takesKey s m args below meth c H locs 0 0 (MQ below (QC G (some (.int r)) z) args s 0 0 (AB G)) (F0 m 12 ls [])) : ∀ (u1 : Int32) (u2 : Int32) (u3 : Int32) (u4 : Int32) (x : XS), fX8_takesKey_h55 k12 u1 u2 u3 u4 x = some (r, z) → ∀ (H : Heap) (locs : List Loc) (ls : Array Slot), SR G x H locs → lv_has ls 5 [(0, .ref (G.1 + 99)), (1, .int u1), (2, .int u2), (3, .int u3), (4, .int u4)] → W p l e rmX8_takesKey s m args below meth c H locs 0 0 (MQ below (QC G (some (.int r)) z) args s 0 0 (AB G)) (F0 m 55 ls []) := wlX8_takesKey_h55 C hk12 FU
set_option maxRecDepth 100000 in
set_option maxHeartbeats 4000000 in
theorem wbX8_takesKey_h12 {p : Program} {l : Launch} {e : Env} {s : State} {m : MethodId} {args : Array Value} {below : List Frame} {meth : Method} {c : Code} {G : GT} {r : Int32} {z : XS} (C : CX G p s m args meth c cX8_takesKey 5 (some .boolean) RX8) {k12 : Int32 → XS → Option (Int32 × XS)} (hk12 : ∀ (u1 : Int32) (x : XS), k12 u1 x = some (r, z) → ∀ (H : Heap) (locs : List Loc) (ls : Array Slot), SR G x H locs → lv_has ls 5 [(0, .ref (G.1 + 99)), (1, .int u1)] → W p l e rmX8_takesKey s m args below meth c H locs 0 0 (MQ below (QC G (some (.int r)) z) args s 0 0 (AB G)) (F0 m 12 ls [])) : ∀ (u1 : Int32) (x : XS), bX8_takesKey_h12 k12 u1 x = some (r, z) → ∀ (H : Heap) (locs : List Loc) (ls : Array Slot), SR G x H locs → lv_has ls 5 [(0, .ref (G.1 + 99)), (1, .int u1)] → W p l e rmX8_takesKey s m args below meth c H locs 0 0 (MQ below (QC G (some (.int r)) z) args s 0 0 (AB G)) (F0 m 12 ls []) := by
  intro u1 x hf H locs ls hS hl
  have hx := C.1
  have hb := C.2.1
  have hown := C.2.2.2.2.2.1
  have hw := C.2.2.2.2.2.2.1
  unfold bX8_takesKey_h12 at hf
  refine lv_iload_n hx hb dX8_takesKey_12 rfl (lv_at hl 1 rfl) ?_
  refine lv_iconst (v := 3) hx hb dX8_takesKey_13 (by decide) ?_
  refine lv_icmp_ge (tgt := 127) hx hb dX8_takesKey_14 (by decide) (fun c_2 => ?_) (fun c_2 => ?_)
  · replace hf := if_p c_2 hf
    refine lv_iconst (v := 0) hx hb dX8_takesKey_127 (by decide) ?_
    exact rtZ C hS rfl hf dX8_takesKey_128
  · replace hf := if_n c_2 hf
    refine lv_aload_n hx hb dX8_takesKey_17 rfl (lv_at hl 0 rfl) ?_
    refine gf7_15 C hS (rfl) g_820 dX8_takesKey_18 ?_
    refine lv_iload_n hx hb dX8_takesKey_21 rfl (lv_at hl 1 rfl) ?_
    refine lv_iconst (v := 1) hx hb dX8_takesKey_22 (by decide) ?_
    refine lv_iadd hx hb dX8_takesKey_23 ?_
    obtain ⟨gg_3, hf⟩ := gd_out hf
    refine alI C hS (rfl) rfl gg_3 dX8_takesKey_24 ?_
    refine lv_aload_n hx hb dX8_takesKey_25 rfl (lv_at hl 0 rfl) ?_
    refine gf7_15 C hS (rfl) g_820 dX8_takesKey_26 ?_
    refine lv_iload_n hx hb dX8_takesKey_29 rfl (lv_at hl 1 rfl) ?_
    obtain ⟨gg_4, hf⟩ := gd_out hf
    refine alI C hS (rfl) rfl gg_4 dX8_takesKey_30 ?_
    refine lv_isub hx hb dX8_takesKey_31 ?_
    obtain ⟨v_5, ev_5, hf⟩ := st_out hf
    refine topI ev_5 ?_
    refine lv_istore_n (lv' := [(2, .int v_5), (0, .ref (G.1 + 99)), (1, .int u1)]) hx hb dX8_takesKey_32 rfl hl (by decide) rfl (fun ls hl => ?_)
    refine lv_iload_n hx hb dX8_takesKey_33 rfl (lv_at hl 0 rfl) ?_
    refine lv_aload_n hx hb dX8_takesKey_34 rfl (lv_at hl 1 rfl) ?_
    refine gf7_8 C hS (rfl) g_813 dX8_takesKey_35 ?_
    refine lv_aload_n hx hb dX8_takesKey_38 rfl (lv_at hl 1 rfl) ?_
    refine gf7_9 C hS (rfl) g_814 dX8_takesKey_39 ?_
    refine lv_isub hx hb dX8_takesKey_42 ?_
    refine lv_icmp_ne (tgt := 50) hx hb dX8_takesKey_43 (by decide) (fun c_6 => ?_) (fun c_6 => ?_)
    · replace hf := if_n c_6 hf
      refine lv_iconst (v := 0) hx hb dX8_takesKey_50 (by decide) ?_
      refine lv_istore_n (lv' := [(3, .int 0), (2, .int v_5), (0, .ref (G.1 + 99)), (1, .int u1)]) hx hb dX8_takesKey_51 rfl hl (by decide) rfl (fun ls hl => ?_)
      refine lv_iconst (v := 0) hx hb dX8_takesKey_52 (by decide) ?_
      refine lv_istore (lv' := [(4, .int 0), (3, .int 0), (2, .int v_5), (0, .ref (G.1 + 99)), (1, .int u1)]) hx hb dX8_takesKey_53 hl (by decide) rfl (fun ls hl => ?_)
      exact wX8_takesKey_h55  C hk12 u1 v_5 0 0 x hf _ _ _ hS (lv_sub hl [3, 4, 2, 1, 0] rfl)
    · replace hf := if_p c_6 hf
      refine lv_iconst (v := 1) hx hb dX8_takesKey_46 (by decide) ?_
      refine lv_goto (tgt := 51) hx hb dX8_takesKey_47 (by decide) ?_
      refine lv_istore_n (lv' := [(3, .int 1), (2, .int v_5), (0, .ref (G.1 + 99)), (1, .int u1)]) hx hb dX8_takesKey_51 rfl hl (by decide) rfl (fun ls hl => ?_)
      refine lv_iconst (v := 0) hx hb dX8_takesKey_52 (by decide) ?_
      refine lv_istore (lv' := [(4, .int 0), (3, .int 1), (2, .int v_5), (0, .ref (G.1 + 99)), (1, .int u1)]) hx hb dX8_takesKey_53 hl (by decide) rfl (fun ls hl => ?_)
      exact wX8_takesKey_h55  C hk12 u1 v_5 1 0 x hf _ _ _ hS (lv_sub hl [3, 4, 2, 1, 0] rfl)
theorem wlX8_takesKey_h12 {p : Program} {l : Launch} {e : Env} {s : State} {m : MethodId} {args : Array Value} {below : List Frame} {meth : Method} {c : Code} {G : GT} {r : Int32} {z : XS} (C : CX G p s m args meth c cX8_takesKey 5 (some .boolean) RX8) (n : Nat) : ∀ (u1 : Int32) (x : XS), lX8_takesKey_h12 n u1 x = some (r, z) → ∀ (H : Heap) (locs : List Loc) (ls : Array Slot), SR G x H locs → lv_has ls 5 [(0, .ref (G.1 + 99)), (1, .int u1)] → W p l e rmX8_takesKey s m args below meth c H locs 0 0 (MQ below (QC G (some (.int r)) z) args s 0 0 (AB G)) (F0 m 12 ls []) := by
  induction n with
  | zero => intro u1 x hf H locs ls hS hl; exact absurd hf (by intro q; cases q)
  | succ n ih => exact wbX8_takesKey_h12 C ih
theorem wX8_takesKey_h12 {p : Program} {l : Launch} {e : Env} {s : State} {m : MethodId} {args : Array Value} {below : List Frame} {meth : Method} {c : Code} {G : GT} {r : Int32} {z : XS} (C : CX G p s m args meth c cX8_takesKey 5 (some .boolean) RX8) : ∀ (u1 : Int32) (x : XS), fX8_takesKey_h12 u1 x = some (r, z) → ∀ (H : Heap) (locs : List Loc) (ls : Array Slot), SR G x H locs → lv_has ls 5 [(0, .ref (G.1 + 99)), (1, .int u1)] → W p l e rmX8_takesKey s m args below meth c H locs 0 0 (MQ below (QC G (some (.int r)) z) args s 0 0 (AB G)) (F0 m 12 ls []) := wlX8_takesKey_h12 C FU
set_option maxRecDepth 100000 in
set_option maxHeartbeats 4000000 in
theorem cX8_takesKey_ {G : GT} {l : Launch} {x z : XS} {r : Int32} (hf : fX8_takesKey x = some (r, z)) : Ct G l yX8_takesKey (.code yX8_takesKey cX8_takesKey 5 (some .boolean)) rmX8_takesKey [.ref (G.1 + 99)] x (some (.int r)) z := by
  refine Ct.of (by decide +kernel) (Nat.le_of_ble_eq_true rfl) ?_
  intro p e s m args below meth c C ls hl hS
  have C : CX G p s m args meth c cX8_takesKey 5 (some .boolean) RX8 := C
  have hl : lv_has ls 5 [(0, .ref (G.1 + 99))] := hl
  have hx := C.1
  have hb := C.2.1
  have hown := C.2.2.2.2.2.1
  have hw := C.2.2.2.2.2.2.1
  unfold fX8_takesKey at hf
  refine lv_aload_n hx hb dX8_takesKey_0 rfl (lv_at hl 0 rfl) ?_
  refine gf7_10 C hS (rfl) g_815 dX8_takesKey_1 ?_
  refine lv_iconst (v := 1) hx hb dX8_takesKey_4 (by decide) ?_
  refine lv_icmp_eq (tgt := 10) hx hb dX8_takesKey_5 (by decide) (fun c_1 => ?_) (fun c_1 => ?_)
  · replace hf := if_p c_1 hf
    refine lv_iconst (v := 0) hx hb dX8_takesKey_10 (by decide) ?_
    refine lv_istore_n (lv' := [(1, .int 0), (0, .ref (G.1 + 99))]) hx hb dX8_takesKey_11 rfl hl (by decide) rfl (fun ls hl => ?_)
    exact wX8_takesKey_h12  C 0 x hf _ _ _ hS (lv_sub hl [1, 0] rfl)
  · replace hf := if_n c_1 hf
    refine lv_iconst (v := 0) hx hb dX8_takesKey_8 (by decide) ?_
    exact rtZ C hS rfl hf dX8_takesKey_9
abbrev rmX8_nameOf : Room := { frames := 0, cells := 0, slots := 0, locals := 0 }
set_option maxRecDepth 100000 in
set_option maxHeartbeats 4000000 in
theorem cX8_nameOf_ {G : GT} {l : Launch} {v1 : Int32} {x z : XS} {r : Int32} (hf : fX8_nameOf v1 x = some (r, z)) : Ct G l yX8_nameOf (.code yX8_nameOf cX8_nameOf 2 (some .int)) rmX8_nameOf [.ref (G.1 + 99), .int v1] x (some (.int r)) z := by
  refine Ct.of (by decide +kernel) (Nat.le_of_ble_eq_true rfl) ?_
  intro p e s m args below meth c C ls hl hS
  have C : CX G p s m args meth c cX8_nameOf 2 (some .int) RX8 := C
  have hl : lv_has ls 2 [(0, .ref (G.1 + 99)), (1, .int v1)] := hl
  have hx := C.1
  have hb := C.2.1
  have hown := C.2.2.2.2.2.1
  have hw := C.2.2.2.2.2.2.1
  unfold fX8_nameOf at hf
  refine lv_aload_n hx hb dX8_nameOf_0 rfl (lv_at hl 0 rfl) ?_
  refine gf7_13 C hS (rfl) g_818 dX8_nameOf_1 ?_
  obtain ⟨v_1, ev_1, hf⟩ := st_out hf
  refine topI ev_1 ?_
  by_cases c_2 : v_1 = 0
  · replace hf := if_p c_2 hf
    refine lswI (k := 0) (off := 28) (tgt := 32) hx hb dX8_nameOf_4 (by decide) c_2 (by decide) (by decide) ?_
    refine lv_iload_n hx hb dX8_nameOf_32 rfl (lv_at hl 1 rfl) ?_
    refine lv_bipush (v := 114) hx hb dX8_nameOf_33 (by decide) ?_
    refine lv_icmp_ne (tgt := 42) hx hb dX8_nameOf_35 (by decide) (fun c_3 => ?_) (fun c_3 => ?_)
    · replace hf := if_n c_3 hf
      refine lv_iload_n hx hb dX8_nameOf_42 rfl (lv_at hl 1 rfl) ?_
      refine lv_bipush (v := 100) hx hb dX8_nameOf_43 (by decide) ?_
      refine lv_icmp_ne (tgt := 52) hx hb dX8_nameOf_45 (by decide) (fun c_4 => ?_) (fun c_4 => ?_)
      · replace hf := if_n c_4 hf
        refine lv_iload_n hx hb dX8_nameOf_52 rfl (lv_at hl 1 rfl) ?_
        refine lv_bipush (v := 112) hx hb dX8_nameOf_53 (by decide) ?_
        refine lv_icmp_ne (tgt := 62) hx hb dX8_nameOf_55 (by decide) (fun c_5 => ?_) (fun c_5 => ?_)
        · replace hf := if_n c_5 hf
          refine lv_iconst (v := (-1)) hx hb dX8_nameOf_62 (by decide) ?_
          exact rtI C hS hf dX8_nameOf_63
        · replace hf := if_p c_5 hf
          refine lv_iconst (v := 2) hx hb dX8_nameOf_58 (by decide) ?_
          refine lv_goto (tgt := 63) hx hb dX8_nameOf_59 (by decide) ?_
          exact rtI C hS hf dX8_nameOf_63
      · replace hf := if_p c_4 hf
        refine lv_iconst (v := 1) hx hb dX8_nameOf_48 (by decide) ?_
        refine lv_goto (tgt := 63) hx hb dX8_nameOf_49 (by decide) ?_
        exact rtI C hS hf dX8_nameOf_63
    · replace hf := if_p c_3 hf
      refine lv_iconst (v := 0) hx hb dX8_nameOf_38 (by decide) ?_
      refine lv_goto (tgt := 63) hx hb dX8_nameOf_39 (by decide) ?_
      exact rtI C hS hf dX8_nameOf_63
  · replace hf := if_n c_2 hf
    by_cases c_6 : v_1 = 1
    · replace hf := if_p c_6 hf
      refine lswI (k := 1) (off := 60) (tgt := 64) hx hb dX8_nameOf_4 (by decide) c_6 (by decide) (by decide) ?_
      refine lv_iload_n hx hb dX8_nameOf_64 rfl (lv_at hl 1 rfl) ?_
      refine lv_bipush (v := 108) hx hb dX8_nameOf_65 (by decide) ?_
      refine lv_icmp_ne (tgt := 74) hx hb dX8_nameOf_67 (by decide) (fun c_7 => ?_) (fun c_7 => ?_)
      · replace hf := if_n c_7 hf
        refine lv_iload_n hx hb dX8_nameOf_74 rfl (lv_at hl 1 rfl) ?_
        refine lv_bipush (v := 115) hx hb dX8_nameOf_75 (by decide) ?_
        refine lv_icmp_ne (tgt := 84) hx hb dX8_nameOf_77 (by decide) (fun c_8 => ?_) (fun c_8 => ?_)
        · replace hf := if_n c_8 hf
          refine lv_iconst (v := (-1)) hx hb dX8_nameOf_84 (by decide) ?_
          exact rtI C hS hf dX8_nameOf_85
        · replace hf := if_p c_8 hf
          refine lv_iconst (v := 1) hx hb dX8_nameOf_80 (by decide) ?_
          refine lv_goto (tgt := 85) hx hb dX8_nameOf_81 (by decide) ?_
          exact rtI C hS hf dX8_nameOf_85
      · replace hf := if_p c_7 hf
        refine lv_iconst (v := 0) hx hb dX8_nameOf_70 (by decide) ?_
        refine lv_goto (tgt := 85) hx hb dX8_nameOf_71 (by decide) ?_
        exact rtI C hS hf dX8_nameOf_85
    · replace hf := if_n c_6 hf
      refine lv_lookup (off := 82) (tgt := 86) hx hb dX8_nameOf_4 (by decide) ((lv_osw c_2 (by decide)).trans ((lv_osw c_6 (by decide)).trans rfl)) (by decide) ?_
      refine lv_iload_n hx hb dX8_nameOf_86 rfl (lv_at hl 1 rfl) ?_
      refine lv_bipush (v := 112) hx hb dX8_nameOf_87 (by decide) ?_
      refine lv_icmp_ne (tgt := 96) hx hb dX8_nameOf_89 (by decide) (fun c_9 => ?_) (fun c_9 => ?_)
      · replace hf := if_n c_9 hf
        refine lv_iload_n hx hb dX8_nameOf_96 rfl (lv_at hl 1 rfl) ?_
        refine lv_bipush (v := 100) hx hb dX8_nameOf_97 (by decide) ?_
        refine lv_icmp_ne (tgt := 106) hx hb dX8_nameOf_99 (by decide) (fun c_10 => ?_) (fun c_10 => ?_)
        · replace hf := if_n c_10 hf
          refine lv_iconst (v := (-1)) hx hb dX8_nameOf_106 (by decide) ?_
          exact rtI C hS hf dX8_nameOf_107
        · replace hf := if_p c_10 hf
          refine lv_iconst (v := 1) hx hb dX8_nameOf_102 (by decide) ?_
          refine lv_goto (tgt := 107) hx hb dX8_nameOf_103 (by decide) ?_
          exact rtI C hS hf dX8_nameOf_107
      · replace hf := if_p c_9 hf
        refine lv_iconst (v := 0) hx hb dX8_nameOf_92 (by decide) ?_
        refine lv_goto (tgt := 107) hx hb dX8_nameOf_93 (by decide) ?_
        exact rtI C hS hf dX8_nameOf_107
abbrev rmX8_rank : Room := { frames := 0, cells := 0, slots := 0, locals := 0 }
set_option maxRecDepth 100000 in
set_option maxHeartbeats 4000000 in
theorem cX8_rank_ {G : GT} {l : Launch} {v0 : Int32} {x z : XS} {r : Int32} (hf : fX8_rank v0 x = some (r, z)) : Ct G l yX8_rank (.code yX8_rank cX8_rank 1 (some .int)) rmX8_rank [.int v0] x (some (.int r)) z := by
  refine Ct.of (by decide +kernel) (Nat.le_of_ble_eq_true rfl) ?_
  intro p e s m args below meth c C ls hl hS
  have C : CX G p s m args meth c cX8_rank 1 (some .int) RX8 := C
  have hl : lv_has ls 1 [(0, .int v0)] := hl
  have hx := C.1
  have hb := C.2.1
  have hown := C.2.2.2.2.2.1
  have hw := C.2.2.2.2.2.2.1
  unfold fX8_rank at hf
  refine lv_iload_n hx hb dX8_rank_0 rfl (lv_at hl 0 rfl) ?_
  refine lv_iconst (v := (-1)) hx hb dX8_rank_1 (by decide) ?_
  refine lv_icmp_ne (tgt := 9) hx hb dX8_rank_2 (by decide) (fun c_1 => ?_) (fun c_1 => ?_)
  · replace hf := if_n c_1 hf
    refine lv_iload_n hx hb dX8_rank_9 rfl (lv_at hl 0 rfl) ?_
    refine lv_bipush (v := (-2)) hx hb dX8_rank_10 (by decide) ?_
    refine lv_icmp_ne (tgt := 19) hx hb dX8_rank_12 (by decide) (fun c_2 => ?_) (fun c_2 => ?_)
    · replace hf := if_n c_2 hf
      refine lv_iload_n hx hb dX8_rank_19 rfl (lv_at hl 0 rfl) ?_
      refine lv_bipush (v := (-5)) hx hb dX8_rank_20 (by decide) ?_
      refine lv_icmp_lt (tgt := 29) hx hb dX8_rank_22 (by decide) (fun c_3 => ?_) (fun c_3 => ?_)
      · replace hf := if_p c_3 hf
        refine lv_iload_n hx hb dX8_rank_29 rfl (lv_at hl 0 rfl) ?_
        refine lv_bipush (v := (-7)) hx hb dX8_rank_30 (by decide) ?_
        refine lv_icmp_lt (tgt := 39) hx hb dX8_rank_32 (by decide) (fun c_4 => ?_) (fun c_4 => ?_)
        · replace hf := if_p c_4 hf
          refine lv_iload_n hx hb dX8_rank_39 rfl (lv_at hl 0 rfl) ?_
          refine lv_bipush (v := (-9)) hx hb dX8_rank_40 (by decide) ?_
          refine lv_icmp_lt (tgt := 49) hx hb dX8_rank_42 (by decide) (fun c_5 => ?_) (fun c_5 => ?_)
          · replace hf := if_p c_5 hf
            refine lv_bipush (v := 6) hx hb dX8_rank_49 (by decide) ?_
            exact rtI C hS hf dX8_rank_51
          · replace hf := if_n c_5 hf
            refine lv_iconst (v := 5) hx hb dX8_rank_45 (by decide) ?_
            refine lv_goto (tgt := 51) hx hb dX8_rank_46 (by decide) ?_
            exact rtI C hS hf dX8_rank_51
        · replace hf := if_n c_4 hf
          refine lv_iconst (v := 4) hx hb dX8_rank_35 (by decide) ?_
          refine lv_goto (tgt := 51) hx hb dX8_rank_36 (by decide) ?_
          exact rtI C hS hf dX8_rank_51
      · replace hf := if_n c_3 hf
        refine lv_iconst (v := 3) hx hb dX8_rank_25 (by decide) ?_
        refine lv_goto (tgt := 51) hx hb dX8_rank_26 (by decide) ?_
        exact rtI C hS hf dX8_rank_51
    · replace hf := if_p c_2 hf
      refine lv_iconst (v := 2) hx hb dX8_rank_15 (by decide) ?_
      refine lv_goto (tgt := 51) hx hb dX8_rank_16 (by decide) ?_
      exact rtI C hS hf dX8_rank_51
  · replace hf := if_p c_1 hf
    refine lv_iconst (v := 1) hx hb dX8_rank_5 (by decide) ?_
    refine lv_goto (tgt := 51) hx hb dX8_rank_6 (by decide) ?_
    exact rtI C hS hf dX8_rank_51
abbrev rmX8_settle : Room := { frames := 1, cells := 0, slots := 0, locals := 20 }
set_option maxRecDepth 100000 in
set_option maxHeartbeats 4000000 in
theorem wbX8_settle_h0 {p : Program} {l : Launch} {e : Env} {s : State} {m : MethodId} {args : Array Value} {below : List Frame} {meth : Method} {c : Code} {G : GT} {r : Unit} {z : XS} (C : CX G p s m args meth c cX8_settle 2 none RX8) {k0 : Int32 → XS → Option (Unit × XS)} (hk0 : ∀ (u1 : Int32) (x : XS), k0 u1 x = some (r, z) → ∀ (H : Heap) (locs : List Loc) (ls : Array Slot), SR G x H locs → lv_has ls 2 [(0, .ref (G.1 + 99)), (1, .int u1)] → W p l e rmX8_settle s m args below meth c H locs 0 0 (MQ below (QC G none z) args s 0 0 (AB G)) (F0 m 0 ls [])) : ∀ (u1 : Int32) (x : XS), bX8_settle_h0 k0 u1 x = some (r, z) → ∀ (H : Heap) (locs : List Loc) (ls : Array Slot), SR G x H locs → lv_has ls 2 [(0, .ref (G.1 + 99)), (1, .int u1)] → W p l e rmX8_settle s m args below meth c H locs 0 0 (MQ below (QC G none z) args s 0 0 (AB G)) (F0 m 0 ls []) := by
  intro u1 x hf H locs ls hS hl
  have hx := C.1
  have hb := C.2.1
  have hown := C.2.2.2.2.2.1
  have hw := C.2.2.2.2.2.2.1
  unfold bX8_settle_h0 at hf
  refine lv_aload_n hx hb dX8_settle_0 rfl (lv_at hl 0 rfl) ?_
  refine gf7_20 C hS (rfl) g_825 dX8_settle_1 ?_
  refine lv_if_le (tgt := 82) hx hb dX8_settle_4 (by decide) (fun c_1 => ?_) (fun c_1 => ?_)
  · replace hf := if_p c_1 hf
    exact rtV C hS (r := ()) hf dX8_settle_82
  · replace hf := if_n c_1 hf
    refine lv_aload_n hx hb dX8_settle_7 rfl (lv_at hl 0 rfl) ?_
    refine gf7_19 C hS (rfl) g_824 dX8_settle_8 ?_
    refine lv_aload_n hx hb dX8_settle_11 rfl (lv_at hl 0 rfl) ?_
    refine gf7_20 C hS (rfl) g_825 dX8_settle_12 ?_
    refine lv_iconst (v := 1) hx hb dX8_settle_15 (by decide) ?_
    refine lv_isub hx hb dX8_settle_16 ?_
    obtain ⟨gg_2, hf⟩ := gd_out hf
    refine alI C hS (rfl) rfl gg_2 dX8_settle_17 ?_
    refine lv_bipush (v := (-11)) hx hb dX8_settle_18 (by decide) ?_
    refine lv_icmp_eq (tgt := 82) hx hb dX8_settle_20 (by decide) (fun c_3 => ?_) (fun c_3 => ?_)
    · replace hf := if_p c_3 hf
      exact rtV C hS (r := ()) hf dX8_settle_82
    · replace hf := if_n c_3 hf
      refine lv_aload_n hx hb dX8_settle_23 rfl (lv_at hl 0 rfl) ?_
      refine gf7_19 C hS (rfl) g_824 dX8_settle_24 ?_
      refine lv_aload_n hx hb dX8_settle_27 rfl (lv_at hl 0 rfl) ?_
      refine gf7_20 C hS (rfl) g_825 dX8_settle_28 ?_
      refine lv_iconst (v := 1) hx hb dX8_settle_31 (by decide) ?_
      refine lv_isub hx hb dX8_settle_32 ?_
      obtain ⟨gg_4, hf⟩ := gd_out hf
      refine alI C hS (rfl) rfl gg_4 dX8_settle_33 ?_
      obtain ⟨r_5, x_6, qr_5, hf⟩ := bd_out hf
      refine rsI (As := [.int (x 108 (ix ((x 99 20) - 1)))]) (rest := []) C hS KX8_rank (cX8_rank_ qr_5) g_1157 ⟨rfl, rfl⟩ ⟨(Nat.le_of_ble_eq_true rfl), (Nat.le_of_ble_eq_true rfl)⟩ hl.1 rfl rfl (Nat.le_of_ble_eq_true rfl) ⟨Nat.zero_le _, Nat.zero_le _⟩ dX8_settle_34 (fun H locs hS => ?_)
      refine lv_iload_n hx hb dX8_settle_37 rfl (lv_at hl 1 rfl) ?_
      refine lv_icmp_lt (tgt := 82) hx hb dX8_settle_38 (by decide) (fun c_7 => ?_) (fun c_7 => ?_)
      · replace hf := if_p c_7 hf
        exact rtV C hS (r := ()) hf dX8_settle_82
      · replace hf := if_n c_7 hf
        refine lv_aload_n hx hb dX8_settle_41 rfl (lv_at hl 0 rfl) ?_
        refine lv_dup hx hb dX8_settle_42 rfl ?_
        refine gf7_20 C hS (rfl) g_825 dX8_settle_43 ?_
        refine lv_iconst (v := 1) hx hb dX8_settle_46 (by decide) ?_
        refine lv_isub hx hb dX8_settle_47 ?_
        obtain ⟨x_8, ex_8, hf⟩ := st_out hf
        refine pf7_20 C hS (rfl) g_825 ex_8 dX8_settle_48 (fun H locs hS => ?_)
        refine lv_aload_n hx hb dX8_settle_51 rfl (lv_at hl 0 rfl) ?_
        refine gf7_16 C hS (rfl) g_821 dX8_settle_52 ?_
        refine lv_aload_n hx hb dX8_settle_55 rfl (lv_at hl 0 rfl) ?_
        refine gf7_17 C hS (rfl) g_822 dX8_settle_56 ?_
        refine lv_aload_n hx hb dX8_settle_59 rfl (lv_at hl 0 rfl) ?_
        refine gf7_19 C hS (rfl) g_824 dX8_settle_60 ?_
        refine lv_aload_n hx hb dX8_settle_63 rfl (lv_at hl 0 rfl) ?_
        refine gf7_20 C hS (rfl) g_825 dX8_settle_64 ?_
        obtain ⟨gg_9, hf⟩ := gd_out hf
        refine alI C hS (rfl) rfl gg_9 dX8_settle_67 ?_
        obtain ⟨gg_10, hf⟩ := gd_out hf
        obtain ⟨x_11, ex_11, hf⟩ := st_out hf
        refine asI C hS (rfl) rfl gg_10 ex_11 dX8_settle_68 (fun H locs hS => ?_)
        refine lv_aload_n hx hb dX8_settle_69 rfl (lv_at hl 0 rfl) ?_
        refine lv_dup hx hb dX8_settle_70 rfl ?_
        refine gf7_17 C hS (rfl) g_822 dX8_settle_71 ?_
        refine lv_iconst (v := 1) hx hb dX8_settle_74 (by decide) ?_
        refine lv_iadd hx hb dX8_settle_75 ?_
        obtain ⟨x_12, ex_12, hf⟩ := st_out hf
        refine pf7_17 C hS (rfl) g_822 ex_12 dX8_settle_76 (fun H locs hS => ?_)
        refine lv_goto (tgt := 0) hx hb dX8_settle_79 (by decide) ?_
        exact hk0 u1 x_12 hf _ _ _ hS (lv_sub hl [0, 1] rfl)
theorem wlX8_settle_h0 {p : Program} {l : Launch} {e : Env} {s : State} {m : MethodId} {args : Array Value} {below : List Frame} {meth : Method} {c : Code} {G : GT} {r : Unit} {z : XS} (C : CX G p s m args meth c cX8_settle 2 none RX8) (n : Nat) : ∀ (u1 : Int32) (x : XS), lX8_settle_h0 n u1 x = some (r, z) → ∀ (H : Heap) (locs : List Loc) (ls : Array Slot), SR G x H locs → lv_has ls 2 [(0, .ref (G.1 + 99)), (1, .int u1)] → W p l e rmX8_settle s m args below meth c H locs 0 0 (MQ below (QC G none z) args s 0 0 (AB G)) (F0 m 0 ls []) := by
  induction n with
  | zero => intro u1 x hf H locs ls hS hl; exact absurd hf (by intro q; cases q)
  | succ n ih => exact wbX8_settle_h0 C ih
theorem wX8_settle_h0 {p : Program} {l : Launch} {e : Env} {s : State} {m : MethodId} {args : Array Value} {below : List Frame} {meth : Method} {c : Code} {G : GT} {r : Unit} {z : XS} (C : CX G p s m args meth c cX8_settle 2 none RX8) : ∀ (u1 : Int32) (x : XS), fX8_settle_h0 u1 x = some (r, z) → ∀ (H : Heap) (locs : List Loc) (ls : Array Slot), SR G x H locs → lv_has ls 2 [(0, .ref (G.1 + 99)), (1, .int u1)] → W p l e rmX8_settle s m args below meth c H locs 0 0 (MQ below (QC G none z) args s 0 0 (AB G)) (F0 m 0 ls []) := wlX8_settle_h0 C FU
set_option maxRecDepth 100000 in
set_option maxHeartbeats 4000000 in
theorem cX8_settle_ {G : GT} {l : Launch} {v1 : Int32} {x z : XS} {r : Unit} (hf : fX8_settle v1 x = some (r, z)) : Ct G l yX8_settle (.code yX8_settle cX8_settle 2 none) rmX8_settle [.ref (G.1 + 99), .int v1] x none z := by
  refine Ct.of (by decide +kernel) (Nat.le_of_ble_eq_true rfl) ?_
  intro p e s m args below meth c C ls hl hS
  have C : CX G p s m args meth c cX8_settle 2 none RX8 := C
  have hl : lv_has ls 2 [(0, .ref (G.1 + 99)), (1, .int v1)] := hl
  have hx := C.1
  have hb := C.2.1
  have hown := C.2.2.2.2.2.1
  have hw := C.2.2.2.2.2.2.1
  unfold fX8_settle at hf
  exact wX8_settle_h0  C v1 x hf _ _ _ hS (lv_sub hl [0, 1] rfl)
abbrev rmX8_signHere : Room := { frames := 0, cells := 0, slots := 0, locals := 0 }
set_option maxRecDepth 100000 in
set_option maxHeartbeats 4000000 in
theorem cX8_signHere_ {G : GT} {l : Launch} {x z : XS} {r : Int32} (hf : fX8_signHere x = some (r, z)) : Ct G l yX8_signHere (.code yX8_signHere cX8_signHere 1 (some .int)) rmX8_signHere [.ref (G.1 + 99)] x (some (.int r)) z := by
  refine Ct.of (by decide +kernel) (Nat.le_of_ble_eq_true rfl) ?_
  intro p e s m args below meth c C ls hl hS
  have C : CX G p s m args meth c cX8_signHere 1 (some .int) RX8 := C
  have hl : lv_has ls 1 [(0, .ref (G.1 + 99))] := hl
  have hx := C.1
  have hb := C.2.1
  have hown := C.2.2.2.2.2.1
  have hw := C.2.2.2.2.2.2.1
  unfold fX8_signHere at hf
  refine lv_aload_n hx hb dX8_signHere_0 rfl (lv_at hl 0 rfl) ?_
  refine gf7_10 C hS (rfl) g_815 dX8_signHere_1 ?_
  refine lv_iconst (v := 3) hx hb dX8_signHere_4 (by decide) ?_
  refine lv_icmp_eq (tgt := 10) hx hb dX8_signHere_5 (by decide) (fun c_1 => ?_) (fun c_1 => ?_)
  · replace hf := if_p c_1 hf
    refine lv_aload_n hx hb dX8_signHere_10 rfl (lv_at hl 0 rfl) ?_
    refine gf7_11 C hS (rfl) g_816 dX8_signHere_11 ?_
    obtain ⟨v_2, ev_2, hf⟩ := st_out hf
    refine topI ev_2 ?_
    by_cases c_3 : v_2 = 38
    · replace hf := if_p c_3 hf
      refine lswI (k := 38) (off := 84) (tgt := 98) hx hb dX8_signHere_14 (by decide) c_3 (by decide) (by decide) ?_
      refine lv_bipush (v := (-2)) hx hb dX8_signHere_98 (by decide) ?_
      exact rtI C hS hf dX8_signHere_100
    · replace hf := if_n c_3 hf
      by_cases c_4 : v_2 = 42
      · replace hf := if_p c_4 hf
        refine lswI (k := 42) (off := 102) (tgt := 116) hx hb dX8_signHere_14 (by decide) c_4 (by decide) (by decide) ?_
        refine lv_bipush (v := (-8)) hx hb dX8_signHere_116 (by decide) ?_
        exact rtI C hS hf dX8_signHere_118
      · replace hf := if_n c_4 hf
        by_cases c_5 : v_2 = 43
        · replace hf := if_p c_5 hf
          refine lswI (k := 43) (off := 96) (tgt := 110) hx hb dX8_signHere_14 (by decide) c_5 (by decide) (by decide) ?_
          refine lv_bipush (v := (-6)) hx hb dX8_signHere_110 (by decide) ?_
          exact rtI C hS hf dX8_signHere_112
        · replace hf := if_n c_5 hf
          by_cases c_6 : v_2 = 45
          · replace hf := if_p c_6 hf
            refine lswI (k := 45) (off := 99) (tgt := 113) hx hb dX8_signHere_14 (by decide) c_6 (by decide) (by decide) ?_
            refine lv_bipush (v := (-7)) hx hb dX8_signHere_113 (by decide) ?_
            exact rtI C hS hf dX8_signHere_115
          · replace hf := if_n c_6 hf
            by_cases c_7 : v_2 = 47
            · replace hf := if_p c_7 hf
              refine lswI (k := 47) (off := 105) (tgt := 119) hx hb dX8_signHere_14 (by decide) c_7 (by decide) (by decide) ?_
              refine lv_bipush (v := (-9)) hx hb dX8_signHere_119 (by decide) ?_
              exact rtI C hS hf dX8_signHere_121
            · replace hf := if_n c_7 hf
              by_cases c_8 : v_2 = 60
              · replace hf := if_p c_8 hf
                refine lswI (k := 60) (off := 87) (tgt := 101) hx hb dX8_signHere_14 (by decide) c_8 (by decide) (by decide) ?_
                refine lv_bipush (v := (-3)) hx hb dX8_signHere_101 (by decide) ?_
                exact rtI C hS hf dX8_signHere_103
              · replace hf := if_n c_8 hf
                by_cases c_9 : v_2 = 61
                · replace hf := if_p c_9 hf
                  refine lswI (k := 61) (off := 90) (tgt := 104) hx hb dX8_signHere_14 (by decide) c_9 (by decide) (by decide) ?_
                  refine lv_bipush (v := (-4)) hx hb dX8_signHere_104 (by decide) ?_
                  exact rtI C hS hf dX8_signHere_106
                · replace hf := if_n c_9 hf
                  by_cases c_10 : v_2 = 62
                  · replace hf := if_p c_10 hf
                    refine lswI (k := 62) (off := 93) (tgt := 107) hx hb dX8_signHere_14 (by decide) c_10 (by decide) (by decide) ?_
                    refine lv_bipush (v := (-5)) hx hb dX8_signHere_107 (by decide) ?_
                    exact rtI C hS hf dX8_signHere_109
                  · replace hf := if_n c_10 hf
                    by_cases c_11 : v_2 = 124
                    · replace hf := if_p c_11 hf
                      refine lswI (k := 124) (off := 82) (tgt := 96) hx hb dX8_signHere_14 (by decide) c_11 (by decide) (by decide) ?_
                      refine lv_iconst (v := (-1)) hx hb dX8_signHere_96 (by decide) ?_
                      exact rtI C hS hf dX8_signHere_97
                    · replace hf := if_n c_11 hf
                      refine lv_lookup (off := 108) (tgt := 122) hx hb dX8_signHere_14 (by decide) ((lv_osw c_3 (by decide)).trans ((lv_osw c_4 (by decide)).trans ((lv_osw c_5 (by decide)).trans ((lv_osw c_6 (by decide)).trans ((lv_osw c_7 (by decide)).trans ((lv_osw c_8 (by decide)).trans ((lv_osw c_9 (by decide)).trans ((lv_osw c_10 (by decide)).trans ((lv_osw c_11 (by decide)).trans rfl))))))))) (by decide) ?_
                      refine lv_iconst (v := 0) hx hb dX8_signHere_122 (by decide) ?_
                      exact rtI C hS hf dX8_signHere_123
  · replace hf := if_n c_1 hf
    refine lv_iconst (v := 0) hx hb dX8_signHere_8 (by decide) ?_
    exact rtI C hS hf dX8_signHere_9
abbrev rmX8_takesPart : Room := { frames := 2, cells := 0, slots := 0, locals := 42 }
set_option maxRecDepth 100000 in
set_option maxHeartbeats 4000000 in
theorem wX8_takesPart_h87 {p : Program} {l : Launch} {e : Env} {s : State} {m : MethodId} {args : Array Value} {below : List Frame} {meth : Method} {c : Code} {G : GT} {r : Int32} {z : XS} (C : CX G p s m args meth c cX8_takesPart 2 (some .boolean) RX8) : ∀ (s1 : Int32) (s2 : Int32) (x : XS), fX8_takesPart_h87 s1 s2 x = some (r, z) → ∀ (H : Heap) (locs : List Loc) (ls : Array Slot), SR G x H locs → lv_has ls 2 [(0, .ref (G.1 + 99))] → W p l e rmX8_takesPart s m args below meth c H locs 0 0 (MQ below (QC G (some (.int r)) z) args s 0 0 (AB G)) (F0 m 87 ls [.int s2, .int s1, .ref (G.1 + 107)]) := by
  intro s1 s2 x hf H locs ls hS hl
  have hx := C.1
  have hb := C.2.1
  have hown := C.2.2.2.2.2.1
  have hw := C.2.2.2.2.2.2.1
  unfold fX8_takesPart_h87 at hf
  obtain ⟨gg_11, hf⟩ := gd_out hf
  obtain ⟨x_12, ex_12, hf⟩ := st_out hf
  refine asI C hS (rfl) rfl gg_11 ex_12 dX8_takesPart_87 (fun H locs hS => ?_)
  refine lv_aload_n hx hb dX8_takesPart_88 rfl (lv_at hl 0 rfl) ?_
  refine lv_dup hx hb dX8_takesPart_89 rfl ?_
  refine gf7_17 C hS (rfl) g_822 dX8_takesPart_90 ?_
  refine lv_iconst (v := 1) hx hb dX8_takesPart_93 (by decide) ?_
  refine lv_iadd hx hb dX8_takesPart_94 ?_
  obtain ⟨x_13, ex_13, hf⟩ := st_out hf
  refine pf7_17 C hS (rfl) g_822 ex_13 dX8_takesPart_95 (fun H locs hS => ?_)
  refine lv_aload_n hx hb dX8_takesPart_98 rfl (lv_at hl 0 rfl) ?_
  refine lv_dup hx hb dX8_takesPart_99 rfl ?_
  refine gf7_18 C hS (rfl) g_823 dX8_takesPart_100 ?_
  refine lv_iconst (v := 1) hx hb dX8_takesPart_103 (by decide) ?_
  refine lv_iadd hx hb dX8_takesPart_104 ?_
  obtain ⟨x_14, ex_14, hf⟩ := st_out hf
  refine pf7_18 C hS (rfl) g_823 ex_14 dX8_takesPart_105 (fun H locs hS => ?_)
  refine lv_aload_n hx hb dX8_takesPart_108 rfl (lv_at hl 0 rfl) ?_
  refine lv_bipush (v := 6) hx hb dX8_takesPart_109 (by decide) ?_
  obtain ⟨r_15, x_16, qr_15, hf⟩ := bd_out hf
  refine rvV (As := [.int 6]) (rest := []) C hS (rfl) rfl KX8_settle (cX8_settle_ qr_15) g_1153 ⟨rfl, rfl⟩ ⟨(Nat.le_of_ble_eq_true rfl), (Nat.le_of_ble_eq_true rfl)⟩ hl.1 rfl rfl (Nat.le_of_ble_eq_true rfl) ⟨Nat.zero_le _, Nat.zero_le _⟩ dX8_takesPart_111 (fun H locs hS => ?_)
  refine lv_aload_n hx hb dX8_takesPart_114 rfl (lv_at hl 0 rfl) ?_
  obtain ⟨r_17, x_18, qr_17, hf⟩ := bd_out hf
  refine rvV (As := []) (rest := []) C hS (rfl) rfl KX8_go (cX8_go_ qr_17) g_1125 ⟨rfl, rfl⟩ ⟨(Nat.le_of_ble_eq_true rfl), (Nat.le_of_ble_eq_true rfl)⟩ hl.1 rfl rfl (Nat.le_of_ble_eq_true rfl) ⟨Nat.zero_le _, Nat.zero_le _⟩ dX8_takesPart_115 (fun H locs hS => ?_)
  refine lv_iconst (v := 1) hx hb dX8_takesPart_118 (by decide) ?_
  exact rtZ C hS rfl hf dX8_takesPart_119
set_option maxRecDepth 100000 in
set_option maxHeartbeats 4000000 in
theorem wX8_takesPart_h52 {p : Program} {l : Launch} {e : Env} {s : State} {m : MethodId} {args : Array Value} {below : List Frame} {meth : Method} {c : Code} {G : GT} {r : Int32} {z : XS} (C : CX G p s m args meth c cX8_takesPart 2 (some .boolean) RX8) : ∀ (x : XS), fX8_takesPart_h52 x = some (r, z) → ∀ (H : Heap) (locs : List Loc) (ls : Array Slot), SR G x H locs → lv_has ls 2 [(0, .ref (G.1 + 99))] → W p l e rmX8_takesPart s m args below meth c H locs 0 0 (MQ below (QC G (some (.int r)) z) args s 0 0 (AB G)) (F0 m 52 ls []) := by
  intro x hf H locs ls hS hl
  have hx := C.1
  have hb := C.2.1
  have hown := C.2.2.2.2.2.1
  have hw := C.2.2.2.2.2.2.1
  unfold fX8_takesPart_h52 at hf
  refine lv_aload_n hx hb dX8_takesPart_52 rfl (lv_at hl 0 rfl) ?_
  refine gf7_16 C hS (rfl) g_821 dX8_takesPart_53 ?_
  refine lv_aload_n hx hb dX8_takesPart_56 rfl (lv_at hl 0 rfl) ?_
  refine gf7_17 C hS (rfl) g_822 dX8_takesPart_57 ?_
  refine lv_aload_n hx hb dX8_takesPart_60 rfl (lv_at hl 0 rfl) ?_
  refine gf7_10 C hS (rfl) g_815 dX8_takesPart_61 ?_
  refine lv_iconst (v := 2) hx hb dX8_takesPart_64 (by decide) ?_
  refine lv_icmp_ne (tgt := 75) hx hb dX8_takesPart_65 (by decide) (fun c_8 => ?_) (fun c_8 => ?_)
  · replace hf := if_n c_8 hf
    refine lv_sipush (v := 10000) hx hb dX8_takesPart_75 (by decide) ?_
    refine lv_aload_n hx hb dX8_takesPart_78 rfl (lv_at hl 0 rfl) ?_
    refine lv_aload_n hx hb dX8_takesPart_79 rfl (lv_at hl 0 rfl) ?_
    refine gf7_11 C hS (rfl) g_816 dX8_takesPart_80 ?_
    obtain ⟨r_9, x_10, qr_9, hf⟩ := bd_out hf
    refine rvI (As := [.int (x 99 11)]) (rest := [.int 10000, .int (x 99 17), .ref (G.1 + 107)]) C hS (rfl) rfl KX8_nameOf (cX8_nameOf_ qr_9) g_1149 ⟨rfl, rfl⟩ ⟨(Nat.le_of_ble_eq_true rfl), (Nat.le_of_ble_eq_true rfl)⟩ hl.1 rfl rfl (Nat.le_of_ble_eq_true rfl) ⟨Nat.zero_le _, Nat.zero_le _⟩ dX8_takesPart_83 (fun H locs hS => ?_)
    refine lv_iadd hx hb dX8_takesPart_86 ?_
    exact wX8_takesPart_h87  C (x 99 17) (10000 + r_9) x_10 hf _ _ _ hS (lv_sub hl [0] rfl)
  · replace hf := if_p c_8 hf
    refine lv_aload_n hx hb dX8_takesPart_68 rfl (lv_at hl 0 rfl) ?_
    refine gf7_11 C hS (rfl) g_816 dX8_takesPart_69 ?_
    refine lv_goto (tgt := 87) hx hb dX8_takesPart_72 (by decide) ?_
    exact wX8_takesPart_h87  C (x 99 17) (x 99 11) x hf _ _ _ hS (lv_sub hl [0] rfl)
set_option maxRecDepth 100000 in
set_option maxHeartbeats 4000000 in
theorem wX8_takesPart_h37 {p : Program} {l : Launch} {e : Env} {s : State} {m : MethodId} {args : Array Value} {below : List Frame} {meth : Method} {c : Code} {G : GT} {r : Int32} {z : XS} (C : CX G p s m args meth c cX8_takesPart 2 (some .boolean) RX8) : ∀ (s0 : Int32) (x : XS), fX8_takesPart_h37 s0 x = some (r, z) → ∀ (H : Heap) (locs : List Loc) (ls : Array Slot), SR G x H locs → lv_has ls 2 [(0, .ref (G.1 + 99))] → W p l e rmX8_takesPart s m args below meth c H locs 0 0 (MQ below (QC G (some (.int r)) z) args s 0 0 (AB G)) (F0 m 37 ls [.int s0]) := by
  intro s0 x hf H locs ls hS hl
  have hx := C.1
  have hb := C.2.1
  have hown := C.2.2.2.2.2.1
  have hw := C.2.2.2.2.2.2.1
  unfold fX8_takesPart_h37 at hf
  refine lv_istore_n (lv' := [(1, .int s0), (0, .ref (G.1 + 99))]) hx hb dX8_takesPart_37 rfl hl (by decide) rfl (fun ls hl => ?_)
  refine lv_aload_n hx hb dX8_takesPart_38 rfl (lv_at hl 1 rfl) ?_
  refine gf7_10 C hS (rfl) g_815 dX8_takesPart_39 ?_
  refine lv_iconst (v := 2) hx hb dX8_takesPart_42 (by decide) ?_
  refine lv_icmp_eq (tgt := 52) hx hb dX8_takesPart_43 (by decide) (fun c_6 => ?_) (fun c_6 => ?_)
  · replace hf := if_p c_6 hf
    exact wX8_takesPart_h52  C x hf _ _ _ hS (lv_sub hl [1] rfl)
  · replace hf := if_n c_6 hf
    refine lv_iload_n hx hb dX8_takesPart_46 rfl (lv_at hl 0 rfl) ?_
    refine lv_if_ne (tgt := 52) hx hb dX8_takesPart_47 (by decide) (fun c_7 => ?_) (fun c_7 => ?_)
    · replace hf := if_n c_7 hf
      exact wX8_takesPart_h52  C x hf _ _ _ hS (lv_sub hl [1] rfl)
    · replace hf := if_p c_7 hf
      refine lv_iconst (v := 0) hx hb dX8_takesPart_50 (by decide) ?_
      exact rtZ C hS rfl hf dX8_takesPart_51
set_option maxRecDepth 100000 in
set_option maxHeartbeats 4000000 in
theorem cX8_takesPart_ {G : GT} {l : Launch} {x z : XS} {r : Int32} (hf : fX8_takesPart x = some (r, z)) : Ct G l yX8_takesPart (.code yX8_takesPart cX8_takesPart 2 (some .boolean)) rmX8_takesPart [.ref (G.1 + 99)] x (some (.int r)) z := by
  refine Ct.of (by decide +kernel) (Nat.le_of_ble_eq_true rfl) ?_
  intro p e s m args below meth c C ls hl hS
  have C : CX G p s m args meth c cX8_takesPart 2 (some .boolean) RX8 := C
  have hl : lv_has ls 2 [(0, .ref (G.1 + 99))] := hl
  have hx := C.1
  have hb := C.2.1
  have hown := C.2.2.2.2.2.1
  have hw := C.2.2.2.2.2.2.1
  unfold fX8_takesPart at hf
  refine lv_aload_n hx hb dX8_takesPart_0 rfl (lv_at hl 0 rfl) ?_
  refine gf7_10 C hS (rfl) g_815 dX8_takesPart_1 ?_
  refine lv_iconst (v := 1) hx hb dX8_takesPart_4 (by decide) ?_
  refine lv_icmp_ne (tgt := 36) hx hb dX8_takesPart_5 (by decide) (fun c_1 => ?_) (fun c_1 => ?_)
  · replace hf := if_n c_1 hf
    refine lv_iconst (v := 0) hx hb dX8_takesPart_36 (by decide) ?_
    exact wX8_takesPart_h37  C 0 x hf _ _ _ hS (lv_sub hl [0] rfl)
  · replace hf := if_p c_1 hf
    refine lv_aload_n hx hb dX8_takesPart_8 rfl (lv_at hl 0 rfl) ?_
    refine gf7_8 C hS (rfl) g_813 dX8_takesPart_9 ?_
    refine lv_aload_n hx hb dX8_takesPart_12 rfl (lv_at hl 0 rfl) ?_
    refine gf7_9 C hS (rfl) g_814 dX8_takesPart_13 ?_
    refine lv_isub hx hb dX8_takesPart_16 ?_
    refine lv_iconst (v := 1) hx hb dX8_takesPart_17 (by decide) ?_
    refine lv_icmp_ne (tgt := 36) hx hb dX8_takesPart_18 (by decide) (fun c_2 => ?_) (fun c_2 => ?_)
    · replace hf := if_n c_2 hf
      refine lv_iconst (v := 0) hx hb dX8_takesPart_36 (by decide) ?_
      exact wX8_takesPart_h37  C 0 x hf _ _ _ hS (lv_sub hl [0] rfl)
    · replace hf := if_p c_2 hf
      refine lv_aload_n hx hb dX8_takesPart_21 rfl (lv_at hl 0 rfl) ?_
      refine lv_aload_n hx hb dX8_takesPart_22 rfl (lv_at hl 0 rfl) ?_
      refine gf7_11 C hS (rfl) g_816 dX8_takesPart_23 ?_
      obtain ⟨r_3, x_4, qr_3, hf⟩ := bd_out hf
      refine rvI (As := [.int (x 99 11)]) (rest := []) C hS (rfl) rfl KX8_nameOf (cX8_nameOf_ qr_3) g_1149 ⟨rfl, rfl⟩ ⟨(Nat.le_of_ble_eq_true rfl), (Nat.le_of_ble_eq_true rfl)⟩ hl.1 rfl rfl (Nat.le_of_ble_eq_true rfl) ⟨Nat.zero_le _, Nat.zero_le _⟩ dX8_takesPart_26 (fun H locs hS => ?_)
      refine lv_if_lt (tgt := 36) hx hb dX8_takesPart_29 (by decide) (fun c_5 => ?_) (fun c_5 => ?_)
      · replace hf := if_p c_5 hf
        refine lv_iconst (v := 0) hx hb dX8_takesPart_36 (by decide) ?_
        exact wX8_takesPart_h37  C 0 x_4 hf _ _ _ hS (lv_sub hl [0] rfl)
      · replace hf := if_n c_5 hf
        refine lv_iconst (v := 1) hx hb dX8_takesPart_32 (by decide) ?_
        refine lv_goto (tgt := 37) hx hb dX8_takesPart_33 (by decide) ?_
        exact wX8_takesPart_h37  C 1 x_4 hf _ _ _ hS (lv_sub hl [0] rfl)
abbrev rmX8_notsOpen : Room := { frames := 0, cells := 0, slots := 0, locals := 0 }
set_option maxRecDepth 100000 in
set_option maxHeartbeats 4000000 in
theorem wbX8_notsOpen_h4 {p : Program} {l : Launch} {e : Env} {s : State} {m : MethodId} {args : Array Value} {below : List Frame} {meth : Method} {c : Code} {G : GT} {r : Int32} {z : XS} (C : CX G p s m args meth c cX8_notsOpen 3 (some .int) RX8) {k4 : Int32 → Int32 → XS → Option (Int32 × XS)} (hk4 : ∀ (u1 : Int32) (u2 : Int32) (x : XS), k4 u1 u2 x = some (r, z) → ∀ (H : Heap) (locs : List Loc) (ls : Array Slot), SR G x H locs → lv_has ls 3 [(0, .ref (G.1 + 99)), (1, .int u1), (2, .int u2)] → W p l e rmX8_notsOpen s m args below meth c H locs 0 0 (MQ below (QC G (some (.int r)) z) args s 0 0 (AB G)) (F0 m 4 ls [])) : ∀ (u1 : Int32) (u2 : Int32) (x : XS), bX8_notsOpen_h4 k4 u1 u2 x = some (r, z) → ∀ (H : Heap) (locs : List Loc) (ls : Array Slot), SR G x H locs → lv_has ls 3 [(0, .ref (G.1 + 99)), (1, .int u1), (2, .int u2)] → W p l e rmX8_notsOpen s m args below meth c H locs 0 0 (MQ below (QC G (some (.int r)) z) args s 0 0 (AB G)) (F0 m 4 ls []) := by
  intro u1 u2 x hf H locs ls hS hl
  have hx := C.1
  have hb := C.2.1
  have hown := C.2.2.2.2.2.1
  have hw := C.2.2.2.2.2.2.1
  unfold bX8_notsOpen_h4 at hf
  refine lv_iload_n hx hb dX8_notsOpen_4 rfl (lv_at hl 2 rfl) ?_
  refine lv_aload_n hx hb dX8_notsOpen_5 rfl (lv_at hl 0 rfl) ?_
  refine gf7_20 C hS (rfl) g_825 dX8_notsOpen_6 ?_
  refine lv_icmp_ge (tgt := 37) hx hb dX8_notsOpen_9 (by decide) (fun c_1 => ?_) (fun c_1 => ?_)
  · replace hf := if_p c_1 hf
    refine lv_iload_n hx hb dX8_notsOpen_37 rfl (lv_at hl 1 rfl) ?_
    exact rtI C hS hf dX8_notsOpen_38
  · replace hf := if_n c_1 hf
    refine lv_iload_n hx hb dX8_notsOpen_12 rfl (lv_at hl 1 rfl) ?_
    refine lv_aload_n hx hb dX8_notsOpen_13 rfl (lv_at hl 0 rfl) ?_
    refine gf7_19 C hS (rfl) g_824 dX8_notsOpen_14 ?_
    refine lv_iload_n hx hb dX8_notsOpen_17 rfl (lv_at hl 2 rfl) ?_
    obtain ⟨gg_2, hf⟩ := gd_out hf
    refine alI C hS (rfl) rfl gg_2 dX8_notsOpen_18 ?_
    refine lv_bipush (v := (-10)) hx hb dX8_notsOpen_19 (by decide) ?_
    refine lv_icmp_ne (tgt := 28) hx hb dX8_notsOpen_21 (by decide) (fun c_3 => ?_) (fun c_3 => ?_)
    · replace hf := if_n c_3 hf
      refine lv_iconst (v := 0) hx hb dX8_notsOpen_28 (by decide) ?_
      refine lv_iadd hx hb dX8_notsOpen_29 ?_
      obtain ⟨v_4, ev_4, hf⟩ := st_out hf
      refine topI ev_4 ?_
      refine lv_istore_n (lv' := [(1, .int v_4), (0, .ref (G.1 + 99)), (2, .int u2)]) hx hb dX8_notsOpen_30 rfl hl (by decide) rfl (fun ls hl => ?_)
      obtain ⟨v_5, ev_5, hf⟩ := st_out hf
      refine lv_iinc (v := v_5) (lv' := [(2, .int v_5), (1, .int v_4), (0, .ref (G.1 + 99))]) hx hb dX8_notsOpen_31 hl (k := 2) rfl (by rw [ev_5]; rfl) (by decide) rfl (fun ls hl => ?_)
      refine lv_goto (tgt := 4) hx hb dX8_notsOpen_34 (by decide) ?_
      exact hk4 v_4 v_5 x hf _ _ _ hS (lv_sub hl [2, 1, 0] rfl)
    · replace hf := if_p c_3 hf
      refine lv_iconst (v := 1) hx hb dX8_notsOpen_24 (by decide) ?_
      refine lv_goto (tgt := 29) hx hb dX8_notsOpen_25 (by decide) ?_
      refine lv_iadd hx hb dX8_notsOpen_29 ?_
      obtain ⟨v_6, ev_6, hf⟩ := st_out hf
      refine topI ev_6 ?_
      refine lv_istore_n (lv' := [(1, .int v_6), (0, .ref (G.1 + 99)), (2, .int u2)]) hx hb dX8_notsOpen_30 rfl hl (by decide) rfl (fun ls hl => ?_)
      obtain ⟨v_7, ev_7, hf⟩ := st_out hf
      refine lv_iinc (v := v_7) (lv' := [(2, .int v_7), (1, .int v_6), (0, .ref (G.1 + 99))]) hx hb dX8_notsOpen_31 hl (k := 2) rfl (by rw [ev_7]; rfl) (by decide) rfl (fun ls hl => ?_)
      refine lv_goto (tgt := 4) hx hb dX8_notsOpen_34 (by decide) ?_
      exact hk4 v_6 v_7 x hf _ _ _ hS (lv_sub hl [2, 1, 0] rfl)
theorem wlX8_notsOpen_h4 {p : Program} {l : Launch} {e : Env} {s : State} {m : MethodId} {args : Array Value} {below : List Frame} {meth : Method} {c : Code} {G : GT} {r : Int32} {z : XS} (C : CX G p s m args meth c cX8_notsOpen 3 (some .int) RX8) (n : Nat) : ∀ (u1 : Int32) (u2 : Int32) (x : XS), lX8_notsOpen_h4 n u1 u2 x = some (r, z) → ∀ (H : Heap) (locs : List Loc) (ls : Array Slot), SR G x H locs → lv_has ls 3 [(0, .ref (G.1 + 99)), (1, .int u1), (2, .int u2)] → W p l e rmX8_notsOpen s m args below meth c H locs 0 0 (MQ below (QC G (some (.int r)) z) args s 0 0 (AB G)) (F0 m 4 ls []) := by
  induction n with
  | zero => intro u1 u2 x hf H locs ls hS hl; exact absurd hf (by intro q; cases q)
  | succ n ih => exact wbX8_notsOpen_h4 C ih
theorem wX8_notsOpen_h4 {p : Program} {l : Launch} {e : Env} {s : State} {m : MethodId} {args : Array Value} {below : List Frame} {meth : Method} {c : Code} {G : GT} {r : Int32} {z : XS} (C : CX G p s m args meth c cX8_notsOpen 3 (some .int) RX8) : ∀ (u1 : Int32) (u2 : Int32) (x : XS), fX8_notsOpen_h4 u1 u2 x = some (r, z) → ∀ (H : Heap) (locs : List Loc) (ls : Array Slot), SR G x H locs → lv_has ls 3 [(0, .ref (G.1 + 99)), (1, .int u1), (2, .int u2)] → W p l e rmX8_notsOpen s m args below meth c H locs 0 0 (MQ below (QC G (some (.int r)) z) args s 0 0 (AB G)) (F0 m 4 ls []) := wlX8_notsOpen_h4 C FU
set_option maxRecDepth 100000 in
set_option maxHeartbeats 4000000 in
theorem cX8_notsOpen_ {G : GT} {l : Launch} {x z : XS} {r : Int32} (hf : fX8_notsOpen x = some (r, z)) : Ct G l yX8_notsOpen (.code yX8_notsOpen cX8_notsOpen 3 (some .int)) rmX8_notsOpen [.ref (G.1 + 99)] x (some (.int r)) z := by
  refine Ct.of (by decide +kernel) (Nat.le_of_ble_eq_true rfl) ?_
  intro p e s m args below meth c C ls hl hS
  have C : CX G p s m args meth c cX8_notsOpen 3 (some .int) RX8 := C
  have hl : lv_has ls 3 [(0, .ref (G.1 + 99))] := hl
  have hx := C.1
  have hb := C.2.1
  have hown := C.2.2.2.2.2.1
  have hw := C.2.2.2.2.2.2.1
  unfold fX8_notsOpen at hf
  refine lv_iconst (v := 0) hx hb dX8_notsOpen_0 (by decide) ?_
  refine lv_istore_n (lv' := [(1, .int 0), (0, .ref (G.1 + 99))]) hx hb dX8_notsOpen_1 rfl hl (by decide) rfl (fun ls hl => ?_)
  refine lv_iconst (v := 0) hx hb dX8_notsOpen_2 (by decide) ?_
  refine lv_istore_n (lv' := [(2, .int 0), (1, .int 0), (0, .ref (G.1 + 99))]) hx hb dX8_notsOpen_3 rfl hl (by decide) rfl (fun ls hl => ?_)
  exact wX8_notsOpen_h4  C 0 0 x hf _ _ _ hS (lv_sub hl [2, 1, 0] rfl)
abbrev rmX8_takesE : Room := { frames := 3, cells := 0, slots := 0, locals := 63 }
set_option maxRecDepth 100000 in
set_option maxHeartbeats 4000000 in
theorem wX8_takesE_h172 {p : Program} {l : Launch} {e : Env} {s : State} {m : MethodId} {args : Array Value} {below : List Frame} {meth : Method} {c : Code} {G : GT} {r : Int32} {z : XS} (C : CX G p s m args meth c cX8_takesE 5 (some .boolean) RX8) {k28 : Int32 → Int32 → Int32 → XS → Option (Int32 × XS)} (hk28 : ∀ (u1 : Int32) (u2 : Int32) (u3 : Int32) (x : XS), k28 u1 u2 u3 x = some (r, z) → ∀ (H : Heap) (locs : List Loc) (ls : Array Slot), SR G x H locs → lv_has ls 5 [(0, .ref (G.1 + 99)), (1, .int u1), (2, .int u2), (3, .int u3)] → W p l e rmX8_takesE s m args below meth c H locs 0 0 (MQ below (QC G (some (.int r)) z) args s 0 0 (AB G)) (F0 m 28 ls [])) : ∀ (u1 : Int32) (u3 : Int32) (x : XS), fX8_takesE_h172 k28 u1 u3 x = some (r, z) → ∀ (H : Heap) (locs : List Loc) (ls : Array Slot), SR G x H locs → lv_has ls 5 [(0, .ref (G.1 + 99)), (1, .int u1), (3, .int u3)] → W p l e rmX8_takesE s m args below meth c H locs 0 0 (MQ below (QC G (some (.int r)) z) args s 0 0 (AB G)) (F0 m 172 ls []) := by
  intro u1 u3 x hf H locs ls hS hl
  have hx := C.1
  have hb := C.2.1
  have hown := C.2.2.2.2.2.1
  have hw := C.2.2.2.2.2.2.1
  unfold fX8_takesE_h172 at hf
  refine lv_aload_n hx hb dX8_takesE_172 rfl (lv_at hl 0 rfl) ?_
  obtain ⟨r_53, x_54, qr_53, hf⟩ := bd_out hf
  refine rvI (As := []) (rest := []) C hS (rfl) rfl KX8_notsOpen (cX8_notsOpen_ qr_53) g_1160 ⟨rfl, rfl⟩ ⟨(Nat.le_of_ble_eq_true rfl), (Nat.le_of_ble_eq_true rfl)⟩ hl.1 rfl rfl (Nat.le_of_ble_eq_true rfl) ⟨Nat.zero_le _, Nat.zero_le _⟩ dX8_takesE_173 (fun H locs hS => ?_)
  refine lv_istore_n (lv' := [(2, .int r_53), (0, .ref (G.1 + 99)), (1, .int u1), (3, .int u3)]) hx hb dX8_takesE_176 rfl hl (by decide) rfl (fun ls hl => ?_)
  refine lv_goto (tgt := 28) hx hb dX8_takesE_177 (by decide) ?_
  exact hk28 u1 r_53 u3 x_54 hf _ _ _ hS (lv_sub hl [1, 2, 0, 3] rfl)
set_option maxRecDepth 100000 in
set_option maxHeartbeats 4000000 in
theorem wX8_takesE_h158 {p : Program} {l : Launch} {e : Env} {s : State} {m : MethodId} {args : Array Value} {below : List Frame} {meth : Method} {c : Code} {G : GT} {r : Int32} {z : XS} (C : CX G p s m args meth c cX8_takesE 5 (some .boolean) RX8) {k28 : Int32 → Int32 → Int32 → XS → Option (Int32 × XS)} (hk28 : ∀ (u1 : Int32) (u2 : Int32) (u3 : Int32) (x : XS), k28 u1 u2 u3 x = some (r, z) → ∀ (H : Heap) (locs : List Loc) (ls : Array Slot), SR G x H locs → lv_has ls 5 [(0, .ref (G.1 + 99)), (1, .int u1), (2, .int u2), (3, .int u3)] → W p l e rmX8_takesE s m args below meth c H locs 0 0 (MQ below (QC G (some (.int r)) z) args s 0 0 (AB G)) (F0 m 28 ls [])) : ∀ (u1 : Int32) (x : XS), fX8_takesE_h158 k28 u1 x = some (r, z) → ∀ (H : Heap) (locs : List Loc) (ls : Array Slot), SR G x H locs → lv_has ls 5 [(0, .ref (G.1 + 99)), (1, .int u1)] → W p l e rmX8_takesE s m args below meth c H locs 0 0 (MQ below (QC G (some (.int r)) z) args s 0 0 (AB G)) (F0 m 158 ls []) := by
  intro u1 x hf H locs ls hS hl
  have hx := C.1
  have hb := C.2.1
  have hown := C.2.2.2.2.2.1
  have hw := C.2.2.2.2.2.2.1
  unfold fX8_takesE_h158 at hf
  refine lv_aload_n hx hb dX8_takesE_158 rfl (lv_at hl 0 rfl) ?_
  obtain ⟨r_63, x_64, qr_63, hf⟩ := bd_out hf
  refine rvI (As := []) (rest := []) C hS (rfl) rfl KX8_takesPart (cX8_takesPart_ qr_63) g_1145 ⟨rfl, rfl⟩ ⟨(Nat.le_of_ble_eq_true rfl), (Nat.le_of_ble_eq_true rfl)⟩ hl.1 rfl rfl (Nat.le_of_ble_eq_true rfl) ⟨Nat.zero_le _, Nat.zero_le _⟩ dX8_takesE_159 (fun H locs hS => ?_)
  refine lv_if_eq (tgt := 170) hx hb dX8_takesE_162 (by decide) (fun c_65 => ?_) (fun c_65 => ?_)
  · replace hf := if_p c_65 hf
    refine lv_iconst (v := 0) hx hb dX8_takesE_170 (by decide) ?_
    exact rtZ C hS rfl hf dX8_takesE_171
  · replace hf := if_n c_65 hf
    refine lv_iconst (v := 0) hx hb dX8_takesE_165 (by decide) ?_
    refine lv_istore_n (lv' := [(3, .int 0), (0, .ref (G.1 + 99)), (1, .int u1)]) hx hb dX8_takesE_166 rfl hl (by decide) rfl (fun ls hl => ?_)
    refine lv_goto (tgt := 172) hx hb dX8_takesE_167 (by decide) ?_
    exact wX8_takesE_h172  C hk28 u1 0 x_64 hf _ _ _ hS (lv_sub hl [1, 2, 0] rfl)
set_option maxRecDepth 100000 in
set_option maxHeartbeats 4000000 in
theorem wX8_takesE_h97 {p : Program} {l : Launch} {e : Env} {s : State} {m : MethodId} {args : Array Value} {below : List Frame} {meth : Method} {c : Code} {G : GT} {r : Int32} {z : XS} (C : CX G p s m args meth c cX8_takesE 5 (some .boolean) RX8) {k28 : Int32 → Int32 → Int32 → XS → Option (Int32 × XS)} (hk28 : ∀ (u1 : Int32) (u2 : Int32) (u3 : Int32) (x : XS), k28 u1 u2 u3 x = some (r, z) → ∀ (H : Heap) (locs : List Loc) (ls : Array Slot), SR G x H locs → lv_has ls 5 [(0, .ref (G.1 + 99)), (1, .int u1), (2, .int u2), (3, .int u3)] → W p l e rmX8_takesE s m args below meth c H locs 0 0 (MQ below (QC G (some (.int r)) z) args s 0 0 (AB G)) (F0 m 28 ls [])) : ∀ (u1 : Int32) (u3 : Int32) (x : XS), fX8_takesE_h97 k28 u1 u3 x = some (r, z) → ∀ (H : Heap) (locs : List Loc) (ls : Array Slot), SR G x H locs → lv_has ls 5 [(0, .ref (G.1 + 99)), (1, .int u1), (3, .int u3)] → W p l e rmX8_takesE s m args below meth c H locs 0 0 (MQ below (QC G (some (.int r)) z) args s 0 0 (AB G)) (F0 m 97 ls []) := by
  intro u1 u3 x hf H locs ls hS hl
  have hx := C.1
  have hb := C.2.1
  have hown := C.2.2.2.2.2.1
  have hw := C.2.2.2.2.2.2.1
  unfold fX8_takesE_h97 at hf
  refine lv_aload_n hx hb dX8_takesE_97 rfl (lv_at hl 0 rfl) ?_
  refine gf7_10 C hS (rfl) g_815 dX8_takesE_98 ?_
  refine lv_iconst (v := 3) hx hb dX8_takesE_101 (by decide) ?_
  refine lv_icmp_ne (tgt := 158) hx hb dX8_takesE_102 (by decide) (fun c_42 => ?_) (fun c_42 => ?_)
  · replace hf := if_n c_42 hf
    exact wX8_takesE_h158  C hk28 u1 x hf _ _ _ hS (lv_sub hl [0, 1] rfl)
  · replace hf := if_p c_42 hf
    refine lv_aload_n hx hb dX8_takesE_105 rfl (lv_at hl 0 rfl) ?_
    refine gf7_11 C hS (rfl) g_816 dX8_takesE_106 ?_
    refine lv_bipush (v := 40) hx hb dX8_takesE_109 (by decide) ?_
    refine lv_icmp_ne (tgt := 158) hx hb dX8_takesE_111 (by decide) (fun c_43 => ?_) (fun c_43 => ?_)
    · replace hf := if_n c_43 hf
      exact wX8_takesE_h158  C hk28 u1 x hf _ _ _ hS (lv_sub hl [0, 1] rfl)
    · replace hf := if_p c_43 hf
      refine lv_iload_n hx hb dX8_takesE_114 rfl (lv_at hl 1 rfl) ?_
      refine lv_bipush (v := 8) hx hb dX8_takesE_115 (by decide) ?_
      refine lv_icmp_ge (tgt := 158) hx hb dX8_takesE_117 (by decide) (fun c_44 => ?_) (fun c_44 => ?_)
      · replace hf := if_p c_44 hf
        exact wX8_takesE_h158  C hk28 u1 x hf _ _ _ hS (lv_sub hl [0, 1] rfl)
      · replace hf := if_n c_44 hf
        refine lv_aload_n hx hb dX8_takesE_120 rfl (lv_at hl 0 rfl) ?_
        refine gf7_19 C hS (rfl) g_824 dX8_takesE_121 ?_
        refine lv_aload_n hx hb dX8_takesE_124 rfl (lv_at hl 0 rfl) ?_
        refine gf7_20 C hS (rfl) g_825 dX8_takesE_125 ?_
        refine lv_bipush (v := (-11)) hx hb dX8_takesE_128 (by decide) ?_
        obtain ⟨gg_45, hf⟩ := gd_out hf
        obtain ⟨x_46, ex_46, hf⟩ := st_out hf
        refine asI C hS (rfl) rfl gg_45 ex_46 dX8_takesE_130 (fun H locs hS => ?_)
        refine lv_aload_n hx hb dX8_takesE_131 rfl (lv_at hl 0 rfl) ?_
        refine lv_dup hx hb dX8_takesE_132 rfl ?_
        refine gf7_20 C hS (rfl) g_825 dX8_takesE_133 ?_
        refine lv_iconst (v := 1) hx hb dX8_takesE_136 (by decide) ?_
        refine lv_iadd hx hb dX8_takesE_137 ?_
        obtain ⟨x_47, ex_47, hf⟩ := st_out hf
        refine pf7_20 C hS (rfl) g_825 ex_47 dX8_takesE_138 (fun H locs hS => ?_)
        obtain ⟨v_48, ev_48, hf⟩ := st_out hf
        refine lv_iinc (v := v_48) (lv' := [(1, .int v_48), (0, .ref (G.1 + 99)), (3, .int u3)]) hx hb dX8_takesE_141 hl (k := 1) rfl (by rw [ev_48]; rfl) (by decide) rfl (fun ls hl => ?_)
        refine lv_aload_n hx hb dX8_takesE_144 rfl (lv_at hl 1 rfl) ?_
        refine gf7_21 C hS (rfl) g_826 dX8_takesE_145 ?_
        refine lv_iload_n hx hb dX8_takesE_148 rfl (lv_at hl 0 rfl) ?_
        refine lv_iconst (v := 0) hx hb dX8_takesE_149 (by decide) ?_
        obtain ⟨gg_49, hf⟩ := gd_out hf
        obtain ⟨x_50, ex_50, hf⟩ := st_out hf
        refine asZ C hS (rfl) rfl gg_49 ex_50 dX8_takesE_150 (fun H locs hS => ?_)
        refine lv_aload_n hx hb dX8_takesE_151 rfl (lv_at hl 1 rfl) ?_
        obtain ⟨r_51, x_52, qr_51, hf⟩ := bd_out hf
        refine rvV (As := []) (rest := []) C hS (rfl) rfl KX8_go (cX8_go_ qr_51) g_1125 ⟨rfl, rfl⟩ ⟨(Nat.le_of_ble_eq_true rfl), (Nat.le_of_ble_eq_true rfl)⟩ hl.1 rfl rfl (Nat.le_of_ble_eq_true rfl) ⟨Nat.zero_le _, Nat.zero_le _⟩ dX8_takesE_152 (fun H locs hS => ?_)
        refine lv_goto (tgt := 172) hx hb dX8_takesE_155 (by decide) ?_
        exact wX8_takesE_h172  C hk28 v_48 u3 x_52 hf _ _ _ hS (lv_sub hl [1, 0, 2] rfl)
set_option maxRecDepth 100000 in
set_option maxHeartbeats 4000000 in
theorem wX8_takesE_h305 {p : Program} {l : Launch} {e : Env} {s : State} {m : MethodId} {args : Array Value} {below : List Frame} {meth : Method} {c : Code} {G : GT} {r : Int32} {z : XS} (C : CX G p s m args meth c cX8_takesE 5 (some .boolean) RX8) {k28 : Int32 → Int32 → Int32 → XS → Option (Int32 × XS)} (hk28 : ∀ (u1 : Int32) (u2 : Int32) (u3 : Int32) (x : XS), k28 u1 u2 u3 x = some (r, z) → ∀ (H : Heap) (locs : List Loc) (ls : Array Slot), SR G x H locs → lv_has ls 5 [(0, .ref (G.1 + 99)), (1, .int u1), (2, .int u2), (3, .int u3)] → W p l e rmX8_takesE s m args below meth c H locs 0 0 (MQ below (QC G (some (.int r)) z) args s 0 0 (AB G)) (F0 m 28 ls [])) : ∀ (u1 : Int32) (u2 : Int32) (u4 : Int32) (s1 : Int32) (s2 : Int32) (x : XS), fX8_takesE_h305 k28 u1 u2 u4 s1 s2 x = some (r, z) → ∀ (H : Heap) (locs : List Loc) (ls : Array Slot), SR G x H locs → lv_has ls 5 [(0, .ref (G.1 + 99)), (1, .int u1), (2, .int u2), (4, .int u4)] → W p l e rmX8_takesE s m args below meth c H locs 0 0 (MQ below (QC G (some (.int r)) z) args s 0 0 (AB G)) (F0 m 305 ls [.int s2, .int s1, .ref (G.1 + 109)]) := by
  intro u1 u2 u4 s1 s2 x hf H locs ls hS hl
  have hx := C.1
  have hb := C.2.1
  have hown := C.2.2.2.2.2.1
  have hw := C.2.2.2.2.2.2.1
  unfold fX8_takesE_h305 at hf
  obtain ⟨gg_66, hf⟩ := gd_out hf
  obtain ⟨x_67, ex_67, hf⟩ := st_out hf
  refine asZ C hS (rfl) rfl gg_66 ex_67 dX8_takesE_305 (fun H locs hS => ?_)
  refine lv_aload_n hx hb dX8_takesE_306 rfl (lv_at hl 0 rfl) ?_
  refine lv_iload hx hb dX8_takesE_307 (lv_at hl 3 rfl) ?_
  obtain ⟨r_68, x_69, qr_68, hf⟩ := bd_out hf
  refine rsI (As := [.int u4]) (rest := [.ref (G.1 + 99)]) C hS KX8_rank (cX8_rank_ qr_68) g_1157 ⟨rfl, rfl⟩ ⟨(Nat.le_of_ble_eq_true rfl), (Nat.le_of_ble_eq_true rfl)⟩ hl.1 rfl rfl (Nat.le_of_ble_eq_true rfl) ⟨Nat.zero_le _, Nat.zero_le _⟩ dX8_takesE_309 (fun H locs hS => ?_)
  obtain ⟨r_70, x_71, qr_70, hf⟩ := bd_out hf
  refine rvV (As := [.int r_68]) (rest := []) C hS (rfl) rfl KX8_settle (cX8_settle_ qr_70) g_1153 ⟨rfl, rfl⟩ ⟨(Nat.le_of_ble_eq_true rfl), (Nat.le_of_ble_eq_true rfl)⟩ hl.1 rfl rfl (Nat.le_of_ble_eq_true rfl) ⟨Nat.zero_le _, Nat.zero_le _⟩ dX8_takesE_312 (fun H locs hS => ?_)
  refine lv_aload_n hx hb dX8_takesE_315 rfl (lv_at hl 0 rfl) ?_
  refine gf7_19 C hS (rfl) g_824 dX8_takesE_316 ?_
  refine lv_aload_n hx hb dX8_takesE_319 rfl (lv_at hl 0 rfl) ?_
  refine gf7_20 C hS (rfl) g_825 dX8_takesE_320 ?_
  refine lv_iload hx hb dX8_takesE_323 (lv_at hl 3 rfl) ?_
  obtain ⟨gg_72, hf⟩ := gd_out hf
  obtain ⟨x_73, ex_73, hf⟩ := st_out hf
  refine asI C hS (rfl) rfl gg_72 ex_73 dX8_takesE_325 (fun H locs hS => ?_)
  refine lv_aload_n hx hb dX8_takesE_326 rfl (lv_at hl 0 rfl) ?_
  refine lv_dup hx hb dX8_takesE_327 rfl ?_
  refine gf7_20 C hS (rfl) g_825 dX8_takesE_328 ?_
  refine lv_iconst (v := 1) hx hb dX8_takesE_331 (by decide) ?_
  refine lv_iadd hx hb dX8_takesE_332 ?_
  obtain ⟨x_74, ex_74, hf⟩ := st_out hf
  refine pf7_20 C hS (rfl) g_825 ex_74 dX8_takesE_333 (fun H locs hS => ?_)
  refine lv_iconst (v := 1) hx hb dX8_takesE_336 (by decide) ?_
  refine lv_istore_n (lv' := [(3, .int 1), (0, .ref (G.1 + 99)), (1, .int u1), (2, .int u2), (4, .int u4)]) hx hb dX8_takesE_337 rfl hl (by decide) rfl (fun ls hl => ?_)
  refine lv_aload_n hx hb dX8_takesE_338 rfl (lv_at hl 1 rfl) ?_
  obtain ⟨r_75, x_76, qr_75, hf⟩ := bd_out hf
  refine rvV (As := []) (rest := []) C hS (rfl) rfl KX8_go (cX8_go_ qr_75) g_1125 ⟨rfl, rfl⟩ ⟨(Nat.le_of_ble_eq_true rfl), (Nat.le_of_ble_eq_true rfl)⟩ hl.1 rfl rfl (Nat.le_of_ble_eq_true rfl) ⟨Nat.zero_le _, Nat.zero_le _⟩ dX8_takesE_339 (fun H locs hS => ?_)
  refine lv_goto (tgt := 28) hx hb dX8_takesE_342 (by decide) ?_
  exact hk28 u1 u2 1 x_76 hf _ _ _ hS (lv_sub hl [1, 2, 3, 0] rfl)
set_option maxRecDepth 100000 in
set_option maxHeartbeats 4000000 in
theorem wX8_takesE_h268 {p : Program} {l : Launch} {e : Env} {s : State} {m : MethodId} {args : Array Value} {below : List Frame} {meth : Method} {c : Code} {G : GT} {r : Int32} {z : XS} (C : CX G p s m args meth c cX8_takesE 5 (some .boolean) RX8) {k28 : Int32 → Int32 → Int32 → XS → Option (Int32 × XS)} (hk28 : ∀ (u1 : Int32) (u2 : Int32) (u3 : Int32) (x : XS), k28 u1 u2 u3 x = some (r, z) → ∀ (H : Heap) (locs : List Loc) (ls : Array Slot), SR G x H locs → lv_has ls 5 [(0, .ref (G.1 + 99)), (1, .int u1), (2, .int u2), (3, .int u3)] → W p l e rmX8_takesE s m args below meth c H locs 0 0 (MQ below (QC G (some (.int r)) z) args s 0 0 (AB G)) (F0 m 28 ls [])) : ∀ (u1 : Int32) (u2 : Int32) (u4 : Int32) (x : XS), fX8_takesE_h268 k28 u1 u2 u4 x = some (r, z) → ∀ (H : Heap) (locs : List Loc) (ls : Array Slot), SR G x H locs → lv_has ls 5 [(0, .ref (G.1 + 99)), (1, .int u1), (2, .int u2), (4, .int u4)] → W p l e rmX8_takesE s m args below meth c H locs 0 0 (MQ below (QC G (some (.int r)) z) args s 0 0 (AB G)) (F0 m 268 ls []) := by
  intro u1 u2 u4 x hf H locs ls hS hl
  have hx := C.1
  have hb := C.2.1
  have hown := C.2.2.2.2.2.1
  have hw := C.2.2.2.2.2.2.1
  unfold fX8_takesE_h268 at hf
  refine lv_aload_n hx hb dX8_takesE_268 rfl (lv_at hl 0 rfl) ?_
  refine gf7_21 C hS (rfl) g_826 dX8_takesE_269 ?_
  refine lv_iload_n hx hb dX8_takesE_272 rfl (lv_at hl 1 rfl) ?_
  refine lv_iload hx hb dX8_takesE_273 (lv_at hl 3 rfl) ?_
  obtain ⟨r_55, x_56, qr_55, hf⟩ := bd_out hf
  refine rsI (As := [.int u4]) (rest := [.int u1, .ref (G.1 + 109)]) C hS KX8_rank (cX8_rank_ qr_55) g_1157 ⟨rfl, rfl⟩ ⟨(Nat.le_of_ble_eq_true rfl), (Nat.le_of_ble_eq_true rfl)⟩ hl.1 rfl rfl (Nat.le_of_ble_eq_true rfl) ⟨Nat.zero_le _, Nat.zero_le _⟩ dX8_takesE_275 (fun H locs hS => ?_)
  refine lv_iconst (v := 3) hx hb dX8_takesE_278 (by decide) ?_
  refine lv_icmp_eq (tgt := 300) hx hb dX8_takesE_279 (by decide) (fun c_57 => ?_) (fun c_57 => ?_)
  · replace hf := if_p c_57 hf
    refine lv_iconst (v := 1) hx hb dX8_takesE_300 (by decide) ?_
    refine lv_goto (tgt := 305) hx hb dX8_takesE_301 (by decide) ?_
    exact wX8_takesE_h305  C hk28 u1 u2 u4 u1 1 x_56 hf _ _ _ hS (lv_sub hl [0, 1, 2, 3] rfl)
  · replace hf := if_n c_57 hf
    refine lv_iload hx hb dX8_takesE_282 (lv_at hl 3 rfl) ?_
    obtain ⟨r_58, x_59, qr_58, hf⟩ := bd_out hf
    refine rsI (As := [.int u4]) (rest := [.int u1, .ref (G.1 + 109)]) C hS KX8_rank (cX8_rank_ qr_58) g_1157 ⟨rfl, rfl⟩ ⟨(Nat.le_of_ble_eq_true rfl), (Nat.le_of_ble_eq_true rfl)⟩ hl.1 rfl rfl (Nat.le_of_ble_eq_true rfl) ⟨Nat.zero_le _, Nat.zero_le _⟩ dX8_takesE_284 (fun H locs hS => ?_)
    refine lv_iconst (v := 3) hx hb dX8_takesE_287 (by decide) ?_
    refine lv_icmp_le (tgt := 304) hx hb dX8_takesE_288 (by decide) (fun c_60 => ?_) (fun c_60 => ?_)
    · replace hf := if_p c_60 hf
      refine lv_iconst (v := 0) hx hb dX8_takesE_304 (by decide) ?_
      exact wX8_takesE_h305  C hk28 u1 u2 u4 u1 0 x_59 hf _ _ _ hS (lv_sub hl [0, 1, 2, 3] rfl)
    · replace hf := if_n c_60 hf
      refine lv_aload_n hx hb dX8_takesE_291 rfl (lv_at hl 0 rfl) ?_
      refine gf7_21 C hS (rfl) g_826 dX8_takesE_292 ?_
      refine lv_iload_n hx hb dX8_takesE_295 rfl (lv_at hl 1 rfl) ?_
      obtain ⟨gg_61, hf⟩ := gd_out hf
      refine alZ C hS (rfl) rfl gg_61 dX8_takesE_296 ?_
      refine lv_if_eq (tgt := 304) hx hb dX8_takesE_297 (by decide) (fun c_62 => ?_) (fun c_62 => ?_)
      · replace hf := if_p c_62 hf
        refine lv_iconst (v := 0) hx hb dX8_takesE_304 (by decide) ?_
        exact wX8_takesE_h305  C hk28 u1 u2 u4 u1 0 x_59 hf _ _ _ hS (lv_sub hl [0, 1, 2, 3] rfl)
      · replace hf := if_n c_62 hf
        refine lv_iconst (v := 1) hx hb dX8_takesE_300 (by decide) ?_
        refine lv_goto (tgt := 305) hx hb dX8_takesE_301 (by decide) ?_
        exact wX8_takesE_h305  C hk28 u1 u2 u4 u1 1 x_59 hf _ _ _ hS (lv_sub hl [0, 1, 2, 3] rfl)
set_option maxRecDepth 100000 in
set_option maxHeartbeats 4000000 in
theorem wX8_takesE_h237 {p : Program} {l : Launch} {e : Env} {s : State} {m : MethodId} {args : Array Value} {below : List Frame} {meth : Method} {c : Code} {G : GT} {r : Int32} {z : XS} (C : CX G p s m args meth c cX8_takesE 5 (some .boolean) RX8) {k28 : Int32 → Int32 → Int32 → XS → Option (Int32 × XS)} (hk28 : ∀ (u1 : Int32) (u2 : Int32) (u3 : Int32) (x : XS), k28 u1 u2 u3 x = some (r, z) → ∀ (H : Heap) (locs : List Loc) (ls : Array Slot), SR G x H locs → lv_has ls 5 [(0, .ref (G.1 + 99)), (1, .int u1), (2, .int u2), (3, .int u3)] → W p l e rmX8_takesE s m args below meth c H locs 0 0 (MQ below (QC G (some (.int r)) z) args s 0 0 (AB G)) (F0 m 28 ls [])) : ∀ (u1 : Int32) (u2 : Int32) (x : XS), fX8_takesE_h237 k28 u1 u2 x = some (r, z) → ∀ (H : Heap) (locs : List Loc) (ls : Array Slot), SR G x H locs → lv_has ls 5 [(0, .ref (G.1 + 99)), (1, .int u1), (2, .int u2)] → W p l e rmX8_takesE s m args below meth c H locs 0 0 (MQ below (QC G (some (.int r)) z) args s 0 0 (AB G)) (F0 m 237 ls []) := by
  intro u1 u2 x hf H locs ls hS hl
  have hx := C.1
  have hb := C.2.1
  have hown := C.2.2.2.2.2.1
  have hw := C.2.2.2.2.2.2.1
  unfold fX8_takesE_h237 at hf
  refine lv_aload_n hx hb dX8_takesE_237 rfl (lv_at hl 0 rfl) ?_
  obtain ⟨r_34, x_35, qr_34, hf⟩ := bd_out hf
  refine rvI (As := []) (rest := []) C hS (rfl) rfl KX8_signHere (cX8_signHere_ qr_34) g_1164 ⟨rfl, rfl⟩ ⟨(Nat.le_of_ble_eq_true rfl), (Nat.le_of_ble_eq_true rfl)⟩ hl.1 rfl rfl (Nat.le_of_ble_eq_true rfl) ⟨Nat.zero_le _, Nat.zero_le _⟩ dX8_takesE_238 (fun H locs hS => ?_)
  refine lv_istore (lv' := [(4, .int r_34), (0, .ref (G.1 + 99)), (1, .int u1), (2, .int u2)]) hx hb dX8_takesE_241 hl (by decide) rfl (fun ls hl => ?_)
  refine lv_iload hx hb dX8_takesE_243 (lv_at hl 0 rfl) ?_
  refine lv_if_eq (tgt := 266) hx hb dX8_takesE_245 (by decide) (fun c_36 => ?_) (fun c_36 => ?_)
  · replace hf := if_p c_36 hf
    refine lv_iconst (v := 0) hx hb dX8_takesE_266 (by decide) ?_
    exact rtZ C hS rfl hf dX8_takesE_267
  · replace hf := if_n c_36 hf
    refine lv_iload hx hb dX8_takesE_248 (lv_at hl 0 rfl) ?_
    obtain ⟨r_37, x_38, qr_37, hf⟩ := bd_out hf
    refine rsI (As := [.int r_34]) (rest := []) C hS KX8_rank (cX8_rank_ qr_37) g_1157 ⟨rfl, rfl⟩ ⟨(Nat.le_of_ble_eq_true rfl), (Nat.le_of_ble_eq_true rfl)⟩ hl.1 rfl rfl (Nat.le_of_ble_eq_true rfl) ⟨Nat.zero_le _, Nat.zero_le _⟩ dX8_takesE_250 (fun H locs hS => ?_)
    refine lv_iconst (v := 3) hx hb dX8_takesE_253 (by decide) ?_
    refine lv_icmp_ne (tgt := 268) hx hb dX8_takesE_254 (by decide) (fun c_39 => ?_) (fun c_39 => ?_)
    · replace hf := if_n c_39 hf
      exact wX8_takesE_h268  C hk28 u1 u2 r_34 x_38 hf _ _ _ hS (lv_sub hl [1, 2, 3, 0] rfl)
    · replace hf := if_p c_39 hf
      refine lv_aload_n hx hb dX8_takesE_257 rfl (lv_at hl 1 rfl) ?_
      refine gf7_21 C hS (rfl) g_826 dX8_takesE_258 ?_
      refine lv_iload_n hx hb dX8_takesE_261 rfl (lv_at hl 2 rfl) ?_
      obtain ⟨gg_40, hf⟩ := gd_out hf
      refine alZ C hS (rfl) rfl gg_40 dX8_takesE_262 ?_
      refine lv_if_eq (tgt := 268) hx hb dX8_takesE_263 (by decide) (fun c_41 => ?_) (fun c_41 => ?_)
      · replace hf := if_p c_41 hf
        exact wX8_takesE_h268  C hk28 u1 u2 r_34 x_38 hf _ _ _ hS (lv_sub hl [1, 2, 3, 0] rfl)
      · replace hf := if_n c_41 hf
        refine lv_iconst (v := 0) hx hb dX8_takesE_266 (by decide) ?_
        exact rtZ C hS rfl hf dX8_takesE_267
set_option maxRecDepth 100000 in
set_option maxHeartbeats 4000000 in
theorem wX8_takesE_h39 {p : Program} {l : Launch} {e : Env} {s : State} {m : MethodId} {args : Array Value} {below : List Frame} {meth : Method} {c : Code} {G : GT} {r : Int32} {z : XS} (C : CX G p s m args meth c cX8_takesE 5 (some .boolean) RX8) {k28 : Int32 → Int32 → Int32 → XS → Option (Int32 × XS)} (hk28 : ∀ (u1 : Int32) (u2 : Int32) (u3 : Int32) (x : XS), k28 u1 u2 u3 x = some (r, z) → ∀ (H : Heap) (locs : List Loc) (ls : Array Slot), SR G x H locs → lv_has ls 5 [(0, .ref (G.1 + 99)), (1, .int u1), (2, .int u2), (3, .int u3)] → W p l e rmX8_takesE s m args below meth c H locs 0 0 (MQ below (QC G (some (.int r)) z) args s 0 0 (AB G)) (F0 m 28 ls [])) : ∀ (u1 : Int32) (u2 : Int32) (u3 : Int32) (x : XS), fX8_takesE_h39 k28 u1 u2 u3 x = some (r, z) → ∀ (H : Heap) (locs : List Loc) (ls : Array Slot), SR G x H locs → lv_has ls 5 [(0, .ref (G.1 + 99)), (1, .int u1), (2, .int u2), (3, .int u3)] → W p l e rmX8_takesE s m args below meth c H locs 0 0 (MQ below (QC G (some (.int r)) z) args s 0 0 (AB G)) (F0 m 39 ls []) := by
  intro u1 u2 u3 x hf H locs ls hS hl
  have hx := C.1
  have hb := C.2.1
  have hown := C.2.2.2.2.2.1
  have hw := C.2.2.2.2.2.2.1
  unfold fX8_takesE_h39 at hf
  refine lv_iload_n hx hb dX8_takesE_39 rfl (lv_at hl 3 rfl) ?_
  refine lv_if_eq (tgt := 180) hx hb dX8_takesE_40 (by decide) (fun c_11 => ?_) (fun c_11 => ?_)
  · replace hf := if_p c_11 hf
    refine lv_aload_n hx hb dX8_takesE_180 rfl (lv_at hl 0 rfl) ?_
    refine gf7_10 C hS (rfl) g_815 dX8_takesE_181 ?_
    refine lv_iconst (v := 3) hx hb dX8_takesE_184 (by decide) ?_
    refine lv_icmp_ne (tgt := 237) hx hb dX8_takesE_185 (by decide) (fun c_12 => ?_) (fun c_12 => ?_)
    · replace hf := if_n c_12 hf
      exact wX8_takesE_h237  C hk28 u1 u2 x hf _ _ _ hS (lv_sub hl [0, 1, 2] rfl)
    · replace hf := if_p c_12 hf
      refine lv_aload_n hx hb dX8_takesE_188 rfl (lv_at hl 0 rfl) ?_
      refine gf7_11 C hS (rfl) g_816 dX8_takesE_189 ?_
      refine lv_bipush (v := 41) hx hb dX8_takesE_192 (by decide) ?_
      refine lv_icmp_ne (tgt := 237) hx hb dX8_takesE_194 (by decide) (fun c_13 => ?_) (fun c_13 => ?_)
      · replace hf := if_n c_13 hf
        exact wX8_takesE_h237  C hk28 u1 u2 x hf _ _ _ hS (lv_sub hl [0, 1, 2] rfl)
      · replace hf := if_p c_13 hf
        refine lv_iload_n hx hb dX8_takesE_197 rfl (lv_at hl 1 rfl) ?_
        refine lv_if_le (tgt := 237) hx hb dX8_takesE_198 (by decide) (fun c_14 => ?_) (fun c_14 => ?_)
        · replace hf := if_p c_14 hf
          exact wX8_takesE_h237  C hk28 u1 u2 x hf _ _ _ hS (lv_sub hl [0, 1, 2] rfl)
        · replace hf := if_n c_14 hf
          refine lv_aload_n hx hb dX8_takesE_201 rfl (lv_at hl 0 rfl) ?_
          refine lv_iconst (v := 0) hx hb dX8_takesE_202 (by decide) ?_
          obtain ⟨r_15, x_16, qr_15, hf⟩ := bd_out hf
          refine rvV (As := [.int 0]) (rest := []) C hS (rfl) rfl KX8_settle (cX8_settle_ qr_15) g_1153 ⟨rfl, rfl⟩ ⟨(Nat.le_of_ble_eq_true rfl), (Nat.le_of_ble_eq_true rfl)⟩ hl.1 rfl rfl (Nat.le_of_ble_eq_true rfl) ⟨Nat.zero_le _, Nat.zero_le _⟩ dX8_takesE_203 (fun H locs hS => ?_)
          refine lv_aload_n hx hb dX8_takesE_206 rfl (lv_at hl 0 rfl) ?_
          refine lv_dup hx hb dX8_takesE_207 rfl ?_
          refine gf7_20 C hS (rfl) g_825 dX8_takesE_208 ?_
          refine lv_iconst (v := 1) hx hb dX8_takesE_211 (by decide) ?_
          refine lv_isub hx hb dX8_takesE_212 ?_
          obtain ⟨x_17, ex_17, hf⟩ := st_out hf
          refine pf7_20 C hS (rfl) g_825 ex_17 dX8_takesE_213 (fun H locs hS => ?_)
          obtain ⟨v_18, ev_18, hf⟩ := st_out hf
          refine lv_iinc (v := v_18) (lv' := [(1, .int v_18), (0, .ref (G.1 + 99)), (2, .int u2), (3, .int u3)]) hx hb dX8_takesE_216 hl (k := 1) rfl (by rw [ev_18]; rfl) (by decide) rfl (fun ls hl => ?_)
          refine lv_aload_n hx hb dX8_takesE_219 rfl (lv_at hl 1 rfl) ?_
          refine lv_bipush (v := 6) hx hb dX8_takesE_220 (by decide) ?_
          obtain ⟨r_19, x_20, qr_19, hf⟩ := bd_out hf
          refine rvV (As := [.int 6]) (rest := []) C hS (rfl) rfl KX8_settle (cX8_settle_ qr_19) g_1153 ⟨rfl, rfl⟩ ⟨(Nat.le_of_ble_eq_true rfl), (Nat.le_of_ble_eq_true rfl)⟩ hl.1 rfl rfl (Nat.le_of_ble_eq_true rfl) ⟨Nat.zero_le _, Nat.zero_le _⟩ dX8_takesE_222 (fun H locs hS => ?_)
          refine lv_aload_n hx hb dX8_takesE_225 rfl (lv_at hl 1 rfl) ?_
          obtain ⟨r_21, x_22, qr_21, hf⟩ := bd_out hf
          refine rvI (As := []) (rest := []) C hS (rfl) rfl KX8_notsOpen (cX8_notsOpen_ qr_21) g_1160 ⟨rfl, rfl⟩ ⟨(Nat.le_of_ble_eq_true rfl), (Nat.le_of_ble_eq_true rfl)⟩ hl.1 rfl rfl (Nat.le_of_ble_eq_true rfl) ⟨Nat.zero_le _, Nat.zero_le _⟩ dX8_takesE_226 (fun H locs hS => ?_)
          refine lv_istore_n (lv' := [(2, .int r_21), (1, .int v_18), (0, .ref (G.1 + 99)), (3, .int u3)]) hx hb dX8_takesE_229 rfl hl (by decide) rfl (fun ls hl => ?_)
          refine lv_aload_n hx hb dX8_takesE_230 rfl (lv_at hl 2 rfl) ?_
          obtain ⟨r_23, x_24, qr_23, hf⟩ := bd_out hf
          refine rvV (As := []) (rest := []) C hS (rfl) rfl KX8_go (cX8_go_ qr_23) g_1125 ⟨rfl, rfl⟩ ⟨(Nat.le_of_ble_eq_true rfl), (Nat.le_of_ble_eq_true rfl)⟩ hl.1 rfl rfl (Nat.le_of_ble_eq_true rfl) ⟨Nat.zero_le _, Nat.zero_le _⟩ dX8_takesE_231 (fun H locs hS => ?_)
          refine lv_goto (tgt := 28) hx hb dX8_takesE_234 (by decide) ?_
          exact hk28 v_18 r_21 u3 x_24 hf _ _ _ hS (lv_sub hl [2, 1, 0, 3] rfl)
  · replace hf := if_n c_11 hf
    refine lv_aload_n hx hb dX8_takesE_43 rfl (lv_at hl 0 rfl) ?_
    refine gf7_10 C hS (rfl) g_815 dX8_takesE_44 ?_
    refine lv_iconst (v := 3) hx hb dX8_takesE_47 (by decide) ?_
    refine lv_icmp_ne (tgt := 97) hx hb dX8_takesE_48 (by decide) (fun c_25 => ?_) (fun c_25 => ?_)
    · replace hf := if_n c_25 hf
      exact wX8_takesE_h97  C hk28 u1 u3 x hf _ _ _ hS (lv_sub hl [0, 1, 3] rfl)
    · replace hf := if_p c_25 hf
      refine lv_aload_n hx hb dX8_takesE_51 rfl (lv_at hl 0 rfl) ?_
      refine gf7_11 C hS (rfl) g_816 dX8_takesE_52 ?_
      refine lv_bipush (v := 33) hx hb dX8_takesE_55 (by decide) ?_
      refine lv_icmp_ne (tgt := 97) hx hb dX8_takesE_57 (by decide) (fun c_26 => ?_) (fun c_26 => ?_)
      · replace hf := if_n c_26 hf
        exact wX8_takesE_h97  C hk28 u1 u3 x hf _ _ _ hS (lv_sub hl [0, 1, 3] rfl)
      · replace hf := if_p c_26 hf
        refine lv_iload_n hx hb dX8_takesE_60 rfl (lv_at hl 2 rfl) ?_
        refine lv_bipush (v := 8) hx hb dX8_takesE_61 (by decide) ?_
        refine lv_icmp_ge (tgt := 97) hx hb dX8_takesE_63 (by decide) (fun c_27 => ?_) (fun c_27 => ?_)
        · replace hf := if_p c_27 hf
          exact wX8_takesE_h97  C hk28 u1 u3 x hf _ _ _ hS (lv_sub hl [0, 1, 3] rfl)
        · replace hf := if_n c_27 hf
          refine lv_aload_n hx hb dX8_takesE_66 rfl (lv_at hl 0 rfl) ?_
          refine gf7_19 C hS (rfl) g_824 dX8_takesE_67 ?_
          refine lv_aload_n hx hb dX8_takesE_70 rfl (lv_at hl 0 rfl) ?_
          refine gf7_20 C hS (rfl) g_825 dX8_takesE_71 ?_
          refine lv_bipush (v := (-10)) hx hb dX8_takesE_74 (by decide) ?_
          obtain ⟨gg_28, hf⟩ := gd_out hf
          obtain ⟨x_29, ex_29, hf⟩ := st_out hf
          refine asI C hS (rfl) rfl gg_28 ex_29 dX8_takesE_76 (fun H locs hS => ?_)
          refine lv_aload_n hx hb dX8_takesE_77 rfl (lv_at hl 0 rfl) ?_
          refine lv_dup hx hb dX8_takesE_78 rfl ?_
          refine gf7_20 C hS (rfl) g_825 dX8_takesE_79 ?_
          refine lv_iconst (v := 1) hx hb dX8_takesE_82 (by decide) ?_
          refine lv_iadd hx hb dX8_takesE_83 ?_
          obtain ⟨x_30, ex_30, hf⟩ := st_out hf
          refine pf7_20 C hS (rfl) g_825 ex_30 dX8_takesE_84 (fun H locs hS => ?_)
          obtain ⟨v_31, ev_31, hf⟩ := st_out hf
          refine lv_iinc (v := v_31) (lv' := [(2, .int v_31), (0, .ref (G.1 + 99)), (1, .int u1), (3, .int u3)]) hx hb dX8_takesE_87 hl (k := 2) rfl (by rw [ev_31]; rfl) (by decide) rfl (fun ls hl => ?_)
          refine lv_aload_n hx hb dX8_takesE_90 rfl (lv_at hl 1 rfl) ?_
          obtain ⟨r_32, x_33, qr_32, hf⟩ := bd_out hf
          refine rvV (As := []) (rest := []) C hS (rfl) rfl KX8_go (cX8_go_ qr_32) g_1125 ⟨rfl, rfl⟩ ⟨(Nat.le_of_ble_eq_true rfl), (Nat.le_of_ble_eq_true rfl)⟩ hl.1 rfl rfl (Nat.le_of_ble_eq_true rfl) ⟨Nat.zero_le _, Nat.zero_le _⟩ dX8_takesE_91 (fun H locs hS => ?_)
          refine lv_goto (tgt := 172) hx hb dX8_takesE_94 (by decide) ?_
          exact wX8_takesE_h172  C hk28 u1 u3 x_33 hf _ _ _ hS (lv_sub hl [1, 2, 3] rfl)
set_option maxRecDepth 100000 in
set_option maxHeartbeats 4000000 in
theorem wbX8_takesE_h28 {p : Program} {l : Launch} {e : Env} {s : State} {m : MethodId} {args : Array Value} {below : List Frame} {meth : Method} {c : Code} {G : GT} {r : Int32} {z : XS} (C : CX G p s m args meth c cX8_takesE 5 (some .boolean) RX8) {k28 : Int32 → Int32 → Int32 → XS → Option (Int32 × XS)} (hk28 : ∀ (u1 : Int32) (u2 : Int32) (u3 : Int32) (x : XS), k28 u1 u2 u3 x = some (r, z) → ∀ (H : Heap) (locs : List Loc) (ls : Array Slot), SR G x H locs → lv_has ls 5 [(0, .ref (G.1 + 99)), (1, .int u1), (2, .int u2), (3, .int u3)] → W p l e rmX8_takesE s m args below meth c H locs 0 0 (MQ below (QC G (some (.int r)) z) args s 0 0 (AB G)) (F0 m 28 ls [])) : ∀ (u1 : Int32) (u2 : Int32) (u3 : Int32) (x : XS), bX8_takesE_h28 k28 u1 u2 u3 x = some (r, z) → ∀ (H : Heap) (locs : List Loc) (ls : Array Slot), SR G x H locs → lv_has ls 5 [(0, .ref (G.1 + 99)), (1, .int u1), (2, .int u2), (3, .int u3)] → W p l e rmX8_takesE s m args below meth c H locs 0 0 (MQ below (QC G (some (.int r)) z) args s 0 0 (AB G)) (F0 m 28 ls []) := by
  intro u1 u2 u3 x hf H locs ls hS hl
  have hx := C.1
  have hb := C.2.1
  have hown := C.2.2.2.2.2.1
  have hw := C.2.2.2.2.2.2.1
  unfold bX8_takesE_h28 at hf
  refine lv_iload_n hx hb dX8_takesE_28 rfl (lv_at hl 3 rfl) ?_
  refine lv_if_ne (tgt := 39) hx hb dX8_takesE_29 (by decide) (fun c_6 => ?_) (fun c_6 => ?_)
  · replace hf := if_n c_6 hf
    exact wX8_takesE_h39  C hk28 u1 u2 u3 x hf _ _ _ hS (lv_sub hl [0, 1, 2, 3] rfl)
  · replace hf := if_p c_6 hf
    refine lv_aload_n hx hb dX8_takesE_32 rfl (lv_at hl 0 rfl) ?_
    refine gf7_10 C hS (rfl) g_815 dX8_takesE_33 ?_
    refine lv_if_eq (tgt := 345) hx hb dX8_takesE_36 (by decide) (fun c_7 => ?_) (fun c_7 => ?_)
    · replace hf := if_p c_7 hf
      refine lv_aload_n hx hb dX8_takesE_345 rfl (lv_at hl 0 rfl) ?_
      refine lv_iconst (v := 0) hx hb dX8_takesE_346 (by decide) ?_
      obtain ⟨r_8, x_9, qr_8, hf⟩ := bd_out hf
      refine rvV (As := [.int 0]) (rest := []) C hS (rfl) rfl KX8_settle (cX8_settle_ qr_8) g_1153 ⟨rfl, rfl⟩ ⟨(Nat.le_of_ble_eq_true rfl), (Nat.le_of_ble_eq_true rfl)⟩ hl.1 rfl rfl (Nat.le_of_ble_eq_true rfl) ⟨Nat.zero_le _, Nat.zero_le _⟩ dX8_takesE_347 (fun H locs hS => ?_)
      refine lv_iload_n hx hb dX8_takesE_350 rfl (lv_at hl 1 rfl) ?_
      refine lv_if_ne (tgt := 358) hx hb dX8_takesE_351 (by decide) (fun c_10 => ?_) (fun c_10 => ?_)
      · replace hf := if_n c_10 hf
        refine lv_iconst (v := 0) hx hb dX8_takesE_358 (by decide) ?_
        exact rtZ C hS rfl hf dX8_takesE_359
      · replace hf := if_p c_10 hf
        refine lv_iconst (v := 1) hx hb dX8_takesE_354 (by decide) ?_
        refine lv_goto (tgt := 359) hx hb dX8_takesE_355 (by decide) ?_
        exact rtZ C hS rfl hf dX8_takesE_359
    · replace hf := if_n c_7 hf
      exact wX8_takesE_h39  C hk28 u1 u2 u3 x hf _ _ _ hS (lv_sub hl [0, 1, 2, 3] rfl)
theorem wlX8_takesE_h28 {p : Program} {l : Launch} {e : Env} {s : State} {m : MethodId} {args : Array Value} {below : List Frame} {meth : Method} {c : Code} {G : GT} {r : Int32} {z : XS} (C : CX G p s m args meth c cX8_takesE 5 (some .boolean) RX8) (n : Nat) : ∀ (u1 : Int32) (u2 : Int32) (u3 : Int32) (x : XS), lX8_takesE_h28 n u1 u2 u3 x = some (r, z) → ∀ (H : Heap) (locs : List Loc) (ls : Array Slot), SR G x H locs → lv_has ls 5 [(0, .ref (G.1 + 99)), (1, .int u1), (2, .int u2), (3, .int u3)] → W p l e rmX8_takesE s m args below meth c H locs 0 0 (MQ below (QC G (some (.int r)) z) args s 0 0 (AB G)) (F0 m 28 ls []) := by
  induction n with
  | zero => intro u1 u2 u3 x hf H locs ls hS hl; exact absurd hf (by intro q; cases q)
  | succ n ih => exact wbX8_takesE_h28 C ih
theorem wX8_takesE_h28 {p : Program} {l : Launch} {e : Env} {s : State} {m : MethodId} {args : Array Value} {below : List Frame} {meth : Method} {c : Code} {G : GT} {r : Int32} {z : XS} (C : CX G p s m args meth c cX8_takesE 5 (some .boolean) RX8) : ∀ (u1 : Int32) (u2 : Int32) (u3 : Int32) (x : XS), fX8_takesE_h28 u1 u2 u3 x = some (r, z) → ∀ (H : Heap) (locs : List Loc) (ls : Array Slot), SR G x H locs → lv_has ls 5 [(0, .ref (G.1 + 99)), (1, .int u1), (2, .int u2), (3, .int u3)] → W p l e rmX8_takesE s m args below meth c H locs 0 0 (MQ below (QC G (some (.int r)) z) args s 0 0 (AB G)) (F0 m 28 ls []) := wlX8_takesE_h28 C FU
set_option maxRecDepth 100000 in
set_option maxHeartbeats 4000000 in
theorem cX8_takesE_ {G : GT} {l : Launch} {x z : XS} {r : Int32} (hf : fX8_takesE x = some (r, z)) : Ct G l yX8_takesE (.code yX8_takesE cX8_takesE 5 (some .boolean)) rmX8_takesE [.ref (G.1 + 99)] x (some (.int r)) z := by
  refine Ct.of (by decide +kernel) (Nat.le_of_ble_eq_true rfl) ?_
  intro p e s m args below meth c C ls hl hS
  have C : CX G p s m args meth c cX8_takesE 5 (some .boolean) RX8 := C
  have hl : lv_has ls 5 [(0, .ref (G.1 + 99))] := hl
  have hx := C.1
  have hb := C.2.1
  have hown := C.2.2.2.2.2.1
  have hw := C.2.2.2.2.2.2.1
  unfold fX8_takesE at hf
  refine lv_iconst (v := 0) hx hb dX8_takesE_0 (by decide) ?_
  refine lv_istore_n (lv' := [(1, .int 0), (0, .ref (G.1 + 99))]) hx hb dX8_takesE_1 rfl hl (by decide) rfl (fun ls hl => ?_)
  refine lv_iconst (v := 0) hx hb dX8_takesE_2 (by decide) ?_
  refine lv_istore_n (lv' := [(2, .int 0), (1, .int 0), (0, .ref (G.1 + 99))]) hx hb dX8_takesE_3 rfl hl (by decide) rfl (fun ls hl => ?_)
  refine lv_iconst (v := 1) hx hb dX8_takesE_4 (by decide) ?_
  refine lv_istore_n (lv' := [(3, .int 1), (2, .int 0), (1, .int 0), (0, .ref (G.1 + 99))]) hx hb dX8_takesE_5 rfl hl (by decide) rfl (fun ls hl => ?_)
  refine lv_aload_n hx hb dX8_takesE_6 rfl (lv_at hl 3 rfl) ?_
  refine lv_iconst (v := 0) hx hb dX8_takesE_7 (by decide) ?_
  obtain ⟨x_1, ex_1, hf⟩ := st_out hf
  refine pf7_17 C hS (rfl) g_822 ex_1 dX8_takesE_8 (fun H locs hS => ?_)
  refine lv_aload_n hx hb dX8_takesE_11 rfl (lv_at hl 3 rfl) ?_
  refine lv_iconst (v := 0) hx hb dX8_takesE_12 (by decide) ?_
  obtain ⟨x_2, ex_2, hf⟩ := st_out hf
  refine pf7_18 C hS (rfl) g_823 ex_2 dX8_takesE_13 (fun H locs hS => ?_)
  refine lv_aload_n hx hb dX8_takesE_16 rfl (lv_at hl 3 rfl) ?_
  refine lv_iconst (v := 0) hx hb dX8_takesE_17 (by decide) ?_
  obtain ⟨x_3, ex_3, hf⟩ := st_out hf
  refine pf7_20 C hS (rfl) g_825 ex_3 dX8_takesE_18 (fun H locs hS => ?_)
  refine lv_aload_n hx hb dX8_takesE_21 rfl (lv_at hl 3 rfl) ?_
  refine gf7_21 C hS (rfl) g_826 dX8_takesE_22 ?_
  refine lv_iconst (v := 0) hx hb dX8_takesE_25 (by decide) ?_
  refine lv_iconst (v := 0) hx hb dX8_takesE_26 (by decide) ?_
  obtain ⟨gg_4, hf⟩ := gd_out hf
  obtain ⟨x_5, ex_5, hf⟩ := st_out hf
  refine asZ C hS (rfl) rfl gg_4 ex_5 dX8_takesE_27 (fun H locs hS => ?_)
  exact wX8_takesE_h28  C 0 0 1 x_5 hf _ _ _ hS (lv_sub hl [3, 2, 1, 0] rfl)
abbrev rmX8_text : Room := { frames := 4, cells := 0, slots := 0, locals := 87 }
set_option maxRecDepth 100000 in
set_option maxHeartbeats 4000000 in
theorem wbX8_text_h117 {p : Program} {l : Launch} {e : Env} {s : State} {m : MethodId} {args : Array Value} {below : List Frame} {meth : Method} {c : Code} {G : GT} {r : Int32} {z : XS} (C : CX G p s m args meth c cX8_text 4 (some .int) RX8) {k117 : Int32 → Int32 → XS → Option (Int32 × XS)} (hk117 : ∀ (u2 : Int32) (u3 : Int32) (x : XS), k117 u2 u3 x = some (r, z) → ∀ (H : Heap) (locs : List Loc) (ls : Array Slot), SR G x H locs → lv_has ls 4 [(0, .ref (G.1 + 99)), (2, .int u2), (3, .int u3)] → W p l e rmX8_text s m args below meth c H locs 0 0 (MQ below (QC G (some (.int r)) z) args s 0 0 (AB G)) (F0 m 117 ls [])) : ∀ (u2 : Int32) (u3 : Int32) (x : XS), bX8_text_h117 k117 u2 u3 x = some (r, z) → ∀ (H : Heap) (locs : List Loc) (ls : Array Slot), SR G x H locs → lv_has ls 4 [(0, .ref (G.1 + 99)), (2, .int u2), (3, .int u3)] → W p l e rmX8_text s m args below meth c H locs 0 0 (MQ below (QC G (some (.int r)) z) args s 0 0 (AB G)) (F0 m 117 ls []) := by
  intro u2 u3 x hf H locs ls hS hl
  have hx := C.1
  have hb := C.2.1
  have hown := C.2.2.2.2.2.1
  have hw := C.2.2.2.2.2.2.1
  unfold bX8_text_h117 at hf
  refine lv_iload_n hx hb dX8_text_117 rfl (lv_at hl 2 rfl) ?_
  refine lv_aload_n hx hb dX8_text_118 rfl (lv_at hl 0 rfl) ?_
  refine gf7_17 C hS (rfl) g_822 dX8_text_119 ?_
  refine lv_icmp_ge (tgt := 151) hx hb dX8_text_122 (by decide) (fun c_21 => ?_) (fun c_21 => ?_)
  · replace hf := if_p c_21 hf
    refine lv_aload_n hx hb dX8_text_151 rfl (lv_at hl 0 rfl) ?_
    refine gf7_0 C hS (rfl) g_805 dX8_text_152 ?_
    refine lv_bipush (v := 8) hx hb dX8_text_155 (by decide) ?_
    refine lv_dup2_11 hx hb dX8_text_157 rfl rfl ?_
    obtain ⟨gg_22, hf⟩ := gd_out hf
    refine alI C hS (rfl) rfl gg_22 dX8_text_158 ?_
    refine lv_iconst (v := 1) hx hb dX8_text_159 (by decide) ?_
    refine lv_iadd hx hb dX8_text_160 ?_
    obtain ⟨gg_23, hf⟩ := gd_out hf
    obtain ⟨x_24, ex_24, hf⟩ := st_out hf
    refine asI C hS (rfl) rfl gg_23 ex_24 dX8_text_161 (fun H locs hS => ?_)
    refine lv_iload_n hx hb dX8_text_162 rfl (lv_at hl 1 rfl) ?_
    exact rtI C hS hf dX8_text_163
  · replace hf := if_n c_21 hf
    refine lv_aload_n hx hb dX8_text_125 rfl (lv_at hl 0 rfl) ?_
    refine gf7_0 C hS (rfl) g_805 dX8_text_126 ?_
    refine lv_bipush (v := 93) hx hb dX8_text_129 (by decide) ?_
    refine lv_bipush (v := 96) hx hb dX8_text_131 (by decide) ?_
    refine lv_iload_n hx hb dX8_text_133 rfl (lv_at hl 1 rfl) ?_
    refine lv_imul hx hb dX8_text_134 ?_
    refine lv_iadd hx hb dX8_text_135 ?_
    refine lv_iload_n hx hb dX8_text_136 rfl (lv_at hl 2 rfl) ?_
    refine lv_iadd hx hb dX8_text_137 ?_
    refine lv_aload_n hx hb dX8_text_138 rfl (lv_at hl 0 rfl) ?_
    refine gf7_16 C hS (rfl) g_821 dX8_text_139 ?_
    refine lv_iload_n hx hb dX8_text_142 rfl (lv_at hl 2 rfl) ?_
    obtain ⟨gg_25, hf⟩ := gd_out hf
    refine alI C hS (rfl) rfl gg_25 dX8_text_143 ?_
    obtain ⟨gg_26, hf⟩ := gd_out hf
    obtain ⟨x_27, ex_27, hf⟩ := st_out hf
    refine asI C hS (rfl) rfl gg_26 ex_27 dX8_text_144 (fun H locs hS => ?_)
    obtain ⟨v_28, ev_28, hf⟩ := st_out hf
    refine lv_iinc (v := v_28) (lv' := [(3, .int v_28), (0, .ref (G.1 + 99)), (2, .int u2)]) hx hb dX8_text_145 hl (k := 2) rfl (by rw [ev_28]; rfl) (by decide) rfl (fun ls hl => ?_)
    refine lv_goto (tgt := 117) hx hb dX8_text_148 (by decide) ?_
    exact hk117 u2 v_28 x_27 hf _ _ _ hS (lv_sub hl [1, 2, 0] rfl)
theorem wlX8_text_h117 {p : Program} {l : Launch} {e : Env} {s : State} {m : MethodId} {args : Array Value} {below : List Frame} {meth : Method} {c : Code} {G : GT} {r : Int32} {z : XS} (C : CX G p s m args meth c cX8_text 4 (some .int) RX8) (n : Nat) : ∀ (u2 : Int32) (u3 : Int32) (x : XS), lX8_text_h117 n u2 u3 x = some (r, z) → ∀ (H : Heap) (locs : List Loc) (ls : Array Slot), SR G x H locs → lv_has ls 4 [(0, .ref (G.1 + 99)), (2, .int u2), (3, .int u3)] → W p l e rmX8_text s m args below meth c H locs 0 0 (MQ below (QC G (some (.int r)) z) args s 0 0 (AB G)) (F0 m 117 ls []) := by
  induction n with
  | zero => intro u2 u3 x hf H locs ls hS hl; exact absurd hf (by intro q; cases q)
  | succ n ih => exact wbX8_text_h117 C ih
theorem wX8_text_h117 {p : Program} {l : Launch} {e : Env} {s : State} {m : MethodId} {args : Array Value} {below : List Frame} {meth : Method} {c : Code} {G : GT} {r : Int32} {z : XS} (C : CX G p s m args meth c cX8_text 4 (some .int) RX8) : ∀ (u2 : Int32) (u3 : Int32) (x : XS), fX8_text_h117 u2 u3 x = some (r, z) → ∀ (H : Heap) (locs : List Loc) (ls : Array Slot), SR G x H locs → lv_has ls 4 [(0, .ref (G.1 + 99)), (2, .int u2), (3, .int u3)] → W p l e rmX8_text s m args below meth c H locs 0 0 (MQ below (QC G (some (.int r)) z) args s 0 0 (AB G)) (F0 m 117 ls []) := wlX8_text_h117 C FU
set_option maxRecDepth 100000 in
set_option maxHeartbeats 4000000 in
theorem wX8_text_h33 {p : Program} {l : Launch} {e : Env} {s : State} {m : MethodId} {args : Array Value} {below : List Frame} {meth : Method} {c : Code} {G : GT} {r : Int32} {z : XS} (C : CX G p s m args meth c cX8_text 4 (some .int) RX8) : ∀ (s0 : Int32) (x : XS), fX8_text_h33 s0 x = some (r, z) → ∀ (H : Heap) (locs : List Loc) (ls : Array Slot), SR G x H locs → lv_has ls 4 [(0, .ref (G.1 + 99))] → W p l e rmX8_text s m args below meth c H locs 0 0 (MQ below (QC G (some (.int r)) z) args s 0 0 (AB G)) (F0 m 33 ls [.int s0]) := by
  intro s0 x hf H locs ls hS hl
  have hx := C.1
  have hb := C.2.1
  have hown := C.2.2.2.2.2.1
  have hw := C.2.2.2.2.2.2.1
  unfold fX8_text_h33 at hf
  refine lv_istore_n (lv' := [(1, .int s0), (0, .ref (G.1 + 99))]) hx hb dX8_text_33 rfl hl (by decide) rfl (fun ls hl => ?_)
  refine lv_aload_n hx hb dX8_text_34 rfl (lv_at hl 1 rfl) ?_
  refine lv_iconst (v := 0) hx hb dX8_text_35 (by decide) ?_
  obtain ⟨x_11, ex_11, hf⟩ := st_out hf
  refine pf7_7 C hS (rfl) g_812 ex_11 dX8_text_36 (fun H locs hS => ?_)
  refine lv_iload_n hx hb dX8_text_39 rfl (lv_at hl 0 rfl) ?_
  refine lv_if_ne (tgt := 51) hx hb dX8_text_40 (by decide) (fun c_12 => ?_) (fun c_12 => ?_)
  · replace hf := if_n c_12 hf
    refine lv_aload_n hx hb dX8_text_51 rfl (lv_at hl 1 rfl) ?_
    refine gf7_0 C hS (rfl) g_805 dX8_text_52 ?_
    refine lv_bipush (v := 8) hx hb dX8_text_55 (by decide) ?_
    obtain ⟨gg_13, hf⟩ := gd_out hf
    refine alI C hS (rfl) rfl gg_13 dX8_text_57 ?_
    refine lv_bipush (v := 14) hx hb dX8_text_58 (by decide) ?_
    refine lv_icmp_ne (tgt := 66) hx hb dX8_text_60 (by decide) (fun c_14 => ?_) (fun c_14 => ?_)
    · replace hf := if_n c_14 hf
      refine lv_aload_n hx hb dX8_text_66 rfl (lv_at hl 1 rfl) ?_
      refine gf7_0 C hS (rfl) g_805 dX8_text_67 ?_
      refine lv_bipush (v := 8) hx hb dX8_text_70 (by decide) ?_
      obtain ⟨gg_15, hf⟩ := gd_out hf
      refine alI C hS (rfl) rfl gg_15 dX8_text_72 ?_
      obtain ⟨v_16, ev_16, hf⟩ := st_out hf
      refine topI ev_16 ?_
      refine lv_istore_n (lv' := [(2, .int v_16), (1, .int s0), (0, .ref (G.1 + 99))]) hx hb dX8_text_73 rfl hl (by decide) rfl (fun ls hl => ?_)
      refine lv_aload_n hx hb dX8_text_74 rfl (lv_at hl 2 rfl) ?_
      refine gf7_0 C hS (rfl) g_805 dX8_text_75 ?_
      refine lv_bipush (v := 65) hx hb dX8_text_78 (by decide) ?_
      refine lv_iconst (v := 2) hx hb dX8_text_80 (by decide) ?_
      refine lv_iload_n hx hb dX8_text_81 rfl (lv_at hl 0 rfl) ?_
      refine lv_imul hx hb dX8_text_82 ?_
      refine lv_iadd hx hb dX8_text_83 ?_
      refine lv_sipush (v := 1000) hx hb dX8_text_84 (by decide) ?_
      refine lv_aload_n hx hb dX8_text_87 rfl (lv_at hl 2 rfl) ?_
      refine gf7_13 C hS (rfl) g_818 dX8_text_88 ?_
      refine lv_imul hx hb dX8_text_91 ?_
      refine lv_aload_n hx hb dX8_text_92 rfl (lv_at hl 2 rfl) ?_
      refine gf7_17 C hS (rfl) g_822 dX8_text_93 ?_
      refine lv_iadd hx hb dX8_text_96 ?_
      obtain ⟨gg_17, hf⟩ := gd_out hf
      obtain ⟨x_18, ex_18, hf⟩ := st_out hf
      refine asI C hS (rfl) rfl gg_17 ex_18 dX8_text_97 (fun H locs hS => ?_)
      refine lv_aload_n hx hb dX8_text_98 rfl (lv_at hl 2 rfl) ?_
      refine gf7_0 C hS (rfl) g_805 dX8_text_99 ?_
      refine lv_bipush (v := 65) hx hb dX8_text_102 (by decide) ?_
      refine lv_iconst (v := 2) hx hb dX8_text_104 (by decide) ?_
      refine lv_iload_n hx hb dX8_text_105 rfl (lv_at hl 0 rfl) ?_
      refine lv_imul hx hb dX8_text_106 ?_
      refine lv_iadd hx hb dX8_text_107 ?_
      refine lv_iconst (v := 1) hx hb dX8_text_108 (by decide) ?_
      refine lv_iadd hx hb dX8_text_109 ?_
      refine lv_aload_n hx hb dX8_text_110 rfl (lv_at hl 2 rfl) ?_
      refine gf7_18 C hS (rfl) g_823 dX8_text_111 ?_
      obtain ⟨gg_19, hf⟩ := gd_out hf
      obtain ⟨x_20, ex_20, hf⟩ := st_out hf
      refine asI C hS (rfl) rfl gg_19 ex_20 dX8_text_114 (fun H locs hS => ?_)
      refine lv_iconst (v := 0) hx hb dX8_text_115 (by decide) ?_
      refine lv_istore_n (lv' := [(3, .int 0), (2, .int v_16), (1, .int s0), (0, .ref (G.1 + 99))]) hx hb dX8_text_116 rfl hl (by decide) rfl (fun ls hl => ?_)
      exact wX8_text_h117  C v_16 0 x_20 hf _ _ _ hS (lv_sub hl [3, 1, 0] rfl)
    · replace hf := if_p c_14 hf
      refine lv_ldc (v := (-1000000003)) hx hb hown (hw _ g_921) dX8_text_63 ?_
      exact rtI C hS hf dX8_text_65
  · replace hf := if_p c_12 hf
    refine lv_bipush (v := (-100)) hx hb dX8_text_43 (by decide) ?_
    refine lv_aload_n hx hb dX8_text_45 rfl (lv_at hl 1 rfl) ?_
    refine gf7_9 C hS (rfl) g_814 dX8_text_46 ?_
    refine lv_isub hx hb dX8_text_49 ?_
    exact rtI C hS hf dX8_text_50
set_option maxRecDepth 100000 in
set_option maxHeartbeats 4000000 in
theorem cX8_text_ {G : GT} {l : Launch} {x z : XS} {r : Int32} (hf : fX8_text x = some (r, z)) : Ct G l yX8_text (.code yX8_text cX8_text 4 (some .int)) rmX8_text [.ref (G.1 + 99)] x (some (.int r)) z := by
  refine Ct.of (by decide +kernel) (Nat.le_of_ble_eq_true rfl) ?_
  intro p e s m args below meth c C ls hl hS
  have C : CX G p s m args meth c cX8_text 4 (some .int) RX8 := C
  have hl : lv_has ls 4 [(0, .ref (G.1 + 99))] := hl
  have hx := C.1
  have hb := C.2.1
  have hown := C.2.2.2.2.2.1
  have hw := C.2.2.2.2.2.2.1
  unfold fX8_text at hf
  refine lv_aload_n hx hb dX8_text_0 rfl (lv_at hl 0 rfl) ?_
  refine lv_iconst (v := 0) hx hb dX8_text_1 (by decide) ?_
  obtain ⟨x_1, ex_1, hf⟩ := st_out hf
  refine pf7_8 C hS (rfl) g_813 ex_1 dX8_text_2 (fun H locs hS => ?_)
  refine lv_aload_n hx hb dX8_text_5 rfl (lv_at hl 0 rfl) ?_
  refine lv_iconst (v := (-1)) hx hb dX8_text_6 (by decide) ?_
  obtain ⟨x_2, ex_2, hf⟩ := st_out hf
  refine pf7_12 C hS (rfl) g_817 ex_2 dX8_text_7 (fun H locs hS => ?_)
  refine lv_aload_n hx hb dX8_text_10 rfl (lv_at hl 0 rfl) ?_
  obtain ⟨r_3, x_4, qr_3, hf⟩ := bd_out hf
  refine rvV (As := []) (rest := []) C hS (rfl) rfl KX8_go (cX8_go_ qr_3) g_1125 ⟨rfl, rfl⟩ ⟨(Nat.le_of_ble_eq_true rfl), (Nat.le_of_ble_eq_true rfl)⟩ hl.1 rfl rfl (Nat.le_of_ble_eq_true rfl) ⟨Nat.zero_le _, Nat.zero_le _⟩ dX8_text_11 (fun H locs hS => ?_)
  refine lv_aload_n hx hb dX8_text_14 rfl (lv_at hl 0 rfl) ?_
  obtain ⟨r_5, x_6, qr_5, hf⟩ := bd_out hf
  refine rvI (As := []) (rest := []) C hS (rfl) rfl KX8_takesKey (cX8_takesKey_ qr_5) g_1137 ⟨rfl, rfl⟩ ⟨(Nat.le_of_ble_eq_true rfl), (Nat.le_of_ble_eq_true rfl)⟩ hl.1 rfl rfl (Nat.le_of_ble_eq_true rfl) ⟨Nat.zero_le _, Nat.zero_le _⟩ dX8_text_15 (fun H locs hS => ?_)
  refine lv_if_eq (tgt := 32) hx hb dX8_text_18 (by decide) (fun c_7 => ?_) (fun c_7 => ?_)
  · replace hf := if_p c_7 hf
    refine lv_iconst (v := 0) hx hb dX8_text_32 (by decide) ?_
    exact wX8_text_h33  C 0 x_6 hf _ _ _ hS (lv_sub hl [0] rfl)
  · replace hf := if_n c_7 hf
    refine lv_aload_n hx hb dX8_text_21 rfl (lv_at hl 0 rfl) ?_
    obtain ⟨r_8, x_9, qr_8, hf⟩ := bd_out hf
    refine rvI (As := []) (rest := []) C hS (rfl) rfl KX8_takesE (cX8_takesE_ qr_8) g_1141 ⟨rfl, rfl⟩ ⟨(Nat.le_of_ble_eq_true rfl), (Nat.le_of_ble_eq_true rfl)⟩ hl.1 rfl rfl (Nat.le_of_ble_eq_true rfl) ⟨Nat.zero_le _, Nat.zero_le _⟩ dX8_text_22 (fun H locs hS => ?_)
    refine lv_if_eq (tgt := 32) hx hb dX8_text_25 (by decide) (fun c_10 => ?_) (fun c_10 => ?_)
    · replace hf := if_p c_10 hf
      refine lv_iconst (v := 0) hx hb dX8_text_32 (by decide) ?_
      exact wX8_text_h33  C 0 x_9 hf _ _ _ hS (lv_sub hl [0] rfl)
    · replace hf := if_n c_10 hf
      refine lv_iconst (v := 1) hx hb dX8_text_28 (by decide) ?_
      refine lv_goto (tgt := 33) hx hb dX8_text_29 (by decide) ?_
      exact wX8_text_h33  C 1 x_9 hf _ _ _ hS (lv_sub hl [0] rfl)
abbrev rmX8_textTold : Room := { frames := 1, cells := 0, slots := 0, locals := 22 }
set_option maxRecDepth 100000 in
set_option maxHeartbeats 4000000 in
theorem cX8_textTold_ {G : GT} {l : Launch} {v1 : Int32} {v2 : Int32} {x z : XS} {r : Int32} (hf : fX8_textTold v1 v2 x = some (r, z)) : Ct G l yX8_textTold (.code yX8_textTold cX8_textTold 3 (some .int)) rmX8_textTold [.ref (G.1 + 99), .int v1, .int v2] x (some (.int r)) z := by
  refine Ct.of (by decide +kernel) (Nat.le_of_ble_eq_true rfl) ?_
  intro p e s m args below meth c C ls hl hS
  have C : CX G p s m args meth c cX8_textTold 3 (some .int) RX8 := C
  have hl : lv_has ls 3 [(0, .ref (G.1 + 99)), (1, .int v1), (2, .int v2)] := hl
  have hx := C.1
  have hb := C.2.1
  have hown := C.2.2.2.2.2.1
  have hw := C.2.2.2.2.2.2.1
  unfold fX8_textTold at hf
  refine lv_iload_n hx hb dX8_textTold_0 rfl (lv_at hl 1 rfl) ?_
  refine lv_iconst (v := 0) hx hb dX8_textTold_1 (by decide) ?_
  refine lv_aload_n hx hb dX8_textTold_2 rfl (lv_at hl 0 rfl) ?_
  refine gf7_0 C hS (rfl) g_805 dX8_textTold_3 ?_
  refine lv_bipush (v := 8) hx hb dX8_textTold_6 (by decide) ?_
  obtain ⟨gg_1, hf⟩ := gd_out hf
  refine alI C hS (rfl) rfl gg_1 dX8_textTold_8 ?_
  refine lv_iconst (v := 1) hx hb dX8_textTold_9 (by decide) ?_
  refine lv_isub hx hb dX8_textTold_10 ?_
  obtain ⟨r_2, x_3, qr_2, hf⟩ := bd_out hf
  refine rsI (As := [.int v1, .int 0, .int ((x 100 (ix 8)) - 1)]) (rest := []) C hS KX8_in (cX8_in_ qr_2) g_914 ⟨rfl, rfl⟩ ⟨(Nat.le_of_ble_eq_true rfl), (Nat.le_of_ble_eq_true rfl)⟩ hl.1 rfl rfl (Nat.le_of_ble_eq_true rfl) ⟨Nat.zero_le _, Nat.zero_le _⟩ dX8_textTold_11 (fun H locs hS => ?_)
  refine lv_if_eq (tgt := 26) hx hb dX8_textTold_14 (by decide) (fun c_4 => ?_) (fun c_4 => ?_)
  · replace hf := if_p c_4 hf
    refine lv_ldc (v := (-1000000001)) hx hb hown (hw _ g_920) dX8_textTold_26 ?_
    exact rtI C hS hf dX8_textTold_28
  · replace hf := if_n c_4 hf
    refine lv_iload_n hx hb dX8_textTold_17 rfl (lv_at hl 2 rfl) ?_
    refine lv_iconst (v := 0) hx hb dX8_textTold_18 (by decide) ?_
    refine lv_iconst (v := 1) hx hb dX8_textTold_19 (by decide) ?_
    obtain ⟨r_5, x_6, qr_5, hf⟩ := bd_out hf
    refine rsI (As := [.int v2, .int 0, .int 1]) (rest := []) C hS KX8_in (cX8_in_ qr_5) g_914 ⟨rfl, rfl⟩ ⟨(Nat.le_of_ble_eq_true rfl), (Nat.le_of_ble_eq_true rfl)⟩ hl.1 rfl rfl (Nat.le_of_ble_eq_true rfl) ⟨Nat.zero_le _, Nat.zero_le _⟩ dX8_textTold_20 (fun H locs hS => ?_)
    refine lv_if_ne (tgt := 29) hx hb dX8_textTold_23 (by decide) (fun c_7 => ?_) (fun c_7 => ?_)
    · replace hf := if_n c_7 hf
      refine lv_iload_n hx hb dX8_textTold_29 rfl (lv_at hl 2 rfl) ?_
      refine lv_if_ne (tgt := 51) hx hb dX8_textTold_30 (by decide) (fun c_8 => ?_) (fun c_8 => ?_)
      · replace hf := if_n c_8 hf
        refine lv_aload_n hx hb dX8_textTold_51 rfl (lv_at hl 0 rfl) ?_
        refine gf7_0 C hS (rfl) g_805 dX8_textTold_52 ?_
        refine lv_bipush (v := 65) hx hb dX8_textTold_55 (by decide) ?_
        refine lv_iconst (v := 2) hx hb dX8_textTold_57 (by decide) ?_
        refine lv_iload_n hx hb dX8_textTold_58 rfl (lv_at hl 1 rfl) ?_
        refine lv_imul hx hb dX8_textTold_59 ?_
        refine lv_iadd hx hb dX8_textTold_60 ?_
        refine lv_iconst (v := 1) hx hb dX8_textTold_61 (by decide) ?_
        refine lv_iadd hx hb dX8_textTold_62 ?_
        obtain ⟨gg_9, hf⟩ := gd_out hf
        refine alI C hS (rfl) rfl gg_9 dX8_textTold_63 ?_
        exact rtI C hS hf dX8_textTold_64
      · replace hf := if_p c_8 hf
        refine lv_aload_n hx hb dX8_textTold_33 rfl (lv_at hl 0 rfl) ?_
        refine gf7_0 C hS (rfl) g_805 dX8_textTold_34 ?_
        refine lv_bipush (v := 65) hx hb dX8_textTold_37 (by decide) ?_
        refine lv_iconst (v := 2) hx hb dX8_textTold_39 (by decide) ?_
        refine lv_iload_n hx hb dX8_textTold_40 rfl (lv_at hl 1 rfl) ?_
        refine lv_imul hx hb dX8_textTold_41 ?_
        refine lv_iadd hx hb dX8_textTold_42 ?_
        obtain ⟨gg_10, hf⟩ := gd_out hf
        refine alI C hS (rfl) rfl gg_10 dX8_textTold_43 ?_
        refine lv_sipush (v := 1000) hx hb dX8_textTold_44 (by decide) ?_
        refine lv_idiv hx hb dX8_textTold_47 (by decide) ?_
        obtain ⟨v_11, ev_11, hf⟩ := st_out hf
        refine topI ev_11 ?_
        refine lv_goto (tgt := 64) hx hb dX8_textTold_48 (by decide) ?_
        exact rtI C hS hf dX8_textTold_64
    · replace hf := if_p c_7 hf
      refine lv_ldc (v := (-1000000001)) hx hb hown (hw _ g_920) dX8_textTold_26 ?_
      exact rtI C hS hf dX8_textTold_28
abbrev rmX8_why : Room := { frames := 1, cells := 0, slots := 0, locals := 22 }
set_option maxRecDepth 100000 in
set_option maxHeartbeats 4000000 in
theorem cX8_why_ {G : GT} {l : Launch} {v1 : Int32} {x z : XS} {r : Int32} (hf : fX8_why v1 x = some (r, z)) : Ct G l yX8_why (.code yX8_why cX8_why 3 (some .int)) rmX8_why [.ref (G.1 + 99), .int v1] x (some (.int r)) z := by
  refine Ct.of (by decide +kernel) (Nat.le_of_ble_eq_true rfl) ?_
  intro p e s m args below meth c C ls hl hS
  have C : CX G p s m args meth c cX8_why 3 (some .int) RX8 := C
  have hl : lv_has ls 3 [(0, .ref (G.1 + 99)), (1, .int v1)] := hl
  have hx := C.1
  have hb := C.2.1
  have hown := C.2.2.2.2.2.1
  have hw := C.2.2.2.2.2.2.1
  unfold fX8_why at hf
  refine lv_iload_n hx hb dX8_why_0 rfl (lv_at hl 1 rfl) ?_
  refine lv_iconst (v := 0) hx hb dX8_why_1 (by decide) ?_
  refine lv_iconst (v := 2) hx hb dX8_why_2 (by decide) ?_
  obtain ⟨r_1, x_2, qr_1, hf⟩ := bd_out hf
  refine rsI (As := [.int v1, .int 0, .int 2]) (rest := []) C hS KX8_in (cX8_in_ qr_1) g_914 ⟨rfl, rfl⟩ ⟨(Nat.le_of_ble_eq_true rfl), (Nat.le_of_ble_eq_true rfl)⟩ hl.1 rfl rfl (Nat.le_of_ble_eq_true rfl) ⟨Nat.zero_le _, Nat.zero_le _⟩ dX8_why_3 (fun H locs hS => ?_)
  refine lv_if_ne (tgt := 12) hx hb dX8_why_6 (by decide) (fun c_3 => ?_) (fun c_3 => ?_)
  · replace hf := if_n c_3 hf
    refine lv_aload_n hx hb dX8_why_12 rfl (lv_at hl 0 rfl) ?_
    refine lv_iload_n hx hb dX8_why_13 rfl (lv_at hl 1 rfl) ?_
    obtain ⟨r_4, x_5, qr_4, hf⟩ := bd_out hf
    refine rvI (As := [.int v1]) (rest := []) C hS (rfl) rfl KX8_counts (cX8_counts_ qr_4) g_966 ⟨rfl, rfl⟩ ⟨(Nat.le_of_ble_eq_true rfl), (Nat.le_of_ble_eq_true rfl)⟩ hl.1 rfl rfl (Nat.le_of_ble_eq_true rfl) ⟨Nat.zero_le _, Nat.zero_le _⟩ dX8_why_14 (fun H locs hS => ?_)
    refine lv_istore_n (lv' := [(2, .int r_4), (0, .ref (G.1 + 99)), (1, .int v1)]) hx hb dX8_why_17 rfl hl (by decide) rfl (fun ls hl => ?_)
    refine lv_iload_n hx hb dX8_why_18 rfl (lv_at hl 0 rfl) ?_
    refine lv_if_ge (tgt := 27) hx hb dX8_why_19 (by decide) (fun c_6 => ?_) (fun c_6 => ?_)
    · replace hf := if_p c_6 hf
      refine lv_iload_n hx hb dX8_why_27 rfl (lv_at hl 0 rfl) ?_
      exact rtI C hS hf dX8_why_28
    · replace hf := if_n c_6 hf
      refine lv_ldc (v := (-1000000005)) hx hb hown (hw _ g_1063) dX8_why_22 ?_
      refine lv_goto (tgt := 28) hx hb dX8_why_24 (by decide) ?_
      exact rtI C hS hf dX8_why_28
  · replace hf := if_p c_3 hf
    refine lv_ldc (v := (-1000000001)) hx hb hown (hw _ g_920) dX8_why_9 ?_
    exact rtI C hS hf dX8_why_11
abbrev rmX8_isSlot : Room := { frames := 1, cells := 0, slots := 0, locals := 22 }
set_option maxRecDepth 100000 in
set_option maxHeartbeats 4000000 in
theorem cX8_isSlot_ {G : GT} {l : Launch} {v0 : Int32} {x z : XS} {r : Int32} (hf : fX8_isSlot v0 x = some (r, z)) : Ct G l yX8_isSlot (.code yX8_isSlot cX8_isSlot 1 (some .boolean)) rmX8_isSlot [.int v0] x (some (.int r)) z := by
  refine Ct.of (by decide +kernel) (Nat.le_of_ble_eq_true rfl) ?_
  intro p e s m args below meth c C ls hl hS
  have C : CX G p s m args meth c cX8_isSlot 1 (some .boolean) RX8 := C
  have hl : lv_has ls 1 [(0, .int v0)] := hl
  have hx := C.1
  have hb := C.2.1
  have hown := C.2.2.2.2.2.1
  have hw := C.2.2.2.2.2.2.1
  unfold fX8_isSlot at hf
  refine lv_iload_n hx hb dX8_isSlot_0 rfl (lv_at hl 0 rfl) ?_
  refine lv_iconst (v := 0) hx hb dX8_isSlot_1 (by decide) ?_
  refine lv_iconst (v := 4) hx hb dX8_isSlot_2 (by decide) ?_
  obtain ⟨r_1, x_2, qr_1, hf⟩ := bd_out hf
  refine rsI (As := [.int v0, .int 0, .int 4]) (rest := []) C hS KX8_in (cX8_in_ qr_1) g_914 ⟨rfl, rfl⟩ ⟨(Nat.le_of_ble_eq_true rfl), (Nat.le_of_ble_eq_true rfl)⟩ hl.1 rfl rfl (Nat.le_of_ble_eq_true rfl) ⟨Nat.zero_le _, Nat.zero_le _⟩ dX8_isSlot_3 (fun H locs hS => ?_)
  obtain ⟨gg_3, hf⟩ := gd_out hf
  exact rtZ C hS (isB_n gg_3) hf dX8_isSlot_6
abbrev rmX8_sheet : Room := { frames := 2, cells := 0, slots := 0, locals := 42 }
set_option maxRecDepth 100000 in
set_option maxHeartbeats 4000000 in
theorem wbX8_sheet_h66 {p : Program} {l : Launch} {e : Env} {s : State} {m : MethodId} {args : Array Value} {below : List Frame} {meth : Method} {c : Code} {G : GT} {r : Int32} {z : XS} (C : CX G p s m args meth c cX8_sheet 5 (some .int) RX8) {k66 : Int32 → Int32 → XS → Option (Int32 × XS)} (hk66 : ∀ (u1 : Int32) (u4 : Int32) (x : XS), k66 u1 u4 x = some (r, z) → ∀ (H : Heap) (locs : List Loc) (ls : Array Slot), SR G x H locs → lv_has ls 5 [(0, .ref (G.1 + 99)), (1, .int u1), (4, .int u4)] → W p l e rmX8_sheet s m args below meth c H locs 0 0 (MQ below (QC G (some (.int r)) z) args s 0 0 (AB G)) (F0 m 66 ls [])) : ∀ (u1 : Int32) (u4 : Int32) (x : XS), bX8_sheet_h66 k66 u1 u4 x = some (r, z) → ∀ (H : Heap) (locs : List Loc) (ls : Array Slot), SR G x H locs → lv_has ls 5 [(0, .ref (G.1 + 99)), (1, .int u1), (4, .int u4)] → W p l e rmX8_sheet s m args below meth c H locs 0 0 (MQ below (QC G (some (.int r)) z) args s 0 0 (AB G)) (F0 m 66 ls []) := by
  intro u1 u4 x hf H locs ls hS hl
  have hx := C.1
  have hb := C.2.1
  have hown := C.2.2.2.2.2.1
  have hw := C.2.2.2.2.2.2.1
  unfold bX8_sheet_h66 at hf
  refine lv_iload hx hb dX8_sheet_66 (lv_at hl 2 rfl) ?_
  refine lv_bipush (v := 24) hx hb dX8_sheet_68 (by decide) ?_
  refine lv_icmp_ge (tgt := 92) hx hb dX8_sheet_70 (by decide) (fun c_20 => ?_) (fun c_20 => ?_)
  · replace hf := if_p c_20 hf
    refine lv_aload_n hx hb dX8_sheet_92 rfl (lv_at hl 0 rfl) ?_
    refine gf7_25 C hS (rfl) g_830 dX8_sheet_93 ?_
    refine lv_iload_n hx hb dX8_sheet_96 rfl (lv_at hl 1 rfl) ?_
    obtain ⟨gg_21, hf⟩ := gd_out hf
    refine alI C hS (rfl) rfl gg_21 dX8_sheet_97 ?_
    exact rtI C hS hf dX8_sheet_98
  · replace hf := if_n c_20 hf
    refine lv_aload_n hx hb dX8_sheet_73 rfl (lv_at hl 0 rfl) ?_
    refine gf7_26 C hS (rfl) g_831 dX8_sheet_74 ?_
    refine lv_bipush (v := 24) hx hb dX8_sheet_77 (by decide) ?_
    refine lv_iload_n hx hb dX8_sheet_79 rfl (lv_at hl 1 rfl) ?_
    refine lv_imul hx hb dX8_sheet_80 ?_
    refine lv_iload hx hb dX8_sheet_81 (lv_at hl 2 rfl) ?_
    refine lv_iadd hx hb dX8_sheet_83 ?_
    refine lv_iconst (v := 0) hx hb dX8_sheet_84 (by decide) ?_
    obtain ⟨gg_22, hf⟩ := gd_out hf
    obtain ⟨x_23, ex_23, hf⟩ := st_out hf
    refine asI C hS (rfl) rfl gg_22 ex_23 dX8_sheet_85 (fun H locs hS => ?_)
    obtain ⟨v_24, ev_24, hf⟩ := st_out hf
    refine lv_iinc (v := v_24) (lv' := [(4, .int v_24), (0, .ref (G.1 + 99)), (1, .int u1)]) hx hb dX8_sheet_86 hl (k := 2) rfl (by rw [ev_24]; rfl) (by decide) rfl (fun ls hl => ?_)
    refine lv_goto (tgt := 66) hx hb dX8_sheet_89 (by decide) ?_
    exact hk66 u1 v_24 x_23 hf _ _ _ hS (lv_sub hl [1, 2, 0] rfl)
theorem wlX8_sheet_h66 {p : Program} {l : Launch} {e : Env} {s : State} {m : MethodId} {args : Array Value} {below : List Frame} {meth : Method} {c : Code} {G : GT} {r : Int32} {z : XS} (C : CX G p s m args meth c cX8_sheet 5 (some .int) RX8) (n : Nat) : ∀ (u1 : Int32) (u4 : Int32) (x : XS), lX8_sheet_h66 n u1 u4 x = some (r, z) → ∀ (H : Heap) (locs : List Loc) (ls : Array Slot), SR G x H locs → lv_has ls 5 [(0, .ref (G.1 + 99)), (1, .int u1), (4, .int u4)] → W p l e rmX8_sheet s m args below meth c H locs 0 0 (MQ below (QC G (some (.int r)) z) args s 0 0 (AB G)) (F0 m 66 ls []) := by
  induction n with
  | zero => intro u1 u4 x hf H locs ls hS hl; exact absurd hf (by intro q; cases q)
  | succ n ih => exact wbX8_sheet_h66 C ih
theorem wX8_sheet_h66 {p : Program} {l : Launch} {e : Env} {s : State} {m : MethodId} {args : Array Value} {below : List Frame} {meth : Method} {c : Code} {G : GT} {r : Int32} {z : XS} (C : CX G p s m args meth c cX8_sheet 5 (some .int) RX8) : ∀ (u1 : Int32) (u4 : Int32) (x : XS), fX8_sheet_h66 u1 u4 x = some (r, z) → ∀ (H : Heap) (locs : List Loc) (ls : Array Slot), SR G x H locs → lv_has ls 5 [(0, .ref (G.1 + 99)), (1, .int u1), (4, .int u4)] → W p l e rmX8_sheet s m args below meth c H locs 0 0 (MQ below (QC G (some (.int r)) z) args s 0 0 (AB G)) (F0 m 66 ls []) := wlX8_sheet_h66 C FU
set_option maxRecDepth 100000 in
set_option maxHeartbeats 4000000 in
theorem wX8_sheet_h41 {p : Program} {l : Launch} {e : Env} {s : State} {m : MethodId} {args : Array Value} {below : List Frame} {meth : Method} {c : Code} {G : GT} {r : Int32} {z : XS} (C : CX G p s m args meth c cX8_sheet 5 (some .int) RX8) : ∀ (u1 : Int32) (u2 : Int32) (u3 : Int32) (x : XS), fX8_sheet_h41 u1 u2 u3 x = some (r, z) → ∀ (H : Heap) (locs : List Loc) (ls : Array Slot), SR G x H locs → lv_has ls 5 [(0, .ref (G.1 + 99)), (1, .int u1), (2, .int u2), (3, .int u3)] → W p l e rmX8_sheet s m args below meth c H locs 0 0 (MQ below (QC G (some (.int r)) z) args s 0 0 (AB G)) (F0 m 41 ls []) := by
  intro u1 u2 u3 x hf H locs ls hS hl
  have hx := C.1
  have hb := C.2.1
  have hown := C.2.2.2.2.2.1
  have hw := C.2.2.2.2.2.2.1
  unfold fX8_sheet_h41 at hf
  refine lv_aload_n hx hb dX8_sheet_41 rfl (lv_at hl 0 rfl) ?_
  refine gf7_24 C hS (rfl) g_829 dX8_sheet_42 ?_
  refine lv_iload_n hx hb dX8_sheet_45 rfl (lv_at hl 1 rfl) ?_
  refine lv_iload_n hx hb dX8_sheet_46 rfl (lv_at hl 2 rfl) ?_
  obtain ⟨gg_13, hf⟩ := gd_out hf
  obtain ⟨x_14, ex_14, hf⟩ := st_out hf
  refine asI C hS (rfl) rfl gg_13 ex_14 dX8_sheet_47 (fun H locs hS => ?_)
  refine lv_aload_n hx hb dX8_sheet_48 rfl (lv_at hl 0 rfl) ?_
  refine gf7_25 C hS (rfl) g_830 dX8_sheet_49 ?_
  refine lv_iload_n hx hb dX8_sheet_52 rfl (lv_at hl 1 rfl) ?_
  refine lv_iload_n hx hb dX8_sheet_53 rfl (lv_at hl 2 rfl) ?_
  refine lv_if_ge (tgt := 61) hx hb dX8_sheet_54 (by decide) (fun c_15 => ?_) (fun c_15 => ?_)
  · replace hf := if_p c_15 hf
    refine lv_iload_n hx hb dX8_sheet_61 rfl (lv_at hl 3 rfl) ?_
    obtain ⟨gg_16, hf⟩ := gd_out hf
    obtain ⟨x_17, ex_17, hf⟩ := st_out hf
    refine asI C hS (rfl) rfl gg_16 ex_17 dX8_sheet_62 (fun H locs hS => ?_)
    refine lv_iconst (v := 0) hx hb dX8_sheet_63 (by decide) ?_
    refine lv_istore (lv' := [(4, .int 0), (0, .ref (G.1 + 99)), (1, .int u1), (2, .int u2), (3, .int u3)]) hx hb dX8_sheet_64 hl (by decide) rfl (fun ls hl => ?_)
    exact wX8_sheet_h66  C u1 0 x_17 hf _ _ _ hS (lv_sub hl [1, 2, 0] rfl)
  · replace hf := if_n c_15 hf
    refine lv_iconst (v := 0) hx hb dX8_sheet_57 (by decide) ?_
    refine lv_goto (tgt := 62) hx hb dX8_sheet_58 (by decide) ?_
    obtain ⟨gg_18, hf⟩ := gd_out hf
    obtain ⟨x_19, ex_19, hf⟩ := st_out hf
    refine asI C hS (rfl) rfl gg_18 ex_19 dX8_sheet_62 (fun H locs hS => ?_)
    refine lv_iconst (v := 0) hx hb dX8_sheet_63 (by decide) ?_
    refine lv_istore (lv' := [(4, .int 0), (0, .ref (G.1 + 99)), (1, .int u1), (2, .int u2), (3, .int u3)]) hx hb dX8_sheet_64 hl (by decide) rfl (fun ls hl => ?_)
    exact wX8_sheet_h66  C u1 0 x_19 hf _ _ _ hS (lv_sub hl [1, 2, 0] rfl)
set_option maxRecDepth 100000 in
set_option maxHeartbeats 4000000 in
theorem cX8_sheet_ {G : GT} {l : Launch} {v1 : Int32} {v2 : Int32} {v3 : Int32} {x z : XS} {r : Int32} (hf : fX8_sheet v1 v2 v3 x = some (r, z)) : Ct G l yX8_sheet (.code yX8_sheet cX8_sheet 5 (some .int)) rmX8_sheet [.ref (G.1 + 99), .int v1, .int v2, .int v3] x (some (.int r)) z := by
  refine Ct.of (by decide +kernel) (Nat.le_of_ble_eq_true rfl) ?_
  intro p e s m args below meth c C ls hl hS
  have C : CX G p s m args meth c cX8_sheet 5 (some .int) RX8 := C
  have hl : lv_has ls 5 [(0, .ref (G.1 + 99)), (1, .int v1), (2, .int v2), (3, .int v3)] := hl
  have hx := C.1
  have hb := C.2.1
  have hown := C.2.2.2.2.2.1
  have hw := C.2.2.2.2.2.2.1
  unfold fX8_sheet at hf
  refine lv_iload_n hx hb dX8_sheet_0 rfl (lv_at hl 1 rfl) ?_
  obtain ⟨r_1, x_2, qr_1, hf⟩ := bd_out hf
  refine rsI (As := [.int v1]) (rest := []) C hS KX8_isSheet (cX8_isSheet_ qr_1) g_1097 ⟨rfl, rfl⟩ ⟨(Nat.le_of_ble_eq_true rfl), (Nat.le_of_ble_eq_true rfl)⟩ hl.1 rfl rfl (Nat.le_of_ble_eq_true rfl) ⟨Nat.zero_le _, Nat.zero_le _⟩ dX8_sheet_1 (fun H locs hS => ?_)
  refine lv_if_eq (tgt := 26) hx hb dX8_sheet_4 (by decide) (fun c_3 => ?_) (fun c_3 => ?_)
  · replace hf := if_p c_3 hf
    refine lv_ldc (v := (-1000000001)) hx hb hown (hw _ g_920) dX8_sheet_26 ?_
    exact rtI C hS hf dX8_sheet_28
  · replace hf := if_n c_3 hf
    refine lv_iload_n hx hb dX8_sheet_7 rfl (lv_at hl 2 rfl) ?_
    refine lv_iconst (v := (-1)) hx hb dX8_sheet_8 (by decide) ?_
    refine lv_iconst (v := 1) hx hb dX8_sheet_9 (by decide) ?_
    obtain ⟨r_4, x_5, qr_4, hf⟩ := bd_out hf
    refine rsI (As := [.int v2, .int (-1), .int 1]) (rest := []) C hS KX8_in (cX8_in_ qr_4) g_914 ⟨rfl, rfl⟩ ⟨(Nat.le_of_ble_eq_true rfl), (Nat.le_of_ble_eq_true rfl)⟩ hl.1 rfl rfl (Nat.le_of_ble_eq_true rfl) ⟨Nat.zero_le _, Nat.zero_le _⟩ dX8_sheet_10 (fun H locs hS => ?_)
    refine lv_if_eq (tgt := 26) hx hb dX8_sheet_13 (by decide) (fun c_6 => ?_) (fun c_6 => ?_)
    · replace hf := if_p c_6 hf
      refine lv_ldc (v := (-1000000001)) hx hb hown (hw _ g_920) dX8_sheet_26 ?_
      exact rtI C hS hf dX8_sheet_28
    · replace hf := if_n c_6 hf
      refine lv_iload_n hx hb dX8_sheet_16 rfl (lv_at hl 2 rfl) ?_
      refine lv_if_lt (tgt := 29) hx hb dX8_sheet_17 (by decide) (fun c_7 => ?_) (fun c_7 => ?_)
      · replace hf := if_p c_7 hf
        refine lv_iload_n hx hb dX8_sheet_29 rfl (lv_at hl 2 rfl) ?_
        refine lv_if_lt (tgt := 41) hx hb dX8_sheet_30 (by decide) (fun c_8 => ?_) (fun c_8 => ?_)
        · replace hf := if_p c_8 hf
          exact wX8_sheet_h41  C v1 v2 v3 x_5 hf _ _ _ hS (lv_sub hl [0, 1, 2, 3] rfl)
        · replace hf := if_n c_8 hf
          refine lv_iload_n hx hb dX8_sheet_33 rfl (lv_at hl 3 rfl) ?_
          refine lv_if_ge (tgt := 41) hx hb dX8_sheet_34 (by decide) (fun c_9 => ?_) (fun c_9 => ?_)
          · replace hf := if_p c_9 hf
            exact wX8_sheet_h41  C v1 v2 v3 x_5 hf _ _ _ hS (lv_sub hl [0, 1, 2, 3] rfl)
          · replace hf := if_n c_9 hf
            refine lv_ldcw (v := (-1000000014)) hx hb hown (hw _ g_1180) dX8_sheet_37 ?_
            exact rtI C hS hf dX8_sheet_40
      · replace hf := if_n c_7 hf
        refine lv_iload_n hx hb dX8_sheet_20 rfl (lv_at hl 3 rfl) ?_
        refine lv_bipush (v := 24) hx hb dX8_sheet_21 (by decide) ?_
        refine lv_icmp_le (tgt := 29) hx hb dX8_sheet_23 (by decide) (fun c_10 => ?_) (fun c_10 => ?_)
        · replace hf := if_p c_10 hf
          refine lv_iload_n hx hb dX8_sheet_29 rfl (lv_at hl 2 rfl) ?_
          refine lv_if_lt (tgt := 41) hx hb dX8_sheet_30 (by decide) (fun c_11 => ?_) (fun c_11 => ?_)
          · replace hf := if_p c_11 hf
            exact wX8_sheet_h41  C v1 v2 v3 x_5 hf _ _ _ hS (lv_sub hl [0, 1, 2, 3] rfl)
          · replace hf := if_n c_11 hf
            refine lv_iload_n hx hb dX8_sheet_33 rfl (lv_at hl 3 rfl) ?_
            refine lv_if_ge (tgt := 41) hx hb dX8_sheet_34 (by decide) (fun c_12 => ?_) (fun c_12 => ?_)
            · replace hf := if_p c_12 hf
              exact wX8_sheet_h41  C v1 v2 v3 x_5 hf _ _ _ hS (lv_sub hl [0, 1, 2, 3] rfl)
            · replace hf := if_n c_12 hf
              refine lv_ldcw (v := (-1000000014)) hx hb hown (hw _ g_1180) dX8_sheet_37 ?_
              exact rtI C hS hf dX8_sheet_40
        · replace hf := if_n c_10 hf
          refine lv_ldc (v := (-1000000001)) hx hb hown (hw _ g_920) dX8_sheet_26 ?_
          exact rtI C hS hf dX8_sheet_28
abbrev rmX8_mark : Room := { frames := 2, cells := 0, slots := 0, locals := 42 }
set_option maxRecDepth 100000 in
set_option maxHeartbeats 4000000 in
theorem wX8_mark_h92 {p : Program} {l : Launch} {e : Env} {s : State} {m : MethodId} {args : Array Value} {below : List Frame} {meth : Method} {c : Code} {G : GT} {r : Int32} {z : XS} (C : CX G p s m args meth c cX8_mark 4 (some .int) RX8) : ∀ (u1 : Int32) (u2 : Int32) (u3 : Int32) (x : XS), fX8_mark_h92 u1 u2 u3 x = some (r, z) → ∀ (H : Heap) (locs : List Loc) (ls : Array Slot), SR G x H locs → lv_has ls 4 [(0, .ref (G.1 + 99)), (1, .int u1), (2, .int u2), (3, .int u3)] → W p l e rmX8_mark s m args below meth c H locs 0 0 (MQ below (QC G (some (.int r)) z) args s 0 0 (AB G)) (F0 m 92 ls []) := by
  intro u1 u2 u3 x hf H locs ls hS hl
  have hx := C.1
  have hb := C.2.1
  have hown := C.2.2.2.2.2.1
  have hw := C.2.2.2.2.2.2.1
  unfold fX8_mark_h92 at hf
  refine lv_aload_n hx hb dX8_mark_92 rfl (lv_at hl 0 rfl) ?_
  refine gf7_26 C hS (rfl) g_831 dX8_mark_93 ?_
  refine lv_bipush (v := 24) hx hb dX8_mark_96 (by decide) ?_
  refine lv_iload_n hx hb dX8_mark_98 rfl (lv_at hl 1 rfl) ?_
  refine lv_imul hx hb dX8_mark_99 ?_
  refine lv_iload_n hx hb dX8_mark_100 rfl (lv_at hl 2 rfl) ?_
  refine lv_iadd hx hb dX8_mark_101 ?_
  refine lv_aload_n hx hb dX8_mark_102 rfl (lv_at hl 0 rfl) ?_
  refine gf7_24 C hS (rfl) g_829 dX8_mark_103 ?_
  refine lv_iload_n hx hb dX8_mark_106 rfl (lv_at hl 1 rfl) ?_
  obtain ⟨gg_19, hf⟩ := gd_out hf
  refine alI C hS (rfl) rfl gg_19 dX8_mark_107 ?_
  refine lv_if_ne (tgt := 116) hx hb dX8_mark_108 (by decide) (fun c_20 => ?_) (fun c_20 => ?_)
  · replace hf := if_n c_20 hf
    refine lv_iload_n hx hb dX8_mark_116 rfl (lv_at hl 3 rfl) ?_
    obtain ⟨gg_21, hf⟩ := gd_out hf
    obtain ⟨x_22, ex_22, hf⟩ := st_out hf
    refine asI C hS (rfl) rfl gg_21 ex_22 dX8_mark_117 (fun H locs hS => ?_)
    refine lv_iconst (v := 1) hx hb dX8_mark_118 (by decide) ?_
    exact rtI C hS hf dX8_mark_119
  · replace hf := if_p c_20 hf
    refine lv_iload_n hx hb dX8_mark_111 rfl (lv_at hl 3 rfl) ?_
    obtain ⟨v_23, ev_23, hf⟩ := st_out hf
    refine lv_i2s (v := v_23) hx hb dX8_mark_112 ev_23.symm ?_
    refine lv_goto (tgt := 117) hx hb dX8_mark_113 (by decide) ?_
    obtain ⟨gg_24, hf⟩ := gd_out hf
    obtain ⟨x_25, ex_25, hf⟩ := st_out hf
    refine asI C hS (rfl) rfl gg_24 ex_25 dX8_mark_117 (fun H locs hS => ?_)
    refine lv_iconst (v := 1) hx hb dX8_mark_118 (by decide) ?_
    exact rtI C hS hf dX8_mark_119
set_option maxRecDepth 100000 in
set_option maxHeartbeats 4000000 in
theorem wX8_mark_h60 {p : Program} {l : Launch} {e : Env} {s : State} {m : MethodId} {args : Array Value} {below : List Frame} {meth : Method} {c : Code} {G : GT} {r : Int32} {z : XS} (C : CX G p s m args meth c cX8_mark 4 (some .int) RX8) : ∀ (u1 : Int32) (u2 : Int32) (u3 : Int32) (x : XS), fX8_mark_h60 u1 u2 u3 x = some (r, z) → ∀ (H : Heap) (locs : List Loc) (ls : Array Slot), SR G x H locs → lv_has ls 4 [(0, .ref (G.1 + 99)), (1, .int u1), (2, .int u2), (3, .int u3)] → W p l e rmX8_mark s m args below meth c H locs 0 0 (MQ below (QC G (some (.int r)) z) args s 0 0 (AB G)) (F0 m 60 ls []) := by
  intro u1 u2 u3 x hf H locs ls hS hl
  have hx := C.1
  have hb := C.2.1
  have hown := C.2.2.2.2.2.1
  have hw := C.2.2.2.2.2.2.1
  unfold fX8_mark_h60 at hf
  refine lv_aload_n hx hb dX8_mark_60 rfl (lv_at hl 0 rfl) ?_
  refine gf7_24 C hS (rfl) g_829 dX8_mark_61 ?_
  refine lv_iload_n hx hb dX8_mark_64 rfl (lv_at hl 1 rfl) ?_
  obtain ⟨gg_13, hf⟩ := gd_out hf
  refine alI C hS (rfl) rfl gg_13 dX8_mark_65 ?_
  refine lv_iconst (v := 1) hx hb dX8_mark_66 (by decide) ?_
  refine lv_icmp_ne (tgt := 92) hx hb dX8_mark_67 (by decide) (fun c_14 => ?_) (fun c_14 => ?_)
  · replace hf := if_n c_14 hf
    exact wX8_mark_h92  C u1 u2 u3 x hf _ _ _ hS (lv_sub hl [0, 1, 2, 3] rfl)
  · replace hf := if_p c_14 hf
    refine lv_iload_n hx hb dX8_mark_70 rfl (lv_at hl 3 rfl) ?_
    refine lv_ldc (v := (-1000000005)) hx hb hown (hw _ g_1063) dX8_mark_71 ?_
    refine lv_icmp_eq (tgt := 92) hx hb dX8_mark_73 (by decide) (fun c_15 => ?_) (fun c_15 => ?_)
    · replace hf := if_p c_15 hf
      exact wX8_mark_h92  C u1 u2 u3 x hf _ _ _ hS (lv_sub hl [0, 1, 2, 3] rfl)
    · replace hf := if_n c_15 hf
      refine lv_iload_n hx hb dX8_mark_76 rfl (lv_at hl 3 rfl) ?_
      refine lv_ldcw (v := (-99999)) hx hb hown (hw _ g_1186) dX8_mark_77 ?_
      refine lv_ldcw (v := 99999) hx hb hown (hw _ g_1187) dX8_mark_80 ?_
      obtain ⟨r_16, x_17, qr_16, hf⟩ := bd_out hf
      refine rsI (As := [.int u3, .int (-99999), .int 99999]) (rest := []) C hS KX8_in (cX8_in_ qr_16) g_914 ⟨rfl, rfl⟩ ⟨(Nat.le_of_ble_eq_true rfl), (Nat.le_of_ble_eq_true rfl)⟩ hl.1 rfl rfl (Nat.le_of_ble_eq_true rfl) ⟨Nat.zero_le _, Nat.zero_le _⟩ dX8_mark_83 (fun H locs hS => ?_)
      refine lv_if_ne (tgt := 92) hx hb dX8_mark_86 (by decide) (fun c_18 => ?_) (fun c_18 => ?_)
      · replace hf := if_n c_18 hf
        exact wX8_mark_h92  C u1 u2 u3 x_17 hf _ _ _ hS (lv_sub hl [0, 1, 2, 3] rfl)
      · replace hf := if_p c_18 hf
        refine lv_ldc (v := (-1000000001)) hx hb hown (hw _ g_920) dX8_mark_89 ?_
        exact rtI C hS hf dX8_mark_91
set_option maxRecDepth 100000 in
set_option maxHeartbeats 4000000 in
theorem cX8_mark_ {G : GT} {l : Launch} {v1 : Int32} {v2 : Int32} {v3 : Int32} {x z : XS} {r : Int32} (hf : fX8_mark v1 v2 v3 x = some (r, z)) : Ct G l yX8_mark (.code yX8_mark cX8_mark 4 (some .int)) rmX8_mark [.ref (G.1 + 99), .int v1, .int v2, .int v3] x (some (.int r)) z := by
  refine Ct.of (by decide +kernel) (Nat.le_of_ble_eq_true rfl) ?_
  intro p e s m args below meth c C ls hl hS
  have C : CX G p s m args meth c cX8_mark 4 (some .int) RX8 := C
  have hl : lv_has ls 4 [(0, .ref (G.1 + 99)), (1, .int v1), (2, .int v2), (3, .int v3)] := hl
  have hx := C.1
  have hb := C.2.1
  have hown := C.2.2.2.2.2.1
  have hw := C.2.2.2.2.2.2.1
  unfold fX8_mark at hf
  refine lv_iload_n hx hb dX8_mark_0 rfl (lv_at hl 1 rfl) ?_
  obtain ⟨r_1, x_2, qr_1, hf⟩ := bd_out hf
  refine rsI (As := [.int v1]) (rest := []) C hS KX8_isSheet (cX8_isSheet_ qr_1) g_1097 ⟨rfl, rfl⟩ ⟨(Nat.le_of_ble_eq_true rfl), (Nat.le_of_ble_eq_true rfl)⟩ hl.1 rfl rfl (Nat.le_of_ble_eq_true rfl) ⟨Nat.zero_le _, Nat.zero_le _⟩ dX8_mark_1 (fun H locs hS => ?_)
  refine lv_if_ne (tgt := 10) hx hb dX8_mark_4 (by decide) (fun c_3 => ?_) (fun c_3 => ?_)
  · replace hf := if_n c_3 hf
    refine lv_aload_n hx hb dX8_mark_10 rfl (lv_at hl 0 rfl) ?_
    refine gf7_24 C hS (rfl) g_829 dX8_mark_11 ?_
    refine lv_iload_n hx hb dX8_mark_14 rfl (lv_at hl 1 rfl) ?_
    obtain ⟨gg_4, hf⟩ := gd_out hf
    refine alI C hS (rfl) rfl gg_4 dX8_mark_15 ?_
    refine lv_if_ge (tgt := 22) hx hb dX8_mark_16 (by decide) (fun c_5 => ?_) (fun c_5 => ?_)
    · replace hf := if_p c_5 hf
      refine lv_iload_n hx hb dX8_mark_22 rfl (lv_at hl 2 rfl) ?_
      refine lv_iconst (v := 0) hx hb dX8_mark_23 (by decide) ?_
      refine lv_aload_n hx hb dX8_mark_24 rfl (lv_at hl 0 rfl) ?_
      refine gf7_25 C hS (rfl) g_830 dX8_mark_25 ?_
      refine lv_iload_n hx hb dX8_mark_28 rfl (lv_at hl 1 rfl) ?_
      obtain ⟨gg_6, hf⟩ := gd_out hf
      refine alI C hS (rfl) rfl gg_6 dX8_mark_29 ?_
      refine lv_iconst (v := 1) hx hb dX8_mark_30 (by decide) ?_
      refine lv_isub hx hb dX8_mark_31 ?_
      obtain ⟨r_7, x_8, qr_7, hf⟩ := bd_out hf
      refine rsI (As := [.int v2, .int 0, .int ((x_2 113 (ix v1)) - 1)]) (rest := []) C hS KX8_in (cX8_in_ qr_7) g_914 ⟨rfl, rfl⟩ ⟨(Nat.le_of_ble_eq_true rfl), (Nat.le_of_ble_eq_true rfl)⟩ hl.1 rfl rfl (Nat.le_of_ble_eq_true rfl) ⟨Nat.zero_le _, Nat.zero_le _⟩ dX8_mark_32 (fun H locs hS => ?_)
      refine lv_if_ne (tgt := 42) hx hb dX8_mark_35 (by decide) (fun c_9 => ?_) (fun c_9 => ?_)
      · replace hf := if_n c_9 hf
        refine lv_aload_n hx hb dX8_mark_42 rfl (lv_at hl 0 rfl) ?_
        refine gf7_24 C hS (rfl) g_829 dX8_mark_43 ?_
        refine lv_iload_n hx hb dX8_mark_46 rfl (lv_at hl 1 rfl) ?_
        obtain ⟨gg_10, hf⟩ := gd_out hf
        refine alI C hS (rfl) rfl gg_10 dX8_mark_47 ?_
        refine lv_if_ne (tgt := 60) hx hb dX8_mark_48 (by decide) (fun c_11 => ?_) (fun c_11 => ?_)
        · replace hf := if_n c_11 hf
          exact wX8_mark_h60  C v1 v2 v3 x_8 hf _ _ _ hS (lv_sub hl [0, 1, 2, 3] rfl)
        · replace hf := if_p c_11 hf
          refine lv_iload_n hx hb dX8_mark_51 rfl (lv_at hl 3 rfl) ?_
          refine lv_ldc (v := (-1000000005)) hx hb hown (hw _ g_1063) dX8_mark_52 ?_
          refine lv_icmp_ne (tgt := 60) hx hb dX8_mark_54 (by decide) (fun c_12 => ?_) (fun c_12 => ?_)
          · replace hf := if_n c_12 hf
            exact wX8_mark_h60  C v1 v2 v3 x_8 hf _ _ _ hS (lv_sub hl [0, 1, 2, 3] rfl)
          · replace hf := if_p c_12 hf
            refine lv_ldc (v := (-1000000012)) hx hb hown (hw _ g_987) dX8_mark_57 ?_
            exact rtI C hS hf dX8_mark_59
      · replace hf := if_p c_9 hf
        refine lv_ldcw (v := (-1000000013)) hx hb hown (hw _ g_1185) dX8_mark_38 ?_
        exact rtI C hS hf dX8_mark_41
    · replace hf := if_n c_5 hf
      refine lv_ldc (v := (-1000000011)) hx hb hown (hw _ g_1100) dX8_mark_19 ?_
      exact rtI C hS hf dX8_mark_21
  · replace hf := if_p c_3 hf
    refine lv_ldc (v := (-1000000001)) hx hb hown (hw _ g_920) dX8_mark_7 ?_
    exact rtI C hS hf dX8_mark_9
abbrev rmX8_pour : Room := { frames := 2, cells := 0, slots := 0, locals := 42 }
set_option maxRecDepth 100000 in
set_option maxHeartbeats 4000000 in
theorem wX8_pour_h83 {p : Program} {l : Launch} {e : Env} {s : State} {m : MethodId} {args : Array Value} {below : List Frame} {meth : Method} {c : Code} {G : GT} {r : Int32} {z : XS} (C : CX G p s m args meth c cX8_pour 6 (some .int) RX8) {k26 : Int32 → Int32 → Int32 → XS → Option (Int32 × XS)} (hk26 : ∀ (u1 : Int32) (u2 : Int32) (u3 : Int32) (x : XS), k26 u1 u2 u3 x = some (r, z) → ∀ (H : Heap) (locs : List Loc) (ls : Array Slot), SR G x H locs → lv_has ls 6 [(0, .ref (G.1 + 99)), (1, .int u1), (2, .int u2), (3, .int u3)] → W p l e rmX8_pour s m args below meth c H locs 0 0 (MQ below (QC G (some (.int r)) z) args s 0 0 (AB G)) (F0 m 26 ls [])) : ∀ (u1 : Int32) (u2 : Int32) (u3 : Int32) (s0 : Int32) (x : XS), fX8_pour_h83 k26 u1 u2 u3 s0 x = some (r, z) → ∀ (H : Heap) (locs : List Loc) (ls : Array Slot), SR G x H locs → lv_has ls 6 [(0, .ref (G.1 + 99)), (1, .int u1), (2, .int u2), (3, .int u3)] → W p l e rmX8_pour s m args below meth c H locs 0 0 (MQ below (QC G (some (.int r)) z) args s 0 0 (AB G)) (F0 m 83 ls [.int s0]) := by
  intro u1 u2 u3 s0 x hf H locs ls hS hl
  have hx := C.1
  have hb := C.2.1
  have hown := C.2.2.2.2.2.1
  have hw := C.2.2.2.2.2.2.1
  unfold fX8_pour_h83 at hf
  refine lv_istore (lv' := [(5, .int s0), (0, .ref (G.1 + 99)), (1, .int u1), (2, .int u2), (3, .int u3)]) hx hb dX8_pour_83 hl (by decide) rfl (fun ls hl => ?_)
  refine lv_iload_n hx hb dX8_pour_85 rfl (lv_at hl 3 rfl) ?_
  refine lv_aload_n hx hb dX8_pour_86 rfl (lv_at hl 1 rfl) ?_
  refine lv_bipush (v := 9) hx hb dX8_pour_87 (by decide) ?_
  refine lv_bipush (v := 7) hx hb dX8_pour_89 (by decide) ?_
  refine lv_iload_n hx hb dX8_pour_91 rfl (lv_at hl 4 rfl) ?_
  refine lv_imul hx hb dX8_pour_92 ?_
  refine lv_iadd hx hb dX8_pour_93 ?_
  refine lv_iconst (v := 2) hx hb dX8_pour_94 (by decide) ?_
  refine lv_iadd hx hb dX8_pour_95 ?_
  refine lv_iload hx hb dX8_pour_96 (lv_at hl 0 rfl) ?_
  obtain ⟨r_17, x_18, qr_17, hf⟩ := bd_out hf
  refine rvI (As := [.int ((9 + (7 * u3)) + 2), .int s0]) (rest := [.int u2]) C hS (rfl) rfl KX8_becomes (cX8_becomes_ qr_17) g_992 ⟨rfl, rfl⟩ ⟨(Nat.le_of_ble_eq_true rfl), (Nat.le_of_ble_eq_true rfl)⟩ hl.1 rfl rfl (Nat.le_of_ble_eq_true rfl) ⟨Nat.zero_le _, Nat.zero_le _⟩ dX8_pour_98 (fun H locs hS => ?_)
  refine lv_iload hx hb dX8_pour_101 (lv_at hl 0 rfl) ?_
  refine lv_icmp_ne (tgt := 110) hx hb dX8_pour_103 (by decide) (fun c_19 => ?_) (fun c_19 => ?_)
  · replace hf := if_n c_19 hf
    refine lv_iconst (v := 1) hx hb dX8_pour_110 (by decide) ?_
    refine lv_iadd hx hb dX8_pour_111 ?_
    obtain ⟨v_20, ev_20, hf⟩ := st_out hf
    refine topI ev_20 ?_
    refine lv_istore_n (lv' := [(2, .int v_20), (5, .int s0), (0, .ref (G.1 + 99)), (1, .int u1), (3, .int u3)]) hx hb dX8_pour_112 rfl hl (by decide) rfl (fun ls hl => ?_)
    obtain ⟨v_21, ev_21, hf⟩ := st_out hf
    refine lv_iinc (v := v_21) (lv' := [(3, .int v_21), (2, .int v_20), (5, .int s0), (0, .ref (G.1 + 99)), (1, .int u1)]) hx hb dX8_pour_113 hl (k := 4) rfl (by rw [ev_21]; rfl) (by decide) rfl (fun ls hl => ?_)
    refine lv_goto (tgt := 26) hx hb dX8_pour_116 (by decide) ?_
    exact hk26 u1 v_20 v_21 x_18 hf _ _ _ hS (lv_sub hl [3, 4, 1, 0] rfl)
  · replace hf := if_p c_19 hf
    refine lv_iconst (v := 0) hx hb dX8_pour_106 (by decide) ?_
    refine lv_goto (tgt := 111) hx hb dX8_pour_107 (by decide) ?_
    refine lv_iadd hx hb dX8_pour_111 ?_
    obtain ⟨v_22, ev_22, hf⟩ := st_out hf
    refine topI ev_22 ?_
    refine lv_istore_n (lv' := [(2, .int v_22), (5, .int s0), (0, .ref (G.1 + 99)), (1, .int u1), (3, .int u3)]) hx hb dX8_pour_112 rfl hl (by decide) rfl (fun ls hl => ?_)
    obtain ⟨v_23, ev_23, hf⟩ := st_out hf
    refine lv_iinc (v := v_23) (lv' := [(3, .int v_23), (2, .int v_22), (5, .int s0), (0, .ref (G.1 + 99)), (1, .int u1)]) hx hb dX8_pour_113 hl (k := 4) rfl (by rw [ev_23]; rfl) (by decide) rfl (fun ls hl => ?_)
    refine lv_goto (tgt := 26) hx hb dX8_pour_116 (by decide) ?_
    exact hk26 u1 v_22 v_23 x_18 hf _ _ _ hS (lv_sub hl [3, 4, 1, 0] rfl)
set_option maxRecDepth 100000 in
set_option maxHeartbeats 4000000 in
theorem wbX8_pour_h26 {p : Program} {l : Launch} {e : Env} {s : State} {m : MethodId} {args : Array Value} {below : List Frame} {meth : Method} {c : Code} {G : GT} {r : Int32} {z : XS} (C : CX G p s m args meth c cX8_pour 6 (some .int) RX8) {k26 : Int32 → Int32 → Int32 → XS → Option (Int32 × XS)} (hk26 : ∀ (u1 : Int32) (u2 : Int32) (u3 : Int32) (x : XS), k26 u1 u2 u3 x = some (r, z) → ∀ (H : Heap) (locs : List Loc) (ls : Array Slot), SR G x H locs → lv_has ls 6 [(0, .ref (G.1 + 99)), (1, .int u1), (2, .int u2), (3, .int u3)] → W p l e rmX8_pour s m args below meth c H locs 0 0 (MQ below (QC G (some (.int r)) z) args s 0 0 (AB G)) (F0 m 26 ls [])) : ∀ (u1 : Int32) (u2 : Int32) (u3 : Int32) (x : XS), bX8_pour_h26 k26 u1 u2 u3 x = some (r, z) → ∀ (H : Heap) (locs : List Loc) (ls : Array Slot), SR G x H locs → lv_has ls 6 [(0, .ref (G.1 + 99)), (1, .int u1), (2, .int u2), (3, .int u3)] → W p l e rmX8_pour s m args below meth c H locs 0 0 (MQ below (QC G (some (.int r)) z) args s 0 0 (AB G)) (F0 m 26 ls []) := by
  intro u1 u2 u3 x hf H locs ls hS hl
  have hx := C.1
  have hb := C.2.1
  have hown := C.2.2.2.2.2.1
  have hw := C.2.2.2.2.2.2.1
  unfold bX8_pour_h26 at hf
  refine lv_iload_n hx hb dX8_pour_26 rfl (lv_at hl 3 rfl) ?_
  refine lv_aload_n hx hb dX8_pour_27 rfl (lv_at hl 0 rfl) ?_
  refine gf7_25 C hS (rfl) g_830 dX8_pour_28 ?_
  refine lv_iload_n hx hb dX8_pour_31 rfl (lv_at hl 1 rfl) ?_
  obtain ⟨gg_6, hf⟩ := gd_out hf
  refine alI C hS (rfl) rfl gg_6 dX8_pour_32 ?_
  refine lv_icmp_ge (tgt := 119) hx hb dX8_pour_33 (by decide) (fun c_7 => ?_) (fun c_7 => ?_)
  · replace hf := if_p c_7 hf
    refine lv_iload_n hx hb dX8_pour_119 rfl (lv_at hl 2 rfl) ?_
    exact rtI C hS hf dX8_pour_120
  · replace hf := if_n c_7 hf
    refine lv_iload_n hx hb dX8_pour_36 rfl (lv_at hl 3 rfl) ?_
    refine lv_aload_n hx hb dX8_pour_37 rfl (lv_at hl 0 rfl) ?_
    refine gf7_0 C hS (rfl) g_805 dX8_pour_38 ?_
    refine lv_iconst (v := 1) hx hb dX8_pour_41 (by decide) ?_
    obtain ⟨gg_8, hf⟩ := gd_out hf
    refine alI C hS (rfl) rfl gg_8 dX8_pour_42 ?_
    refine lv_icmp_ge (tgt := 119) hx hb dX8_pour_43 (by decide) (fun c_9 => ?_) (fun c_9 => ?_)
    · replace hf := if_p c_9 hf
      refine lv_iload_n hx hb dX8_pour_119 rfl (lv_at hl 2 rfl) ?_
      exact rtI C hS hf dX8_pour_120
    · replace hf := if_n c_9 hf
      refine lv_aload_n hx hb dX8_pour_46 rfl (lv_at hl 0 rfl) ?_
      refine gf7_26 C hS (rfl) g_831 dX8_pour_47 ?_
      refine lv_bipush (v := 24) hx hb dX8_pour_50 (by decide) ?_
      refine lv_iload_n hx hb dX8_pour_52 rfl (lv_at hl 1 rfl) ?_
      refine lv_imul hx hb dX8_pour_53 ?_
      refine lv_iload_n hx hb dX8_pour_54 rfl (lv_at hl 3 rfl) ?_
      refine lv_iadd hx hb dX8_pour_55 ?_
      obtain ⟨gg_10, hf⟩ := gd_out hf
      refine alI C hS (rfl) rfl gg_10 dX8_pour_56 ?_
      obtain ⟨v_11, ev_11, hf⟩ := st_out hf
      refine topI ev_11 ?_
      refine lv_istore (lv' := [(4, .int v_11), (0, .ref (G.1 + 99)), (1, .int u1), (2, .int u2), (3, .int u3)]) hx hb dX8_pour_57 hl (by decide) rfl (fun ls hl => ?_)
      refine lv_iload hx hb dX8_pour_59 (lv_at hl 0 rfl) ?_
      refine lv_ldc (v := (-1000000005)) hx hb hown (hw _ g_1063) dX8_pour_61 ?_
      refine lv_icmp_ne (tgt := 75) hx hb dX8_pour_63 (by decide) (fun c_12 => ?_) (fun c_12 => ?_)
      · replace hf := if_n c_12 hf
        refine lv_iload hx hb dX8_pour_75 (lv_at hl 0 rfl) ?_
        refine lv_iconst (v := 1) hx hb dX8_pour_77 (by decide) ?_
        refine lv_bipush (v := 99) hx hb dX8_pour_78 (by decide) ?_
        obtain ⟨r_13, x_14, qr_13, hf⟩ := bd_out hf
        refine rsI (As := [.int v_11, .int 1, .int 99]) (rest := []) C hS KX8_within (cX8_within_ qr_13) g_977 ⟨rfl, rfl⟩ ⟨(Nat.le_of_ble_eq_true rfl), (Nat.le_of_ble_eq_true rfl)⟩ hl.1 rfl rfl (Nat.le_of_ble_eq_true rfl) ⟨Nat.zero_le _, Nat.zero_le _⟩ dX8_pour_80 (fun H locs hS => ?_)
        exact wX8_pour_h83  C hk26 u1 u2 u3 r_13 x_14 hf _ _ _ hS (lv_sub hl [1, 2, 3, 4] rfl)
      · replace hf := if_p c_12 hf
        refine lv_aload_n hx hb dX8_pour_66 rfl (lv_at hl 1 rfl) ?_
        refine lv_iload_n hx hb dX8_pour_67 rfl (lv_at hl 4 rfl) ?_
        refine lv_iconst (v := 2) hx hb dX8_pour_68 (by decide) ?_
        obtain ⟨r_15, x_16, qr_15, hf⟩ := bd_out hf
        refine rvI (As := [.int u3, .int 2]) (rest := []) C hS (rfl) rfl KX8_of (cX8_of_ qr_15) g_938 ⟨rfl, rfl⟩ ⟨(Nat.le_of_ble_eq_true rfl), (Nat.le_of_ble_eq_true rfl)⟩ hl.1 rfl rfl (Nat.le_of_ble_eq_true rfl) ⟨Nat.zero_le _, Nat.zero_le _⟩ dX8_pour_69 (fun H locs hS => ?_)
        refine lv_goto (tgt := 83) hx hb dX8_pour_72 (by decide) ?_
        exact wX8_pour_h83  C hk26 u1 u2 u3 r_15 x_16 hf _ _ _ hS (lv_sub hl [1, 2, 3, 4] rfl)
theorem wlX8_pour_h26 {p : Program} {l : Launch} {e : Env} {s : State} {m : MethodId} {args : Array Value} {below : List Frame} {meth : Method} {c : Code} {G : GT} {r : Int32} {z : XS} (C : CX G p s m args meth c cX8_pour 6 (some .int) RX8) (n : Nat) : ∀ (u1 : Int32) (u2 : Int32) (u3 : Int32) (x : XS), lX8_pour_h26 n u1 u2 u3 x = some (r, z) → ∀ (H : Heap) (locs : List Loc) (ls : Array Slot), SR G x H locs → lv_has ls 6 [(0, .ref (G.1 + 99)), (1, .int u1), (2, .int u2), (3, .int u3)] → W p l e rmX8_pour s m args below meth c H locs 0 0 (MQ below (QC G (some (.int r)) z) args s 0 0 (AB G)) (F0 m 26 ls []) := by
  induction n with
  | zero => intro u1 u2 u3 x hf H locs ls hS hl; exact absurd hf (by intro q; cases q)
  | succ n ih => exact wbX8_pour_h26 C ih
theorem wX8_pour_h26 {p : Program} {l : Launch} {e : Env} {s : State} {m : MethodId} {args : Array Value} {below : List Frame} {meth : Method} {c : Code} {G : GT} {r : Int32} {z : XS} (C : CX G p s m args meth c cX8_pour 6 (some .int) RX8) : ∀ (u1 : Int32) (u2 : Int32) (u3 : Int32) (x : XS), fX8_pour_h26 u1 u2 u3 x = some (r, z) → ∀ (H : Heap) (locs : List Loc) (ls : Array Slot), SR G x H locs → lv_has ls 6 [(0, .ref (G.1 + 99)), (1, .int u1), (2, .int u2), (3, .int u3)] → W p l e rmX8_pour s m args below meth c H locs 0 0 (MQ below (QC G (some (.int r)) z) args s 0 0 (AB G)) (F0 m 26 ls []) := wlX8_pour_h26 C FU
set_option maxRecDepth 100000 in
set_option maxHeartbeats 4000000 in
theorem cX8_pour_ {G : GT} {l : Launch} {v1 : Int32} {x z : XS} {r : Int32} (hf : fX8_pour v1 x = some (r, z)) : Ct G l yX8_pour (.code yX8_pour cX8_pour 6 (some .int)) rmX8_pour [.ref (G.1 + 99), .int v1] x (some (.int r)) z := by
  refine Ct.of (by decide +kernel) (Nat.le_of_ble_eq_true rfl) ?_
  intro p e s m args below meth c C ls hl hS
  have C : CX G p s m args meth c cX8_pour 6 (some .int) RX8 := C
  have hl : lv_has ls 6 [(0, .ref (G.1 + 99)), (1, .int v1)] := hl
  have hx := C.1
  have hb := C.2.1
  have hown := C.2.2.2.2.2.1
  have hw := C.2.2.2.2.2.2.1
  unfold fX8_pour at hf
  refine lv_iload_n hx hb dX8_pour_0 rfl (lv_at hl 1 rfl) ?_
  obtain ⟨r_1, x_2, qr_1, hf⟩ := bd_out hf
  refine rsI (As := [.int v1]) (rest := []) C hS KX8_isSheet (cX8_isSheet_ qr_1) g_1097 ⟨rfl, rfl⟩ ⟨(Nat.le_of_ble_eq_true rfl), (Nat.le_of_ble_eq_true rfl)⟩ hl.1 rfl rfl (Nat.le_of_ble_eq_true rfl) ⟨Nat.zero_le _, Nat.zero_le _⟩ dX8_pour_1 (fun H locs hS => ?_)
  refine lv_if_ne (tgt := 10) hx hb dX8_pour_4 (by decide) (fun c_3 => ?_) (fun c_3 => ?_)
  · replace hf := if_n c_3 hf
    refine lv_aload_n hx hb dX8_pour_10 rfl (lv_at hl 0 rfl) ?_
    refine gf7_24 C hS (rfl) g_829 dX8_pour_11 ?_
    refine lv_iload_n hx hb dX8_pour_14 rfl (lv_at hl 1 rfl) ?_
    obtain ⟨gg_4, hf⟩ := gd_out hf
    refine alI C hS (rfl) rfl gg_4 dX8_pour_15 ?_
    refine lv_if_ge (tgt := 22) hx hb dX8_pour_16 (by decide) (fun c_5 => ?_) (fun c_5 => ?_)
    · replace hf := if_p c_5 hf
      refine lv_iconst (v := 0) hx hb dX8_pour_22 (by decide) ?_
      refine lv_istore_n (lv' := [(2, .int 0), (0, .ref (G.1 + 99)), (1, .int v1)]) hx hb dX8_pour_23 rfl hl (by decide) rfl (fun ls hl => ?_)
      refine lv_iconst (v := 0) hx hb dX8_pour_24 (by decide) ?_
      refine lv_istore_n (lv' := [(3, .int 0), (2, .int 0), (0, .ref (G.1 + 99)), (1, .int v1)]) hx hb dX8_pour_25 rfl hl (by decide) rfl (fun ls hl => ?_)
      exact wX8_pour_h26  C v1 0 0 x_2 hf _ _ _ hS (lv_sub hl [2, 3, 1, 0] rfl)
    · replace hf := if_n c_5 hf
      refine lv_ldc (v := (-1000000011)) hx hb hown (hw _ g_1100) dX8_pour_19 ?_
      exact rtI C hS hf dX8_pour_21
  · replace hf := if_p c_3 hf
    refine lv_ldc (v := (-1000000001)) hx hb hown (hw _ g_920) dX8_pour_7 ?_
    exact rtI C hS hf dX8_pour_9
abbrev rmX8_reads : Room := { frames := 2, cells := 0, slots := 0, locals := 43 }
set_option maxRecDepth 100000 in
set_option maxHeartbeats 4000000 in
theorem wbX8_reads_h24 {p : Program} {l : Launch} {e : Env} {s : State} {m : MethodId} {args : Array Value} {below : List Frame} {meth : Method} {c : Code} {G : GT} {r : Int32} {z : XS} (C : CX G p s m args meth c cX8_reads 4 (some .int) RX8) {k24 : Int32 → Int32 → XS → Option (Int32 × XS)} (hk24 : ∀ (u1 : Int32) (u2 : Int32) (x : XS), k24 u1 u2 x = some (r, z) → ∀ (H : Heap) (locs : List Loc) (ls : Array Slot), SR G x H locs → lv_has ls 4 [(0, .ref (G.1 + 99)), (1, .int u1), (2, .int u2)] → W p l e rmX8_reads s m args below meth c H locs 0 0 (MQ below (QC G (some (.int r)) z) args s 0 0 (AB G)) (F0 m 24 ls [])) : ∀ (u1 : Int32) (u2 : Int32) (x : XS), bX8_reads_h24 k24 u1 u2 x = some (r, z) → ∀ (H : Heap) (locs : List Loc) (ls : Array Slot), SR G x H locs → lv_has ls 4 [(0, .ref (G.1 + 99)), (1, .int u1), (2, .int u2)] → W p l e rmX8_reads s m args below meth c H locs 0 0 (MQ below (QC G (some (.int r)) z) args s 0 0 (AB G)) (F0 m 24 ls []) := by
  intro u1 u2 x hf H locs ls hS hl
  have hx := C.1
  have hb := C.2.1
  have hown := C.2.2.2.2.2.1
  have hw := C.2.2.2.2.2.2.1
  unfold bX8_reads_h24 at hf
  refine lv_iload_n hx hb dX8_reads_24 rfl (lv_at hl 2 rfl) ?_
  refine lv_aload_n hx hb dX8_reads_25 rfl (lv_at hl 0 rfl) ?_
  refine gf7_25 C hS (rfl) g_830 dX8_reads_26 ?_
  refine lv_iload_n hx hb dX8_reads_29 rfl (lv_at hl 1 rfl) ?_
  obtain ⟨gg_6, hf⟩ := gd_out hf
  refine alI C hS (rfl) rfl gg_6 dX8_reads_30 ?_
  refine lv_icmp_ge (tgt := 78) hx hb dX8_reads_31 (by decide) (fun c_7 => ?_) (fun c_7 => ?_)
  · replace hf := if_p c_7 hf
    refine lv_ldc (v := (-1000000005)) hx hb hown (hw _ g_1063) dX8_reads_78 ?_
    exact rtI C hS hf dX8_reads_80
  · replace hf := if_n c_7 hf
    refine lv_aload_n hx hb dX8_reads_34 rfl (lv_at hl 0 rfl) ?_
    refine gf7_26 C hS (rfl) g_831 dX8_reads_35 ?_
    refine lv_bipush (v := 24) hx hb dX8_reads_38 (by decide) ?_
    refine lv_iload_n hx hb dX8_reads_40 rfl (lv_at hl 1 rfl) ?_
    refine lv_imul hx hb dX8_reads_41 ?_
    refine lv_iload_n hx hb dX8_reads_42 rfl (lv_at hl 2 rfl) ?_
    refine lv_iadd hx hb dX8_reads_43 ?_
    obtain ⟨gg_8, hf⟩ := gd_out hf
    refine alI C hS (rfl) rfl gg_8 dX8_reads_44 ?_
    obtain ⟨v_9, ev_9, hf⟩ := st_out hf
    refine topI ev_9 ?_
    refine lv_istore_n (lv' := [(3, .int v_9), (0, .ref (G.1 + 99)), (1, .int u1), (2, .int u2)]) hx hb dX8_reads_45 rfl hl (by decide) rfl (fun ls hl => ?_)
    refine lv_iload_n hx hb dX8_reads_46 rfl (lv_at hl 0 rfl) ?_
    refine lv_ldc (v := (-1000000005)) hx hb hown (hw _ g_1063) dX8_reads_47 ?_
    refine lv_icmp_eq (tgt := 72) hx hb dX8_reads_49 (by decide) (fun c_10 => ?_) (fun c_10 => ?_)
    · replace hf := if_p c_10 hf
      obtain ⟨v_11, ev_11, hf⟩ := st_out hf
      refine lv_iinc (v := v_11) (lv' := [(2, .int v_11), (3, .int v_9), (0, .ref (G.1 + 99)), (1, .int u1)]) hx hb dX8_reads_72 hl (k := 3) rfl (by rw [ev_11]; rfl) (by decide) rfl (fun ls hl => ?_)
      refine lv_goto (tgt := 24) hx hb dX8_reads_75 (by decide) ?_
      exact hk24 u1 v_11 x hf _ _ _ hS (lv_sub hl [2, 3, 0] rfl)
    · replace hf := if_n c_10 hf
      refine lv_aload_n hx hb dX8_reads_52 rfl (lv_at hl 1 rfl) ?_
      refine lv_iload_n hx hb dX8_reads_53 rfl (lv_at hl 3 rfl) ?_
      obtain ⟨r_12, x_13, qr_12, hf⟩ := bd_out hf
      refine rvI (As := [.int u2]) (rest := []) C hS (rfl) rfl KX8_isBoy (cX8_isBoy_ qr_12) g_934 ⟨rfl, rfl⟩ ⟨(Nat.le_of_ble_eq_true rfl), (Nat.le_of_ble_eq_true rfl)⟩ hl.1 rfl rfl (Nat.le_of_ble_eq_true rfl) ⟨Nat.zero_le _, Nat.zero_le _⟩ dX8_reads_54 (fun H locs hS => ?_)
      refine lv_if_eq (tgt := 70) hx hb dX8_reads_57 (by decide) (fun c_14 => ?_) (fun c_14 => ?_)
      · replace hf := if_p c_14 hf
        refine lv_iload_n hx hb dX8_reads_70 rfl (lv_at hl 3 rfl) ?_
        exact rtI C hS hf dX8_reads_71
      · replace hf := if_n c_14 hf
        refine lv_iload_n hx hb dX8_reads_60 rfl (lv_at hl 0 rfl) ?_
        refine lv_aload_n hx hb dX8_reads_61 rfl (lv_at hl 1 rfl) ?_
        refine lv_iload_n hx hb dX8_reads_62 rfl (lv_at hl 3 rfl) ?_
        refine lv_iconst (v := 4) hx hb dX8_reads_63 (by decide) ?_
        obtain ⟨r_15, x_16, qr_15, hf⟩ := bd_out hf
        refine rvI (As := [.int u2, .int 4]) (rest := [.int v_9]) C hS (rfl) rfl KX8_of (cX8_of_ qr_15) g_938 ⟨rfl, rfl⟩ ⟨(Nat.le_of_ble_eq_true rfl), (Nat.le_of_ble_eq_true rfl)⟩ hl.1 rfl rfl (Nat.le_of_ble_eq_true rfl) ⟨Nat.zero_le _, Nat.zero_le _⟩ dX8_reads_64 (fun H locs hS => ?_)
        refine lv_icmp_eq (tgt := 72) hx hb dX8_reads_67 (by decide) (fun c_17 => ?_) (fun c_17 => ?_)
        · replace hf := if_p c_17 hf
          obtain ⟨v_18, ev_18, hf⟩ := st_out hf
          refine lv_iinc (v := v_18) (lv' := [(2, .int v_18), (3, .int v_9), (0, .ref (G.1 + 99)), (1, .int u1)]) hx hb dX8_reads_72 hl (k := 3) rfl (by rw [ev_18]; rfl) (by decide) rfl (fun ls hl => ?_)
          refine lv_goto (tgt := 24) hx hb dX8_reads_75 (by decide) ?_
          exact hk24 u1 v_18 x_16 hf _ _ _ hS (lv_sub hl [2, 3, 0] rfl)
        · replace hf := if_n c_17 hf
          refine lv_iload_n hx hb dX8_reads_70 rfl (lv_at hl 3 rfl) ?_
          exact rtI C hS hf dX8_reads_71
theorem wlX8_reads_h24 {p : Program} {l : Launch} {e : Env} {s : State} {m : MethodId} {args : Array Value} {below : List Frame} {meth : Method} {c : Code} {G : GT} {r : Int32} {z : XS} (C : CX G p s m args meth c cX8_reads 4 (some .int) RX8) (n : Nat) : ∀ (u1 : Int32) (u2 : Int32) (x : XS), lX8_reads_h24 n u1 u2 x = some (r, z) → ∀ (H : Heap) (locs : List Loc) (ls : Array Slot), SR G x H locs → lv_has ls 4 [(0, .ref (G.1 + 99)), (1, .int u1), (2, .int u2)] → W p l e rmX8_reads s m args below meth c H locs 0 0 (MQ below (QC G (some (.int r)) z) args s 0 0 (AB G)) (F0 m 24 ls []) := by
  induction n with
  | zero => intro u1 u2 x hf H locs ls hS hl; exact absurd hf (by intro q; cases q)
  | succ n ih => exact wbX8_reads_h24 C ih
theorem wX8_reads_h24 {p : Program} {l : Launch} {e : Env} {s : State} {m : MethodId} {args : Array Value} {below : List Frame} {meth : Method} {c : Code} {G : GT} {r : Int32} {z : XS} (C : CX G p s m args meth c cX8_reads 4 (some .int) RX8) : ∀ (u1 : Int32) (u2 : Int32) (x : XS), fX8_reads_h24 u1 u2 x = some (r, z) → ∀ (H : Heap) (locs : List Loc) (ls : Array Slot), SR G x H locs → lv_has ls 4 [(0, .ref (G.1 + 99)), (1, .int u1), (2, .int u2)] → W p l e rmX8_reads s m args below meth c H locs 0 0 (MQ below (QC G (some (.int r)) z) args s 0 0 (AB G)) (F0 m 24 ls []) := wlX8_reads_h24 C FU
set_option maxRecDepth 100000 in
set_option maxHeartbeats 4000000 in
theorem cX8_reads_ {G : GT} {l : Launch} {v1 : Int32} {x z : XS} {r : Int32} (hf : fX8_reads v1 x = some (r, z)) : Ct G l yX8_reads (.code yX8_reads cX8_reads 4 (some .int)) rmX8_reads [.ref (G.1 + 99), .int v1] x (some (.int r)) z := by
  refine Ct.of (by decide +kernel) (Nat.le_of_ble_eq_true rfl) ?_
  intro p e s m args below meth c C ls hl hS
  have C : CX G p s m args meth c cX8_reads 4 (some .int) RX8 := C
  have hl : lv_has ls 4 [(0, .ref (G.1 + 99)), (1, .int v1)] := hl
  have hx := C.1
  have hb := C.2.1
  have hown := C.2.2.2.2.2.1
  have hw := C.2.2.2.2.2.2.1
  unfold fX8_reads at hf
  refine lv_iload_n hx hb dX8_reads_0 rfl (lv_at hl 1 rfl) ?_
  obtain ⟨r_1, x_2, qr_1, hf⟩ := bd_out hf
  refine rsI (As := [.int v1]) (rest := []) C hS KX8_isSheet (cX8_isSheet_ qr_1) g_1097 ⟨rfl, rfl⟩ ⟨(Nat.le_of_ble_eq_true rfl), (Nat.le_of_ble_eq_true rfl)⟩ hl.1 rfl rfl (Nat.le_of_ble_eq_true rfl) ⟨Nat.zero_le _, Nat.zero_le _⟩ dX8_reads_1 (fun H locs hS => ?_)
  refine lv_if_ne (tgt := 10) hx hb dX8_reads_4 (by decide) (fun c_3 => ?_) (fun c_3 => ?_)
  · replace hf := if_n c_3 hf
    refine lv_aload_n hx hb dX8_reads_10 rfl (lv_at hl 0 rfl) ?_
    refine gf7_24 C hS (rfl) g_829 dX8_reads_11 ?_
    refine lv_iload_n hx hb dX8_reads_14 rfl (lv_at hl 1 rfl) ?_
    obtain ⟨gg_4, hf⟩ := gd_out hf
    refine alI C hS (rfl) rfl gg_4 dX8_reads_15 ?_
    refine lv_if_ge (tgt := 22) hx hb dX8_reads_16 (by decide) (fun c_5 => ?_) (fun c_5 => ?_)
    · replace hf := if_p c_5 hf
      refine lv_iconst (v := 0) hx hb dX8_reads_22 (by decide) ?_
      refine lv_istore_n (lv' := [(2, .int 0), (0, .ref (G.1 + 99)), (1, .int v1)]) hx hb dX8_reads_23 rfl hl (by decide) rfl (fun ls hl => ?_)
      exact wX8_reads_h24  C v1 0 x_2 hf _ _ _ hS (lv_sub hl [1, 2, 0] rfl)
    · replace hf := if_n c_5 hf
      refine lv_ldc (v := (-1000000011)) hx hb hown (hw _ g_1100) dX8_reads_19 ?_
      exact rtI C hS hf dX8_reads_21
  · replace hf := if_p c_3 hf
    refine lv_ldc (v := (-1000000001)) hx hb hown (hw _ g_920) dX8_reads_7 ?_
    exact rtI C hS hf dX8_reads_9
abbrev rmX8_copy : Room := { frames := 2, cells := 0, slots := 0, locals := 42 }
set_option maxRecDepth 100000 in
set_option maxHeartbeats 4000000 in
theorem wbX8_copy_h141 {p : Program} {l : Launch} {e : Env} {s : State} {m : MethodId} {args : Array Value} {below : List Frame} {meth : Method} {c : Code} {G : GT} {r : Int32} {z : XS} (C : CX G p s m args meth c cX8_copy 7 (some .int) RX8) {k141 : Int32 → Int32 → Int32 → Int32 → XS → Option (Int32 × XS)} (hk141 : ∀ (u3 : Int32) (u4 : Int32) (u5 : Int32) (u6 : Int32) (x : XS), k141 u3 u4 u5 u6 x = some (r, z) → ∀ (H : Heap) (locs : List Loc) (ls : Array Slot), SR G x H locs → lv_has ls 7 [(0, .ref (G.1 + 99)), (3, .int u3), (4, .int u4), (5, .int u5), (6, .int u6)] → W p l e rmX8_copy s m args below meth c H locs 0 0 (MQ below (QC G (some (.int r)) z) args s 0 0 (AB G)) (F0 m 141 ls [])) : ∀ (u3 : Int32) (u4 : Int32) (u5 : Int32) (u6 : Int32) (x : XS), bX8_copy_h141 k141 u3 u4 u5 u6 x = some (r, z) → ∀ (H : Heap) (locs : List Loc) (ls : Array Slot), SR G x H locs → lv_has ls 7 [(0, .ref (G.1 + 99)), (3, .int u3), (4, .int u4), (5, .int u5), (6, .int u6)] → W p l e rmX8_copy s m args below meth c H locs 0 0 (MQ below (QC G (some (.int r)) z) args s 0 0 (AB G)) (F0 m 141 ls []) := by
  intro u3 u4 u5 u6 x hf H locs ls hS hl
  have hx := C.1
  have hb := C.2.1
  have hown := C.2.2.2.2.2.1
  have hw := C.2.2.2.2.2.2.1
  unfold bX8_copy_h141 at hf
  refine lv_iload hx hb dX8_copy_141 (lv_at hl 4 rfl) ?_
  refine lv_iload hx hb dX8_copy_143 (lv_at hl 3 rfl) ?_
  refine lv_icmp_ge (tgt := 176) hx hb dX8_copy_145 (by decide) (fun c_26 => ?_) (fun c_26 => ?_)
  · replace hf := if_p c_26 hf
    refine lv_iload hx hb dX8_copy_176 (lv_at hl 3 rfl) ?_
    exact rtI C hS hf dX8_copy_178
  · replace hf := if_n c_26 hf
    refine lv_aload_n hx hb dX8_copy_148 rfl (lv_at hl 0 rfl) ?_
    refine gf7_26 C hS (rfl) g_831 dX8_copy_149 ?_
    refine lv_bipush (v := 24) hx hb dX8_copy_152 (by decide) ?_
    refine lv_iload_n hx hb dX8_copy_154 rfl (lv_at hl 1 rfl) ?_
    refine lv_imul hx hb dX8_copy_155 ?_
    refine lv_iload hx hb dX8_copy_156 (lv_at hl 2 rfl) ?_
    refine lv_iadd hx hb dX8_copy_158 ?_
    refine lv_iload hx hb dX8_copy_159 (lv_at hl 4 rfl) ?_
    refine lv_iadd hx hb dX8_copy_161 ?_
    refine lv_aload_n hx hb dX8_copy_162 rfl (lv_at hl 0 rfl) ?_
    refine gf7_31 C hS (rfl) g_836 dX8_copy_163 ?_
    refine lv_iload hx hb dX8_copy_166 (lv_at hl 4 rfl) ?_
    obtain ⟨gg_27, hf⟩ := gd_out hf
    refine alI C hS (rfl) rfl gg_27 dX8_copy_168 ?_
    obtain ⟨gg_28, hf⟩ := gd_out hf
    obtain ⟨x_29, ex_29, hf⟩ := st_out hf
    refine asI C hS (rfl) rfl gg_28 ex_29 dX8_copy_169 (fun H locs hS => ?_)
    obtain ⟨v_30, ev_30, hf⟩ := st_out hf
    refine lv_iinc (v := v_30) (lv' := [(6, .int v_30), (0, .ref (G.1 + 99)), (3, .int u3), (4, .int u4), (5, .int u5)]) hx hb dX8_copy_170 hl (k := 4) rfl (by rw [ev_30]; rfl) (by decide) rfl (fun ls hl => ?_)
    refine lv_goto (tgt := 141) hx hb dX8_copy_173 (by decide) ?_
    exact hk141 u3 u4 u5 v_30 x_29 hf _ _ _ hS (lv_sub hl [1, 2, 3, 4, 0] rfl)
theorem wlX8_copy_h141 {p : Program} {l : Launch} {e : Env} {s : State} {m : MethodId} {args : Array Value} {below : List Frame} {meth : Method} {c : Code} {G : GT} {r : Int32} {z : XS} (C : CX G p s m args meth c cX8_copy 7 (some .int) RX8) (n : Nat) : ∀ (u3 : Int32) (u4 : Int32) (u5 : Int32) (u6 : Int32) (x : XS), lX8_copy_h141 n u3 u4 u5 u6 x = some (r, z) → ∀ (H : Heap) (locs : List Loc) (ls : Array Slot), SR G x H locs → lv_has ls 7 [(0, .ref (G.1 + 99)), (3, .int u3), (4, .int u4), (5, .int u5), (6, .int u6)] → W p l e rmX8_copy s m args below meth c H locs 0 0 (MQ below (QC G (some (.int r)) z) args s 0 0 (AB G)) (F0 m 141 ls []) := by
  induction n with
  | zero => intro u3 u4 u5 u6 x hf H locs ls hS hl; exact absurd hf (by intro q; cases q)
  | succ n ih => exact wbX8_copy_h141 C ih
theorem wX8_copy_h141 {p : Program} {l : Launch} {e : Env} {s : State} {m : MethodId} {args : Array Value} {below : List Frame} {meth : Method} {c : Code} {G : GT} {r : Int32} {z : XS} (C : CX G p s m args meth c cX8_copy 7 (some .int) RX8) : ∀ (u3 : Int32) (u4 : Int32) (u5 : Int32) (u6 : Int32) (x : XS), fX8_copy_h141 u3 u4 u5 u6 x = some (r, z) → ∀ (H : Heap) (locs : List Loc) (ls : Array Slot), SR G x H locs → lv_has ls 7 [(0, .ref (G.1 + 99)), (3, .int u3), (4, .int u4), (5, .int u5), (6, .int u6)] → W p l e rmX8_copy s m args below meth c H locs 0 0 (MQ below (QC G (some (.int r)) z) args s 0 0 (AB G)) (F0 m 141 ls []) := wlX8_copy_h141 C FU
set_option maxRecDepth 100000 in
set_option maxHeartbeats 4000000 in
theorem wbX8_copy_h104 {p : Program} {l : Launch} {e : Env} {s : State} {m : MethodId} {args : Array Value} {below : List Frame} {meth : Method} {c : Code} {G : GT} {r : Int32} {z : XS} (C : CX G p s m args meth c cX8_copy 7 (some .int) RX8) {k104 : Int32 → Int32 → Int32 → Int32 → Int32 → Int32 → XS → Option (Int32 × XS)} (hk104 : ∀ (u1 : Int32) (u2 : Int32) (u3 : Int32) (u4 : Int32) (u5 : Int32) (u6 : Int32) (x : XS), k104 u1 u2 u3 u4 u5 u6 x = some (r, z) → ∀ (H : Heap) (locs : List Loc) (ls : Array Slot), SR G x H locs → lv_has ls 7 [(0, .ref (G.1 + 99)), (1, .int u1), (2, .int u2), (3, .int u3), (4, .int u4), (5, .int u5), (6, .int u6)] → W p l e rmX8_copy s m args below meth c H locs 0 0 (MQ below (QC G (some (.int r)) z) args s 0 0 (AB G)) (F0 m 104 ls [])) : ∀ (u1 : Int32) (u2 : Int32) (u3 : Int32) (u4 : Int32) (u5 : Int32) (u6 : Int32) (x : XS), bX8_copy_h104 k104 u1 u2 u3 u4 u5 u6 x = some (r, z) → ∀ (H : Heap) (locs : List Loc) (ls : Array Slot), SR G x H locs → lv_has ls 7 [(0, .ref (G.1 + 99)), (1, .int u1), (2, .int u2), (3, .int u3), (4, .int u4), (5, .int u5), (6, .int u6)] → W p l e rmX8_copy s m args below meth c H locs 0 0 (MQ below (QC G (some (.int r)) z) args s 0 0 (AB G)) (F0 m 104 ls []) := by
  intro u1 u2 u3 u4 u5 u6 x hf H locs ls hS hl
  have hx := C.1
  have hb := C.2.1
  have hown := C.2.2.2.2.2.1
  have hw := C.2.2.2.2.2.2.1
  unfold bX8_copy_h104 at hf
  refine lv_iload hx hb dX8_copy_104 (lv_at hl 6 rfl) ?_
  refine lv_iload hx hb dX8_copy_106 (lv_at hl 5 rfl) ?_
  refine lv_icmp_ge (tgt := 138) hx hb dX8_copy_108 (by decide) (fun c_21 => ?_) (fun c_21 => ?_)
  · replace hf := if_p c_21 hf
    refine lv_iconst (v := 0) hx hb dX8_copy_138 (by decide) ?_
    refine lv_istore (lv' := [(6, .int 0), (0, .ref (G.1 + 99)), (1, .int u1), (2, .int u2), (3, .int u3), (4, .int u4), (5, .int u5)]) hx hb dX8_copy_139 hl (by decide) rfl (fun ls hl => ?_)
    exact wX8_copy_h141  C u3 u4 u5 0 x hf _ _ _ hS (lv_sub hl [1, 4, 5, 6, 0] rfl)
  · replace hf := if_n c_21 hf
    refine lv_aload_n hx hb dX8_copy_111 rfl (lv_at hl 0 rfl) ?_
    refine gf7_31 C hS (rfl) g_836 dX8_copy_112 ?_
    refine lv_iload hx hb dX8_copy_115 (lv_at hl 6 rfl) ?_
    refine lv_aload_n hx hb dX8_copy_117 rfl (lv_at hl 0 rfl) ?_
    refine gf7_26 C hS (rfl) g_831 dX8_copy_118 ?_
    refine lv_bipush (v := 24) hx hb dX8_copy_121 (by decide) ?_
    refine lv_iload_n hx hb dX8_copy_123 rfl (lv_at hl 1 rfl) ?_
    refine lv_imul hx hb dX8_copy_124 ?_
    refine lv_iload_n hx hb dX8_copy_125 rfl (lv_at hl 2 rfl) ?_
    refine lv_iadd hx hb dX8_copy_126 ?_
    refine lv_iload hx hb dX8_copy_127 (lv_at hl 6 rfl) ?_
    refine lv_iadd hx hb dX8_copy_129 ?_
    obtain ⟨gg_22, hf⟩ := gd_out hf
    refine alI C hS (rfl) rfl gg_22 dX8_copy_130 ?_
    obtain ⟨gg_23, hf⟩ := gd_out hf
    obtain ⟨x_24, ex_24, hf⟩ := st_out hf
    refine asI C hS (rfl) rfl gg_23 ex_24 dX8_copy_131 (fun H locs hS => ?_)
    obtain ⟨v_25, ev_25, hf⟩ := st_out hf
    refine lv_iinc (v := v_25) (lv' := [(6, .int v_25), (0, .ref (G.1 + 99)), (1, .int u1), (2, .int u2), (3, .int u3), (4, .int u4), (5, .int u5)]) hx hb dX8_copy_132 hl (k := 6) rfl (by rw [ev_25]; rfl) (by decide) rfl (fun ls hl => ?_)
    refine lv_goto (tgt := 104) hx hb dX8_copy_135 (by decide) ?_
    exact hk104 u1 u2 u3 u4 u5 v_25 x_24 hf _ _ _ hS (lv_sub hl [1, 2, 3, 4, 5, 6, 0] rfl)
theorem wlX8_copy_h104 {p : Program} {l : Launch} {e : Env} {s : State} {m : MethodId} {args : Array Value} {below : List Frame} {meth : Method} {c : Code} {G : GT} {r : Int32} {z : XS} (C : CX G p s m args meth c cX8_copy 7 (some .int) RX8) (n : Nat) : ∀ (u1 : Int32) (u2 : Int32) (u3 : Int32) (u4 : Int32) (u5 : Int32) (u6 : Int32) (x : XS), lX8_copy_h104 n u1 u2 u3 u4 u5 u6 x = some (r, z) → ∀ (H : Heap) (locs : List Loc) (ls : Array Slot), SR G x H locs → lv_has ls 7 [(0, .ref (G.1 + 99)), (1, .int u1), (2, .int u2), (3, .int u3), (4, .int u4), (5, .int u5), (6, .int u6)] → W p l e rmX8_copy s m args below meth c H locs 0 0 (MQ below (QC G (some (.int r)) z) args s 0 0 (AB G)) (F0 m 104 ls []) := by
  induction n with
  | zero => intro u1 u2 u3 u4 u5 u6 x hf H locs ls hS hl; exact absurd hf (by intro q; cases q)
  | succ n ih => exact wbX8_copy_h104 C ih
theorem wX8_copy_h104 {p : Program} {l : Launch} {e : Env} {s : State} {m : MethodId} {args : Array Value} {below : List Frame} {meth : Method} {c : Code} {G : GT} {r : Int32} {z : XS} (C : CX G p s m args meth c cX8_copy 7 (some .int) RX8) : ∀ (u1 : Int32) (u2 : Int32) (u3 : Int32) (u4 : Int32) (u5 : Int32) (u6 : Int32) (x : XS), fX8_copy_h104 u1 u2 u3 u4 u5 u6 x = some (r, z) → ∀ (H : Heap) (locs : List Loc) (ls : Array Slot), SR G x H locs → lv_has ls 7 [(0, .ref (G.1 + 99)), (1, .int u1), (2, .int u2), (3, .int u3), (4, .int u4), (5, .int u5), (6, .int u6)] → W p l e rmX8_copy s m args below meth c H locs 0 0 (MQ below (QC G (some (.int r)) z) args s 0 0 (AB G)) (F0 m 104 ls []) := wlX8_copy_h104 C FU
set_option maxRecDepth 100000 in
set_option maxHeartbeats 4000000 in
theorem cX8_copy_ {G : GT} {l : Launch} {v1 : Int32} {v2 : Int32} {v3 : Int32} {v4 : Int32} {v5 : Int32} {x z : XS} {r : Int32} (hf : fX8_copy v1 v2 v3 v4 v5 x = some (r, z)) : Ct G l yX8_copy (.code yX8_copy cX8_copy 7 (some .int)) rmX8_copy [.ref (G.1 + 99), .int v1, .int v2, .int v3, .int v4, .int v5] x (some (.int r)) z := by
  refine Ct.of (by decide +kernel) (Nat.le_of_ble_eq_true rfl) ?_
  intro p e s m args below meth c C ls hl hS
  have C : CX G p s m args meth c cX8_copy 7 (some .int) RX8 := C
  have hl : lv_has ls 7 [(0, .ref (G.1 + 99)), (1, .int v1), (2, .int v2), (3, .int v3), (4, .int v4), (5, .int v5)] := hl
  have hx := C.1
  have hb := C.2.1
  have hown := C.2.2.2.2.2.1
  have hw := C.2.2.2.2.2.2.1
  unfold fX8_copy at hf
  refine lv_iload_n hx hb dX8_copy_0 rfl (lv_at hl 1 rfl) ?_
  obtain ⟨r_1, x_2, qr_1, hf⟩ := bd_out hf
  refine rsI (As := [.int v1]) (rest := []) C hS KX8_isSheet (cX8_isSheet_ qr_1) g_1097 ⟨rfl, rfl⟩ ⟨(Nat.le_of_ble_eq_true rfl), (Nat.le_of_ble_eq_true rfl)⟩ hl.1 rfl rfl (Nat.le_of_ble_eq_true rfl) ⟨Nat.zero_le _, Nat.zero_le _⟩ dX8_copy_1 (fun H locs hS => ?_)
  refine lv_if_eq (tgt := 14) hx hb dX8_copy_4 (by decide) (fun c_3 => ?_) (fun c_3 => ?_)
  · replace hf := if_p c_3 hf
    refine lv_ldc (v := (-1000000001)) hx hb hown (hw _ g_920) dX8_copy_14 ?_
    exact rtI C hS hf dX8_copy_16
  · replace hf := if_n c_3 hf
    refine lv_iload_n hx hb dX8_copy_7 rfl (lv_at hl 3 rfl) ?_
    obtain ⟨r_4, x_5, qr_4, hf⟩ := bd_out hf
    refine rsI (As := [.int v3]) (rest := []) C hS KX8_isSheet (cX8_isSheet_ qr_4) g_1097 ⟨rfl, rfl⟩ ⟨(Nat.le_of_ble_eq_true rfl), (Nat.le_of_ble_eq_true rfl)⟩ hl.1 rfl rfl (Nat.le_of_ble_eq_true rfl) ⟨Nat.zero_le _, Nat.zero_le _⟩ dX8_copy_8 (fun H locs hS => ?_)
    refine lv_if_ne (tgt := 17) hx hb dX8_copy_11 (by decide) (fun c_6 => ?_) (fun c_6 => ?_)
    · replace hf := if_n c_6 hf
      refine lv_aload_n hx hb dX8_copy_17 rfl (lv_at hl 0 rfl) ?_
      refine gf7_24 C hS (rfl) g_829 dX8_copy_18 ?_
      refine lv_iload_n hx hb dX8_copy_21 rfl (lv_at hl 1 rfl) ?_
      obtain ⟨gg_7, hf⟩ := gd_out hf
      refine alI C hS (rfl) rfl gg_7 dX8_copy_22 ?_
      refine lv_if_lt (tgt := 35) hx hb dX8_copy_23 (by decide) (fun c_8 => ?_) (fun c_8 => ?_)
      · replace hf := if_p c_8 hf
        refine lv_ldc (v := (-1000000011)) hx hb hown (hw _ g_1100) dX8_copy_35 ?_
        exact rtI C hS hf dX8_copy_37
      · replace hf := if_n c_8 hf
        refine lv_aload_n hx hb dX8_copy_26 rfl (lv_at hl 0 rfl) ?_
        refine gf7_24 C hS (rfl) g_829 dX8_copy_27 ?_
        refine lv_iload_n hx hb dX8_copy_30 rfl (lv_at hl 3 rfl) ?_
        obtain ⟨gg_9, hf⟩ := gd_out hf
        refine alI C hS (rfl) rfl gg_9 dX8_copy_31 ?_
        refine lv_if_ge (tgt := 38) hx hb dX8_copy_32 (by decide) (fun c_10 => ?_) (fun c_10 => ?_)
        · replace hf := if_p c_10 hf
          refine lv_aload_n hx hb dX8_copy_38 rfl (lv_at hl 0 rfl) ?_
          refine gf7_24 C hS (rfl) g_829 dX8_copy_39 ?_
          refine lv_iload_n hx hb dX8_copy_42 rfl (lv_at hl 1 rfl) ?_
          obtain ⟨gg_11, hf⟩ := gd_out hf
          refine alI C hS (rfl) rfl gg_11 dX8_copy_43 ?_
          refine lv_aload_n hx hb dX8_copy_44 rfl (lv_at hl 0 rfl) ?_
          refine gf7_24 C hS (rfl) g_829 dX8_copy_45 ?_
          refine lv_iload_n hx hb dX8_copy_48 rfl (lv_at hl 3 rfl) ?_
          obtain ⟨gg_12, hf⟩ := gd_out hf
          refine alI C hS (rfl) rfl gg_12 dX8_copy_49 ?_
          refine lv_icmp_eq (tgt := 56) hx hb dX8_copy_50 (by decide) (fun c_13 => ?_) (fun c_13 => ?_)
          · replace hf := if_p c_13 hf
            refine lv_iload_n hx hb dX8_copy_56 rfl (lv_at hl 2 rfl) ?_
            refine lv_if_lt (tgt := 97) hx hb dX8_copy_57 (by decide) (fun c_14 => ?_) (fun c_14 => ?_)
            · replace hf := if_p c_14 hf
              refine lv_ldcw (v := (-1000000013)) hx hb hown (hw _ g_1185) dX8_copy_97 ?_
              exact rtI C hS hf dX8_copy_100
            · replace hf := if_n c_14 hf
              refine lv_iload hx hb dX8_copy_60 (lv_at hl 4 rfl) ?_
              refine lv_if_lt (tgt := 97) hx hb dX8_copy_62 (by decide) (fun c_15 => ?_) (fun c_15 => ?_)
              · replace hf := if_p c_15 hf
                refine lv_ldcw (v := (-1000000013)) hx hb hown (hw _ g_1185) dX8_copy_97 ?_
                exact rtI C hS hf dX8_copy_100
              · replace hf := if_n c_15 hf
                refine lv_iload hx hb dX8_copy_65 (lv_at hl 5 rfl) ?_
                refine lv_if_lt (tgt := 97) hx hb dX8_copy_67 (by decide) (fun c_16 => ?_) (fun c_16 => ?_)
                · replace hf := if_p c_16 hf
                  refine lv_ldcw (v := (-1000000013)) hx hb hown (hw _ g_1185) dX8_copy_97 ?_
                  exact rtI C hS hf dX8_copy_100
                · replace hf := if_n c_16 hf
                  refine lv_iload_n hx hb dX8_copy_70 rfl (lv_at hl 2 rfl) ?_
                  refine lv_aload_n hx hb dX8_copy_71 rfl (lv_at hl 0 rfl) ?_
                  refine gf7_25 C hS (rfl) g_830 dX8_copy_72 ?_
                  refine lv_iload_n hx hb dX8_copy_75 rfl (lv_at hl 1 rfl) ?_
                  obtain ⟨gg_17, hf⟩ := gd_out hf
                  refine alI C hS (rfl) rfl gg_17 dX8_copy_76 ?_
                  refine lv_iload hx hb dX8_copy_77 (lv_at hl 5 rfl) ?_
                  refine lv_isub hx hb dX8_copy_79 ?_
                  refine lv_icmp_gt (tgt := 97) hx hb dX8_copy_80 (by decide) (fun c_18 => ?_) (fun c_18 => ?_)
                  · replace hf := if_p c_18 hf
                    refine lv_ldcw (v := (-1000000013)) hx hb hown (hw _ g_1185) dX8_copy_97 ?_
                    exact rtI C hS hf dX8_copy_100
                  · replace hf := if_n c_18 hf
                    refine lv_iload hx hb dX8_copy_83 (lv_at hl 4 rfl) ?_
                    refine lv_aload_n hx hb dX8_copy_85 rfl (lv_at hl 0 rfl) ?_
                    refine gf7_25 C hS (rfl) g_830 dX8_copy_86 ?_
                    refine lv_iload_n hx hb dX8_copy_89 rfl (lv_at hl 3 rfl) ?_
                    obtain ⟨gg_19, hf⟩ := gd_out hf
                    refine alI C hS (rfl) rfl gg_19 dX8_copy_90 ?_
                    refine lv_iload hx hb dX8_copy_91 (lv_at hl 5 rfl) ?_
                    refine lv_isub hx hb dX8_copy_93 ?_
                    refine lv_icmp_le (tgt := 101) hx hb dX8_copy_94 (by decide) (fun c_20 => ?_) (fun c_20 => ?_)
                    · replace hf := if_p c_20 hf
                      refine lv_iconst (v := 0) hx hb dX8_copy_101 (by decide) ?_
                      refine lv_istore (lv' := [(6, .int 0), (0, .ref (G.1 + 99)), (1, .int v1), (2, .int v2), (3, .int v3), (4, .int v4), (5, .int v5)]) hx hb dX8_copy_102 hl (by decide) rfl (fun ls hl => ?_)
                      exact wX8_copy_h104  C v1 v2 v3 v4 v5 0 x_5 hf _ _ _ hS (lv_sub hl [1, 2, 3, 4, 5, 6, 0] rfl)
                    · replace hf := if_n c_20 hf
                      refine lv_ldcw (v := (-1000000013)) hx hb hown (hw _ g_1185) dX8_copy_97 ?_
                      exact rtI C hS hf dX8_copy_100
          · replace hf := if_n c_13 hf
            refine lv_ldc (v := (-1000000012)) hx hb hown (hw _ g_987) dX8_copy_53 ?_
            exact rtI C hS hf dX8_copy_55
        · replace hf := if_n c_10 hf
          refine lv_ldc (v := (-1000000011)) hx hb hown (hw _ g_1100) dX8_copy_35 ?_
          exact rtI C hS hf dX8_copy_37
    · replace hf := if_p c_6 hf
      refine lv_ldc (v := (-1000000001)) hx hb hown (hw _ g_920) dX8_copy_14 ?_
      exact rtI C hS hf dX8_copy_16
abbrev rmX8_lay : Room := { frames := 2, cells := 0, slots := 0, locals := 44 }
set_option maxRecDepth 100000 in
set_option maxHeartbeats 4000000 in
theorem wbX8_lay_h134 {p : Program} {l : Launch} {e : Env} {s : State} {m : MethodId} {args : Array Value} {below : List Frame} {meth : Method} {c : Code} {G : GT} {r : Int32} {z : XS} (C : CX G p s m args meth c cX8_lay 6 (some .int) RX8) {k134 : Int32 → Int32 → Int32 → Int32 → Int32 → XS → Option (Int32 × XS)} (hk134 : ∀ (u1 : Int32) (u2 : Int32) (u3 : Int32) (u4 : Int32) (u5 : Int32) (x : XS), k134 u1 u2 u3 u4 u5 x = some (r, z) → ∀ (H : Heap) (locs : List Loc) (ls : Array Slot), SR G x H locs → lv_has ls 6 [(0, .ref (G.1 + 99)), (1, .int u1), (2, .int u2), (3, .int u3), (4, .int u4), (5, .int u5)] → W p l e rmX8_lay s m args below meth c H locs 0 0 (MQ below (QC G (some (.int r)) z) args s 0 0 (AB G)) (F0 m 134 ls [])) : ∀ (u1 : Int32) (u2 : Int32) (u3 : Int32) (u4 : Int32) (u5 : Int32) (x : XS), bX8_lay_h134 k134 u1 u2 u3 u4 u5 x = some (r, z) → ∀ (H : Heap) (locs : List Loc) (ls : Array Slot), SR G x H locs → lv_has ls 6 [(0, .ref (G.1 + 99)), (1, .int u1), (2, .int u2), (3, .int u3), (4, .int u4), (5, .int u5)] → W p l e rmX8_lay s m args below meth c H locs 0 0 (MQ below (QC G (some (.int r)) z) args s 0 0 (AB G)) (F0 m 134 ls []) := by
  intro u1 u2 u3 u4 u5 x hf H locs ls hS hl
  have hx := C.1
  have hb := C.2.1
  have hown := C.2.2.2.2.2.1
  have hw := C.2.2.2.2.2.2.1
  unfold bX8_lay_h134 at hf
  refine lv_iload hx hb dX8_lay_134 (lv_at hl 5 rfl) ?_
  refine lv_bipush (v := 24) hx hb dX8_lay_136 (by decide) ?_
  refine lv_icmp_ge (tgt := 176) hx hb dX8_lay_138 (by decide) (fun c_36 => ?_) (fun c_36 => ?_)
  · replace hf := if_p c_36 hf
    refine lv_iload hx hb dX8_lay_176 (lv_at hl 4 rfl) ?_
    exact rtI C hS hf dX8_lay_178
  · replace hf := if_n c_36 hf
    refine lv_iload_n hx hb dX8_lay_141 rfl (lv_at hl 2 rfl) ?_
    refine lv_iconst (v := 2) hx hb dX8_lay_142 (by decide) ?_
    refine lv_icmp_ne (tgt := 176) hx hb dX8_lay_143 (by decide) (fun c_37 => ?_) (fun c_37 => ?_)
    · replace hf := if_n c_37 hf
      refine lv_iload hx hb dX8_lay_176 (lv_at hl 4 rfl) ?_
      exact rtI C hS hf dX8_lay_178
    · replace hf := if_p c_37 hf
      refine lv_aload_n hx hb dX8_lay_146 rfl (lv_at hl 0 rfl) ?_
      refine gf7_30 C hS (rfl) g_835 dX8_lay_147 ?_
      refine lv_bipush (v := 24) hx hb dX8_lay_150 (by decide) ?_
      refine lv_iload_n hx hb dX8_lay_152 rfl (lv_at hl 1 rfl) ?_
      refine lv_imul hx hb dX8_lay_153 ?_
      refine lv_iload hx hb dX8_lay_154 (lv_at hl 5 rfl) ?_
      refine lv_iadd hx hb dX8_lay_156 ?_
      refine lv_aload_n hx hb dX8_lay_157 rfl (lv_at hl 0 rfl) ?_
      refine gf7_26 C hS (rfl) g_831 dX8_lay_158 ?_
      refine lv_bipush (v := 24) hx hb dX8_lay_161 (by decide) ?_
      refine lv_iload_n hx hb dX8_lay_163 rfl (lv_at hl 3 rfl) ?_
      refine lv_imul hx hb dX8_lay_164 ?_
      refine lv_iload hx hb dX8_lay_165 (lv_at hl 5 rfl) ?_
      refine lv_iadd hx hb dX8_lay_167 ?_
      obtain ⟨gg_38, hf⟩ := gd_out hf
      refine alI C hS (rfl) rfl gg_38 dX8_lay_168 ?_
      obtain ⟨gg_39, hf⟩ := gd_out hf
      obtain ⟨x_40, ex_40, hf⟩ := st_out hf
      refine asI C hS (rfl) rfl gg_39 ex_40 dX8_lay_169 (fun H locs hS => ?_)
      obtain ⟨v_41, ev_41, hf⟩ := st_out hf
      refine lv_iinc (v := v_41) (lv' := [(5, .int v_41), (0, .ref (G.1 + 99)), (1, .int u1), (2, .int u2), (3, .int u3), (4, .int u4)]) hx hb dX8_lay_170 hl (k := 5) rfl (by rw [ev_41]; rfl) (by decide) rfl (fun ls hl => ?_)
      refine lv_goto (tgt := 134) hx hb dX8_lay_173 (by decide) ?_
      exact hk134 u1 u2 u3 u4 v_41 x_40 hf _ _ _ hS (lv_sub hl [1, 2, 3, 4, 5, 0] rfl)
theorem wlX8_lay_h134 {p : Program} {l : Launch} {e : Env} {s : State} {m : MethodId} {args : Array Value} {below : List Frame} {meth : Method} {c : Code} {G : GT} {r : Int32} {z : XS} (C : CX G p s m args meth c cX8_lay 6 (some .int) RX8) (n : Nat) : ∀ (u1 : Int32) (u2 : Int32) (u3 : Int32) (u4 : Int32) (u5 : Int32) (x : XS), lX8_lay_h134 n u1 u2 u3 u4 u5 x = some (r, z) → ∀ (H : Heap) (locs : List Loc) (ls : Array Slot), SR G x H locs → lv_has ls 6 [(0, .ref (G.1 + 99)), (1, .int u1), (2, .int u2), (3, .int u3), (4, .int u4), (5, .int u5)] → W p l e rmX8_lay s m args below meth c H locs 0 0 (MQ below (QC G (some (.int r)) z) args s 0 0 (AB G)) (F0 m 134 ls []) := by
  induction n with
  | zero => intro u1 u2 u3 u4 u5 x hf H locs ls hS hl; exact absurd hf (by intro q; cases q)
  | succ n ih => exact wbX8_lay_h134 C ih
theorem wX8_lay_h134 {p : Program} {l : Launch} {e : Env} {s : State} {m : MethodId} {args : Array Value} {below : List Frame} {meth : Method} {c : Code} {G : GT} {r : Int32} {z : XS} (C : CX G p s m args meth c cX8_lay 6 (some .int) RX8) : ∀ (u1 : Int32) (u2 : Int32) (u3 : Int32) (u4 : Int32) (u5 : Int32) (x : XS), fX8_lay_h134 u1 u2 u3 u4 u5 x = some (r, z) → ∀ (H : Heap) (locs : List Loc) (ls : Array Slot), SR G x H locs → lv_has ls 6 [(0, .ref (G.1 + 99)), (1, .int u1), (2, .int u2), (3, .int u3), (4, .int u4), (5, .int u5)] → W p l e rmX8_lay s m args below meth c H locs 0 0 (MQ below (QC G (some (.int r)) z) args s 0 0 (AB G)) (F0 m 134 ls []) := wlX8_lay_h134 C FU
set_option maxRecDepth 100000 in
set_option maxHeartbeats 4000000 in
theorem wX8_lay_h110 {p : Program} {l : Launch} {e : Env} {s : State} {m : MethodId} {args : Array Value} {below : List Frame} {meth : Method} {c : Code} {G : GT} {r : Int32} {z : XS} (C : CX G p s m args meth c cX8_lay 6 (some .int) RX8) : ∀ (u1 : Int32) (u2 : Int32) (u3 : Int32) (u4 : Int32) (s1 : Int32) (s2 : Int32) (x : XS), fX8_lay_h110 u1 u2 u3 u4 s1 s2 x = some (r, z) → ∀ (H : Heap) (locs : List Loc) (ls : Array Slot), SR G x H locs → lv_has ls 6 [(0, .ref (G.1 + 99)), (1, .int u1), (2, .int u2), (3, .int u3), (4, .int u4)] → W p l e rmX8_lay s m args below meth c H locs 0 0 (MQ below (QC G (some (.int r)) z) args s 0 0 (AB G)) (F0 m 110 ls [.int s2, .int s1, .ref (G.1 + 116)]) := by
  intro u1 u2 u3 u4 s1 s2 x hf H locs ls hS hl
  have hx := C.1
  have hb := C.2.1
  have hown := C.2.2.2.2.2.1
  have hw := C.2.2.2.2.2.2.1
  unfold fX8_lay_h110 at hf
  obtain ⟨gg_27, hf⟩ := gd_out hf
  obtain ⟨x_28, ex_28, hf⟩ := st_out hf
  refine asI C hS (rfl) rfl gg_27 ex_28 dX8_lay_110 (fun H locs hS => ?_)
  refine lv_aload_n hx hb dX8_lay_111 rfl (lv_at hl 0 rfl) ?_
  refine gf7_29 C hS (rfl) g_834 dX8_lay_112 ?_
  refine lv_iload_n hx hb dX8_lay_115 rfl (lv_at hl 1 rfl) ?_
  refine lv_iload_n hx hb dX8_lay_116 rfl (lv_at hl 2 rfl) ?_
  refine lv_iconst (v := 1) hx hb dX8_lay_117 (by decide) ?_
  refine lv_icmp_ne (tgt := 129) hx hb dX8_lay_118 (by decide) (fun c_29 => ?_) (fun c_29 => ?_)
  · replace hf := if_n c_29 hf
    refine lv_iconst (v := 0) hx hb dX8_lay_129 (by decide) ?_
    obtain ⟨gg_30, hf⟩ := gd_out hf
    obtain ⟨x_31, ex_31, hf⟩ := st_out hf
    refine asI C hS (rfl) rfl gg_30 ex_31 dX8_lay_130 (fun H locs hS => ?_)
    refine lv_iconst (v := 0) hx hb dX8_lay_131 (by decide) ?_
    refine lv_istore (lv' := [(5, .int 0), (0, .ref (G.1 + 99)), (1, .int u1), (2, .int u2), (3, .int u3), (4, .int u4)]) hx hb dX8_lay_132 hl (by decide) rfl (fun ls hl => ?_)
    exact wX8_lay_h134  C u1 u2 u3 u4 0 x_31 hf _ _ _ hS (lv_sub hl [1, 2, 3, 4, 5, 0] rfl)
  · replace hf := if_p c_29 hf
    refine lv_aload_n hx hb dX8_lay_121 rfl (lv_at hl 0 rfl) ?_
    refine lv_iload_n hx hb dX8_lay_122 rfl (lv_at hl 3 rfl) ?_
    obtain ⟨r_32, x_33, qr_32, hf⟩ := bd_out hf
    refine rvI (As := [.int u3]) (rest := [.int u1, .ref (G.1 + 117)]) C hS (rfl) rfl KX8_worthOf (cX8_worthOf_ qr_32) g_950 ⟨rfl, rfl⟩ ⟨(Nat.le_of_ble_eq_true rfl), (Nat.le_of_ble_eq_true rfl)⟩ hl.1 rfl rfl (Nat.le_of_ble_eq_true rfl) ⟨Nat.zero_le _, Nat.zero_le _⟩ dX8_lay_123 (fun H locs hS => ?_)
    refine lv_goto (tgt := 130) hx hb dX8_lay_126 (by decide) ?_
    obtain ⟨gg_34, hf⟩ := gd_out hf
    obtain ⟨x_35, ex_35, hf⟩ := st_out hf
    refine asI C hS (rfl) rfl gg_34 ex_35 dX8_lay_130 (fun H locs hS => ?_)
    refine lv_iconst (v := 0) hx hb dX8_lay_131 (by decide) ?_
    refine lv_istore (lv' := [(5, .int 0), (0, .ref (G.1 + 99)), (1, .int u1), (2, .int u2), (3, .int u3), (4, .int u4)]) hx hb dX8_lay_132 hl (by decide) rfl (fun ls hl => ?_)
    exact wX8_lay_h134  C u1 u2 u3 u4 0 x_35 hf _ _ _ hS (lv_sub hl [1, 2, 3, 4, 5, 0] rfl)
set_option maxRecDepth 100000 in
set_option maxHeartbeats 4000000 in
theorem wX8_lay_h61 {p : Program} {l : Launch} {e : Env} {s : State} {m : MethodId} {args : Array Value} {below : List Frame} {meth : Method} {c : Code} {G : GT} {r : Int32} {z : XS} (C : CX G p s m args meth c cX8_lay 6 (some .int) RX8) : ∀ (u1 : Int32) (u2 : Int32) (u3 : Int32) (x : XS), fX8_lay_h61 u1 u2 u3 x = some (r, z) → ∀ (H : Heap) (locs : List Loc) (ls : Array Slot), SR G x H locs → lv_has ls 6 [(0, .ref (G.1 + 99)), (1, .int u1), (2, .int u2), (3, .int u3)] → W p l e rmX8_lay s m args below meth c H locs 0 0 (MQ below (QC G (some (.int r)) z) args s 0 0 (AB G)) (F0 m 61 ls []) := by
  intro u1 u2 u3 x hf H locs ls hS hl
  have hx := C.1
  have hb := C.2.1
  have hown := C.2.2.2.2.2.1
  have hw := C.2.2.2.2.2.2.1
  unfold fX8_lay_h61 at hf
  refine lv_aload_n hx hb dX8_lay_61 rfl (lv_at hl 0 rfl) ?_
  refine gf7_27 C hS (rfl) g_832 dX8_lay_62 ?_
  refine lv_iload_n hx hb dX8_lay_65 rfl (lv_at hl 1 rfl) ?_
  obtain ⟨gg_18, hf⟩ := gd_out hf
  refine alI C hS (rfl) rfl gg_18 dX8_lay_66 ?_
  obtain ⟨v_19, ev_19, hf⟩ := st_out hf
  refine topI ev_19 ?_
  refine lv_istore (lv' := [(4, .int v_19), (0, .ref (G.1 + 99)), (1, .int u1), (2, .int u2), (3, .int u3)]) hx hb dX8_lay_67 hl (by decide) rfl (fun ls hl => ?_)
  refine lv_aload_n hx hb dX8_lay_69 rfl (lv_at hl 1 rfl) ?_
  refine gf7_27 C hS (rfl) g_832 dX8_lay_70 ?_
  refine lv_iload_n hx hb dX8_lay_73 rfl (lv_at hl 2 rfl) ?_
  refine lv_iload_n hx hb dX8_lay_74 rfl (lv_at hl 3 rfl) ?_
  obtain ⟨gg_20, hf⟩ := gd_out hf
  obtain ⟨x_21, ex_21, hf⟩ := st_out hf
  refine asI C hS (rfl) rfl gg_20 ex_21 dX8_lay_75 (fun H locs hS => ?_)
  refine lv_aload_n hx hb dX8_lay_76 rfl (lv_at hl 1 rfl) ?_
  refine gf7_28 C hS (rfl) g_833 dX8_lay_77 ?_
  refine lv_iload_n hx hb dX8_lay_80 rfl (lv_at hl 2 rfl) ?_
  refine lv_iload_n hx hb dX8_lay_81 rfl (lv_at hl 3 rfl) ?_
  refine lv_iconst (v := 1) hx hb dX8_lay_82 (by decide) ?_
  refine lv_icmp_ne (tgt := 95) hx hb dX8_lay_83 (by decide) (fun c_22 => ?_) (fun c_22 => ?_)
  · replace hf := if_n c_22 hf
    refine lv_iload_n hx hb dX8_lay_95 rfl (lv_at hl 3 rfl) ?_
    refine lv_iconst (v := 2) hx hb dX8_lay_96 (by decide) ?_
    refine lv_icmp_ne (tgt := 109) hx hb dX8_lay_97 (by decide) (fun c_23 => ?_) (fun c_23 => ?_)
    · replace hf := if_n c_23 hf
      refine lv_iload_n hx hb dX8_lay_109 rfl (lv_at hl 4 rfl) ?_
      exact wX8_lay_h110  C u1 u2 u3 v_19 u1 u3 x_21 hf _ _ _ hS (lv_sub hl [1, 2, 3, 4, 0] rfl)
    · replace hf := if_p c_23 hf
      refine lv_aload_n hx hb dX8_lay_100 rfl (lv_at hl 1 rfl) ?_
      refine gf7_25 C hS (rfl) g_830 dX8_lay_101 ?_
      refine lv_iload_n hx hb dX8_lay_104 rfl (lv_at hl 4 rfl) ?_
      obtain ⟨gg_24, hf⟩ := gd_out hf
      refine alI C hS (rfl) rfl gg_24 dX8_lay_105 ?_
      refine lv_goto (tgt := 110) hx hb dX8_lay_106 (by decide) ?_
      exact wX8_lay_h110  C u1 u2 u3 v_19 u1 (x_21 113 (ix u3)) x_21 hf _ _ _ hS (lv_sub hl [1, 2, 3, 4, 0] rfl)
  · replace hf := if_p c_22 hf
    refine lv_aload_n hx hb dX8_lay_86 rfl (lv_at hl 1 rfl) ?_
    refine lv_iload_n hx hb dX8_lay_87 rfl (lv_at hl 4 rfl) ?_
    refine lv_iconst (v := 0) hx hb dX8_lay_88 (by decide) ?_
    obtain ⟨r_25, x_26, qr_25, hf⟩ := bd_out hf
    refine rvI (As := [.int u3, .int 0]) (rest := [.int u1, .ref (G.1 + 116)]) C hS (rfl) rfl KX8_of (cX8_of_ qr_25) g_938 ⟨rfl, rfl⟩ ⟨(Nat.le_of_ble_eq_true rfl), (Nat.le_of_ble_eq_true rfl)⟩ hl.1 rfl rfl (Nat.le_of_ble_eq_true rfl) ⟨Nat.zero_le _, Nat.zero_le _⟩ dX8_lay_89 (fun H locs hS => ?_)
    refine lv_goto (tgt := 110) hx hb dX8_lay_92 (by decide) ?_
    exact wX8_lay_h110  C u1 u2 u3 v_19 u1 r_25 x_26 hf _ _ _ hS (lv_sub hl [1, 2, 3, 4, 0] rfl)
set_option maxRecDepth 100000 in
set_option maxHeartbeats 4000000 in
theorem wX8_lay_h44 {p : Program} {l : Launch} {e : Env} {s : State} {m : MethodId} {args : Array Value} {below : List Frame} {meth : Method} {c : Code} {G : GT} {r : Int32} {z : XS} (C : CX G p s m args meth c cX8_lay 6 (some .int) RX8) : ∀ (u1 : Int32) (u2 : Int32) (u3 : Int32) (x : XS), fX8_lay_h44 u1 u2 u3 x = some (r, z) → ∀ (H : Heap) (locs : List Loc) (ls : Array Slot), SR G x H locs → lv_has ls 6 [(0, .ref (G.1 + 99)), (1, .int u1), (2, .int u2), (3, .int u3)] → W p l e rmX8_lay s m args below meth c H locs 0 0 (MQ below (QC G (some (.int r)) z) args s 0 0 (AB G)) (F0 m 44 ls []) := by
  intro u1 u2 u3 x hf H locs ls hS hl
  have hx := C.1
  have hb := C.2.1
  have hown := C.2.2.2.2.2.1
  have hw := C.2.2.2.2.2.2.1
  unfold fX8_lay_h44 at hf
  refine lv_iload_n hx hb dX8_lay_44 rfl (lv_at hl 2 rfl) ?_
  refine lv_iconst (v := 2) hx hb dX8_lay_45 (by decide) ?_
  refine lv_icmp_ne (tgt := 61) hx hb dX8_lay_46 (by decide) (fun c_15 => ?_) (fun c_15 => ?_)
  · replace hf := if_n c_15 hf
    exact wX8_lay_h61  C u1 u2 u3 x hf _ _ _ hS (lv_sub hl [0, 1, 2, 3] rfl)
  · replace hf := if_p c_15 hf
    refine lv_aload_n hx hb dX8_lay_49 rfl (lv_at hl 0 rfl) ?_
    refine gf7_24 C hS (rfl) g_829 dX8_lay_50 ?_
    refine lv_iload_n hx hb dX8_lay_53 rfl (lv_at hl 3 rfl) ?_
    obtain ⟨gg_16, hf⟩ := gd_out hf
    refine alI C hS (rfl) rfl gg_16 dX8_lay_54 ?_
    refine lv_if_ge (tgt := 61) hx hb dX8_lay_55 (by decide) (fun c_17 => ?_) (fun c_17 => ?_)
    · replace hf := if_p c_17 hf
      exact wX8_lay_h61  C u1 u2 u3 x hf _ _ _ hS (lv_sub hl [0, 1, 2, 3] rfl)
    · replace hf := if_n c_17 hf
      refine lv_ldc (v := (-1000000011)) hx hb hown (hw _ g_1100) dX8_lay_58 ?_
      exact rtI C hS hf dX8_lay_60
set_option maxRecDepth 100000 in
set_option maxHeartbeats 4000000 in
theorem wX8_lay_h29 {p : Program} {l : Launch} {e : Env} {s : State} {m : MethodId} {args : Array Value} {below : List Frame} {meth : Method} {c : Code} {G : GT} {r : Int32} {z : XS} (C : CX G p s m args meth c cX8_lay 6 (some .int) RX8) : ∀ (u1 : Int32) (u2 : Int32) (u3 : Int32) (x : XS), fX8_lay_h29 u1 u2 u3 x = some (r, z) → ∀ (H : Heap) (locs : List Loc) (ls : Array Slot), SR G x H locs → lv_has ls 6 [(0, .ref (G.1 + 99)), (1, .int u1), (2, .int u2), (3, .int u3)] → W p l e rmX8_lay s m args below meth c H locs 0 0 (MQ below (QC G (some (.int r)) z) args s 0 0 (AB G)) (F0 m 29 ls []) := by
  intro u1 u2 u3 x hf H locs ls hS hl
  have hx := C.1
  have hb := C.2.1
  have hown := C.2.2.2.2.2.1
  have hw := C.2.2.2.2.2.2.1
  unfold fX8_lay_h29 at hf
  refine lv_iload_n hx hb dX8_lay_29 rfl (lv_at hl 2 rfl) ?_
  refine lv_iconst (v := 2) hx hb dX8_lay_30 (by decide) ?_
  refine lv_icmp_ne (tgt := 44) hx hb dX8_lay_31 (by decide) (fun c_11 => ?_) (fun c_11 => ?_)
  · replace hf := if_n c_11 hf
    exact wX8_lay_h44  C u1 u2 u3 x hf _ _ _ hS (lv_sub hl [0, 1, 2, 3] rfl)
  · replace hf := if_p c_11 hf
    refine lv_iload_n hx hb dX8_lay_34 rfl (lv_at hl 3 rfl) ?_
    obtain ⟨r_12, x_13, qr_12, hf⟩ := bd_out hf
    refine rsI (As := [.int u3]) (rest := []) C hS KX8_isSheet (cX8_isSheet_ qr_12) g_1097 ⟨rfl, rfl⟩ ⟨(Nat.le_of_ble_eq_true rfl), (Nat.le_of_ble_eq_true rfl)⟩ hl.1 rfl rfl (Nat.le_of_ble_eq_true rfl) ⟨Nat.zero_le _, Nat.zero_le _⟩ dX8_lay_35 (fun H locs hS => ?_)
    refine lv_if_ne (tgt := 44) hx hb dX8_lay_38 (by decide) (fun c_14 => ?_) (fun c_14 => ?_)
    · replace hf := if_n c_14 hf
      exact wX8_lay_h44  C u1 u2 u3 x_13 hf _ _ _ hS (lv_sub hl [0, 1, 2, 3] rfl)
    · replace hf := if_p c_14 hf
      refine lv_ldc (v := (-1000000001)) hx hb hown (hw _ g_920) dX8_lay_41 ?_
      exact rtI C hS hf dX8_lay_43
set_option maxRecDepth 100000 in
set_option maxHeartbeats 4000000 in
theorem cX8_lay_ {G : GT} {l : Launch} {v1 : Int32} {v2 : Int32} {v3 : Int32} {x z : XS} {r : Int32} (hf : fX8_lay v1 v2 v3 x = some (r, z)) : Ct G l yX8_lay (.code yX8_lay cX8_lay 6 (some .int)) rmX8_lay [.ref (G.1 + 99), .int v1, .int v2, .int v3] x (some (.int r)) z := by
  refine Ct.of (by decide +kernel) (Nat.le_of_ble_eq_true rfl) ?_
  intro p e s m args below meth c C ls hl hS
  have C : CX G p s m args meth c cX8_lay 6 (some .int) RX8 := C
  have hl : lv_has ls 6 [(0, .ref (G.1 + 99)), (1, .int v1), (2, .int v2), (3, .int v3)] := hl
  have hx := C.1
  have hb := C.2.1
  have hown := C.2.2.2.2.2.1
  have hw := C.2.2.2.2.2.2.1
  unfold fX8_lay at hf
  refine lv_iload_n hx hb dX8_lay_0 rfl (lv_at hl 1 rfl) ?_
  obtain ⟨r_1, x_2, qr_1, hf⟩ := bd_out hf
  refine rsI (As := [.int v1]) (rest := []) C hS KX8_isSlot (cX8_isSlot_ qr_1) g_1204 ⟨rfl, rfl⟩ ⟨(Nat.le_of_ble_eq_true rfl), (Nat.le_of_ble_eq_true rfl)⟩ hl.1 rfl rfl (Nat.le_of_ble_eq_true rfl) ⟨Nat.zero_le _, Nat.zero_le _⟩ dX8_lay_1 (fun H locs hS => ?_)
  refine lv_if_eq (tgt := 41) hx hb dX8_lay_4 (by decide) (fun c_3 => ?_) (fun c_3 => ?_)
  · replace hf := if_p c_3 hf
    refine lv_ldc (v := (-1000000001)) hx hb hown (hw _ g_920) dX8_lay_41 ?_
    exact rtI C hS hf dX8_lay_43
  · replace hf := if_n c_3 hf
    refine lv_iload_n hx hb dX8_lay_7 rfl (lv_at hl 2 rfl) ?_
    refine lv_iconst (v := 0) hx hb dX8_lay_8 (by decide) ?_
    refine lv_iconst (v := 3) hx hb dX8_lay_9 (by decide) ?_
    obtain ⟨r_4, x_5, qr_4, hf⟩ := bd_out hf
    refine rsI (As := [.int v2, .int 0, .int 3]) (rest := []) C hS KX8_in (cX8_in_ qr_4) g_914 ⟨rfl, rfl⟩ ⟨(Nat.le_of_ble_eq_true rfl), (Nat.le_of_ble_eq_true rfl)⟩ hl.1 rfl rfl (Nat.le_of_ble_eq_true rfl) ⟨Nat.zero_le _, Nat.zero_le _⟩ dX8_lay_10 (fun H locs hS => ?_)
    refine lv_if_eq (tgt := 41) hx hb dX8_lay_13 (by decide) (fun c_6 => ?_) (fun c_6 => ?_)
    · replace hf := if_p c_6 hf
      refine lv_ldc (v := (-1000000001)) hx hb hown (hw _ g_920) dX8_lay_41 ?_
      exact rtI C hS hf dX8_lay_43
    · replace hf := if_n c_6 hf
      refine lv_iload_n hx hb dX8_lay_16 rfl (lv_at hl 2 rfl) ?_
      refine lv_iconst (v := 1) hx hb dX8_lay_17 (by decide) ?_
      refine lv_icmp_ne (tgt := 29) hx hb dX8_lay_18 (by decide) (fun c_7 => ?_) (fun c_7 => ?_)
      · replace hf := if_n c_7 hf
        exact wX8_lay_h29  C v1 v2 v3 x_5 hf _ _ _ hS (lv_sub hl [0, 1, 2, 3] rfl)
      · replace hf := if_p c_7 hf
        refine lv_aload_n hx hb dX8_lay_21 rfl (lv_at hl 0 rfl) ?_
        refine lv_iload_n hx hb dX8_lay_22 rfl (lv_at hl 3 rfl) ?_
        obtain ⟨r_8, x_9, qr_8, hf⟩ := bd_out hf
        refine rvI (As := [.int v3]) (rest := []) C hS (rfl) rfl KX8_isBoy (cX8_isBoy_ qr_8) g_934 ⟨rfl, rfl⟩ ⟨(Nat.le_of_ble_eq_true rfl), (Nat.le_of_ble_eq_true rfl)⟩ hl.1 rfl rfl (Nat.le_of_ble_eq_true rfl) ⟨Nat.zero_le _, Nat.zero_le _⟩ dX8_lay_23 (fun H locs hS => ?_)
        refine lv_if_eq (tgt := 41) hx hb dX8_lay_26 (by decide) (fun c_10 => ?_) (fun c_10 => ?_)
        · replace hf := if_p c_10 hf
          refine lv_ldc (v := (-1000000001)) hx hb hown (hw _ g_920) dX8_lay_41 ?_
          exact rtI C hS hf dX8_lay_43
        · replace hf := if_n c_10 hf
          exact wX8_lay_h29  C v1 v2 v3 x_9 hf _ _ _ hS (lv_sub hl [0, 1, 2, 3] rfl)
abbrev rmX8_ask : Room := { frames := 2, cells := 0, slots := 0, locals := 42 }
set_option maxRecDepth 100000 in
set_option maxHeartbeats 4000000 in
theorem cX8_ask_ {G : GT} {l : Launch} {v1 : Int32} {v2 : Int32} {x z : XS} {r : Int32} (hf : fX8_ask v1 v2 x = some (r, z)) : Ct G l yX8_ask (.code yX8_ask cX8_ask 3 (some .int)) rmX8_ask [.ref (G.1 + 99), .int v1, .int v2] x (some (.int r)) z := by
  refine Ct.of (by decide +kernel) (Nat.le_of_ble_eq_true rfl) ?_
  intro p e s m args below meth c C ls hl hS
  have C : CX G p s m args meth c cX8_ask 3 (some .int) RX8 := C
  have hl : lv_has ls 3 [(0, .ref (G.1 + 99)), (1, .int v1), (2, .int v2)] := hl
  have hx := C.1
  have hb := C.2.1
  have hown := C.2.2.2.2.2.1
  have hw := C.2.2.2.2.2.2.1
  unfold fX8_ask at hf
  refine lv_iload_n hx hb dX8_ask_0 rfl (lv_at hl 1 rfl) ?_
  obtain ⟨r_1, x_2, qr_1, hf⟩ := bd_out hf
  refine rsI (As := [.int v1]) (rest := []) C hS KX8_isSlot (cX8_isSlot_ qr_1) g_1204 ⟨rfl, rfl⟩ ⟨(Nat.le_of_ble_eq_true rfl), (Nat.le_of_ble_eq_true rfl)⟩ hl.1 rfl rfl (Nat.le_of_ble_eq_true rfl) ⟨Nat.zero_le _, Nat.zero_le _⟩ dX8_ask_1 (fun H locs hS => ?_)
  refine lv_if_eq (tgt := 16) hx hb dX8_ask_4 (by decide) (fun c_3 => ?_) (fun c_3 => ?_)
  · replace hf := if_p c_3 hf
    refine lv_ldc (v := (-1000000001)) hx hb hown (hw _ g_920) dX8_ask_16 ?_
    exact rtI C hS hf dX8_ask_18
  · replace hf := if_n c_3 hf
    refine lv_iload_n hx hb dX8_ask_7 rfl (lv_at hl 2 rfl) ?_
    refine lv_iconst (v := 0) hx hb dX8_ask_8 (by decide) ?_
    refine lv_iconst (v := 5) hx hb dX8_ask_9 (by decide) ?_
    obtain ⟨r_4, x_5, qr_4, hf⟩ := bd_out hf
    refine rsI (As := [.int v2, .int 0, .int 5]) (rest := []) C hS KX8_in (cX8_in_ qr_4) g_914 ⟨rfl, rfl⟩ ⟨(Nat.le_of_ble_eq_true rfl), (Nat.le_of_ble_eq_true rfl)⟩ hl.1 rfl rfl (Nat.le_of_ble_eq_true rfl) ⟨Nat.zero_le _, Nat.zero_le _⟩ dX8_ask_10 (fun H locs hS => ?_)
    refine lv_if_ne (tgt := 19) hx hb dX8_ask_13 (by decide) (fun c_6 => ?_) (fun c_6 => ?_)
    · replace hf := if_n c_6 hf
      refine lv_aload_n hx hb dX8_ask_19 rfl (lv_at hl 0 rfl) ?_
      refine gf7_27 C hS (rfl) g_832 dX8_ask_20 ?_
      refine lv_iload_n hx hb dX8_ask_23 rfl (lv_at hl 1 rfl) ?_
      obtain ⟨gg_7, hf⟩ := gd_out hf
      refine alI C hS (rfl) rfl gg_7 dX8_ask_24 ?_
      refine lv_if_ne (tgt := 31) hx hb dX8_ask_25 (by decide) (fun c_8 => ?_) (fun c_8 => ?_)
      · replace hf := if_n c_8 hf
        refine lv_aload_n hx hb dX8_ask_31 rfl (lv_at hl 0 rfl) ?_
        refine gf7_27 C hS (rfl) g_832 dX8_ask_32 ?_
        refine lv_iload_n hx hb dX8_ask_35 rfl (lv_at hl 1 rfl) ?_
        obtain ⟨gg_9, hf⟩ := gd_out hf
        refine alI C hS (rfl) rfl gg_9 dX8_ask_36 ?_
        refine lv_iconst (v := 1) hx hb dX8_ask_37 (by decide) ?_
        refine lv_icmp_ne (tgt := 63) hx hb dX8_ask_38 (by decide) (fun c_10 => ?_) (fun c_10 => ?_)
        · replace hf := if_n c_10 hf
          refine lv_ldc (v := (-1000000012)) hx hb hown (hw _ g_987) dX8_ask_63 ?_
          exact rtI C hS hf dX8_ask_65
        · replace hf := if_p c_10 hf
          refine lv_aload_n hx hb dX8_ask_41 rfl (lv_at hl 0 rfl) ?_
          refine gf7_28 C hS (rfl) g_833 dX8_ask_42 ?_
          refine lv_iload_n hx hb dX8_ask_45 rfl (lv_at hl 1 rfl) ?_
          obtain ⟨gg_11, hf⟩ := gd_out hf
          refine alI C hS (rfl) rfl gg_11 dX8_ask_46 ?_
          refine lv_iload_n hx hb dX8_ask_47 rfl (lv_at hl 2 rfl) ?_
          obtain ⟨r_12, x_13, qr_12, hf⟩ := bd_out hf
          refine rsI (As := [.int (x_5 116 (ix v1)), .int v2]) (rest := []) C hS KX8_isUnder (cX8_isUnder_ qr_12) g_984 ⟨rfl, rfl⟩ ⟨(Nat.le_of_ble_eq_true rfl), (Nat.le_of_ble_eq_true rfl)⟩ hl.1 rfl rfl (Nat.le_of_ble_eq_true rfl) ⟨Nat.zero_le _, Nat.zero_le _⟩ dX8_ask_48 (fun H locs hS => ?_)
          refine lv_if_eq (tgt := 63) hx hb dX8_ask_51 (by decide) (fun c_14 => ?_) (fun c_14 => ?_)
          · replace hf := if_p c_14 hf
            refine lv_ldc (v := (-1000000012)) hx hb hown (hw _ g_987) dX8_ask_63 ?_
            exact rtI C hS hf dX8_ask_65
          · replace hf := if_n c_14 hf
            refine lv_aload_n hx hb dX8_ask_54 rfl (lv_at hl 0 rfl) ?_
            refine gf7_29 C hS (rfl) g_834 dX8_ask_55 ?_
            refine lv_iload_n hx hb dX8_ask_58 rfl (lv_at hl 1 rfl) ?_
            obtain ⟨gg_15, hf⟩ := gd_out hf
            refine alI C hS (rfl) rfl gg_15 dX8_ask_59 ?_
            refine lv_goto (tgt := 65) hx hb dX8_ask_60 (by decide) ?_
            exact rtI C hS hf dX8_ask_65
      · replace hf := if_p c_8 hf
        refine lv_ldc (v := (-1000000011)) hx hb hown (hw _ g_1100) dX8_ask_28 ?_
        exact rtI C hS hf dX8_ask_30
    · replace hf := if_p c_6 hf
      refine lv_ldc (v := (-1000000001)) hx hb hown (hw _ g_920) dX8_ask_16 ?_
      exact rtI C hS hf dX8_ask_18
abbrev rmX8_item : Room := { frames := 2, cells := 0, slots := 0, locals := 42 }
set_option maxRecDepth 100000 in
set_option maxHeartbeats 4000000 in
theorem cX8_item_ {G : GT} {l : Launch} {v1 : Int32} {v2 : Int32} {x z : XS} {r : Int32} (hf : fX8_item v1 v2 x = some (r, z)) : Ct G l yX8_item (.code yX8_item cX8_item 4 (some .int)) rmX8_item [.ref (G.1 + 99), .int v1, .int v2] x (some (.int r)) z := by
  refine Ct.of (by decide +kernel) (Nat.le_of_ble_eq_true rfl) ?_
  intro p e s m args below meth c C ls hl hS
  have C : CX G p s m args meth c cX8_item 4 (some .int) RX8 := C
  have hl : lv_has ls 4 [(0, .ref (G.1 + 99)), (1, .int v1), (2, .int v2)] := hl
  have hx := C.1
  have hb := C.2.1
  have hown := C.2.2.2.2.2.1
  have hw := C.2.2.2.2.2.2.1
  unfold fX8_item at hf
  refine lv_iload_n hx hb dX8_item_0 rfl (lv_at hl 1 rfl) ?_
  obtain ⟨r_1, x_2, qr_1, hf⟩ := bd_out hf
  refine rsI (As := [.int v1]) (rest := []) C hS KX8_isSlot (cX8_isSlot_ qr_1) g_1204 ⟨rfl, rfl⟩ ⟨(Nat.le_of_ble_eq_true rfl), (Nat.le_of_ble_eq_true rfl)⟩ hl.1 rfl rfl (Nat.le_of_ble_eq_true rfl) ⟨Nat.zero_le _, Nat.zero_le _⟩ dX8_item_1 (fun H locs hS => ?_)
  refine lv_if_ne (tgt := 10) hx hb dX8_item_4 (by decide) (fun c_3 => ?_) (fun c_3 => ?_)
  · replace hf := if_n c_3 hf
    refine lv_aload_n hx hb dX8_item_10 rfl (lv_at hl 0 rfl) ?_
    refine gf7_27 C hS (rfl) g_832 dX8_item_11 ?_
    refine lv_iload_n hx hb dX8_item_14 rfl (lv_at hl 1 rfl) ?_
    obtain ⟨gg_4, hf⟩ := gd_out hf
    refine alI C hS (rfl) rfl gg_4 dX8_item_15 ?_
    refine lv_if_ne (tgt := 22) hx hb dX8_item_16 (by decide) (fun c_5 => ?_) (fun c_5 => ?_)
    · replace hf := if_n c_5 hf
      refine lv_aload_n hx hb dX8_item_22 rfl (lv_at hl 0 rfl) ?_
      refine gf7_27 C hS (rfl) g_832 dX8_item_23 ?_
      refine lv_iload_n hx hb dX8_item_26 rfl (lv_at hl 1 rfl) ?_
      obtain ⟨gg_6, hf⟩ := gd_out hf
      refine alI C hS (rfl) rfl gg_6 dX8_item_27 ?_
      refine lv_iconst (v := 2) hx hb dX8_item_28 (by decide) ?_
      refine lv_icmp_eq (tgt := 35) hx hb dX8_item_29 (by decide) (fun c_7 => ?_) (fun c_7 => ?_)
      · replace hf := if_p c_7 hf
        refine lv_iload_n hx hb dX8_item_35 rfl (lv_at hl 2 rfl) ?_
        refine lv_iconst (v := 0) hx hb dX8_item_36 (by decide) ?_
        refine lv_aload_n hx hb dX8_item_37 rfl (lv_at hl 0 rfl) ?_
        refine gf7_28 C hS (rfl) g_833 dX8_item_38 ?_
        refine lv_iload_n hx hb dX8_item_41 rfl (lv_at hl 1 rfl) ?_
        obtain ⟨gg_8, hf⟩ := gd_out hf
        refine alI C hS (rfl) rfl gg_8 dX8_item_42 ?_
        refine lv_iconst (v := 1) hx hb dX8_item_43 (by decide) ?_
        refine lv_isub hx hb dX8_item_44 ?_
        obtain ⟨r_9, x_10, qr_9, hf⟩ := bd_out hf
        refine rsI (As := [.int v2, .int 0, .int ((x_2 116 (ix v1)) - 1)]) (rest := []) C hS KX8_in (cX8_in_ qr_9) g_914 ⟨rfl, rfl⟩ ⟨(Nat.le_of_ble_eq_true rfl), (Nat.le_of_ble_eq_true rfl)⟩ hl.1 rfl rfl (Nat.le_of_ble_eq_true rfl) ⟨Nat.zero_le _, Nat.zero_le _⟩ dX8_item_45 (fun H locs hS => ?_)
        refine lv_if_ne (tgt := 55) hx hb dX8_item_48 (by decide) (fun c_11 => ?_) (fun c_11 => ?_)
        · replace hf := if_n c_11 hf
          refine lv_aload_n hx hb dX8_item_55 rfl (lv_at hl 0 rfl) ?_
          refine gf7_30 C hS (rfl) g_835 dX8_item_56 ?_
          refine lv_bipush (v := 24) hx hb dX8_item_59 (by decide) ?_
          refine lv_iload_n hx hb dX8_item_61 rfl (lv_at hl 1 rfl) ?_
          refine lv_imul hx hb dX8_item_62 ?_
          refine lv_iload_n hx hb dX8_item_63 rfl (lv_at hl 2 rfl) ?_
          refine lv_iadd hx hb dX8_item_64 ?_
          obtain ⟨gg_12, hf⟩ := gd_out hf
          refine alI C hS (rfl) rfl gg_12 dX8_item_65 ?_
          obtain ⟨v_13, ev_13, hf⟩ := st_out hf
          refine topI ev_13 ?_
          refine lv_istore_n (lv' := [(3, .int v_13), (0, .ref (G.1 + 99)), (1, .int v1), (2, .int v2)]) hx hb dX8_item_66 rfl hl (by decide) rfl (fun ls hl => ?_)
          refine lv_iload_n hx hb dX8_item_67 rfl (lv_at hl 0 rfl) ?_
          refine lv_ldc (v := (-1000000005)) hx hb hown (hw _ g_1063) dX8_item_68 ?_
          refine lv_icmp_ne (tgt := 78) hx hb dX8_item_70 (by decide) (fun c_14 => ?_) (fun c_14 => ?_)
          · replace hf := if_n c_14 hf
            refine lv_iload_n hx hb dX8_item_78 rfl (lv_at hl 0 rfl) ?_
            exact rtI C hS hf dX8_item_79
          · replace hf := if_p c_14 hf
            refine lv_ldc (v := (-1000000012)) hx hb hown (hw _ g_987) dX8_item_73 ?_
            refine lv_goto (tgt := 79) hx hb dX8_item_75 (by decide) ?_
            exact rtI C hS hf dX8_item_79
        · replace hf := if_p c_11 hf
          refine lv_ldcw (v := (-1000000013)) hx hb hown (hw _ g_1185) dX8_item_51 ?_
          exact rtI C hS hf dX8_item_54
      · replace hf := if_n c_7 hf
        refine lv_ldc (v := (-1000000012)) hx hb hown (hw _ g_987) dX8_item_32 ?_
        exact rtI C hS hf dX8_item_34
    · replace hf := if_p c_5 hf
      refine lv_ldc (v := (-1000000011)) hx hb hown (hw _ g_1100) dX8_item_19 ?_
      exact rtI C hS hf dX8_item_21
  · replace hf := if_p c_3 hf
    refine lv_ldc (v := (-1000000001)) hx hb hown (hw _ g_920) dX8_item_7 ?_
    exact rtI C hS hf dX8_item_9
abbrev rmX8_rest : Room := { frames := 2, cells := 0, slots := 0, locals := 42 }
set_option maxRecDepth 100000 in
set_option maxHeartbeats 4000000 in
theorem cX8_rest_ {G : GT} {l : Launch} {v1 : Int32} {v2 : Int32} {x z : XS} {r : Int32} (hf : fX8_rest v1 v2 x = some (r, z)) : Ct G l yX8_rest (.code yX8_rest cX8_rest 3 (some .int)) rmX8_rest [.ref (G.1 + 99), .int v1, .int v2] x (some (.int r)) z := by
  refine Ct.of (by decide +kernel) (Nat.le_of_ble_eq_true rfl) ?_
  intro p e s m args below meth c C ls hl hS
  have C : CX G p s m args meth c cX8_rest 3 (some .int) RX8 := C
  have hl : lv_has ls 3 [(0, .ref (G.1 + 99)), (1, .int v1), (2, .int v2)] := hl
  have hx := C.1
  have hb := C.2.1
  have hown := C.2.2.2.2.2.1
  have hw := C.2.2.2.2.2.2.1
  unfold fX8_rest at hf
  refine lv_iload_n hx hb dX8_rest_0 rfl (lv_at hl 1 rfl) ?_
  obtain ⟨r_1, x_2, qr_1, hf⟩ := bd_out hf
  refine rsI (As := [.int v1]) (rest := []) C hS KX8_isSlot (cX8_isSlot_ qr_1) g_1204 ⟨rfl, rfl⟩ ⟨(Nat.le_of_ble_eq_true rfl), (Nat.le_of_ble_eq_true rfl)⟩ hl.1 rfl rfl (Nat.le_of_ble_eq_true rfl) ⟨Nat.zero_le _, Nat.zero_le _⟩ dX8_rest_1 (fun H locs hS => ?_)
  refine lv_if_ne (tgt := 10) hx hb dX8_rest_4 (by decide) (fun c_3 => ?_) (fun c_3 => ?_)
  · replace hf := if_n c_3 hf
    refine lv_aload_n hx hb dX8_rest_10 rfl (lv_at hl 0 rfl) ?_
    refine gf7_27 C hS (rfl) g_832 dX8_rest_11 ?_
    refine lv_iload_n hx hb dX8_rest_14 rfl (lv_at hl 1 rfl) ?_
    obtain ⟨gg_4, hf⟩ := gd_out hf
    refine alI C hS (rfl) rfl gg_4 dX8_rest_15 ?_
    refine lv_if_ne (tgt := 22) hx hb dX8_rest_16 (by decide) (fun c_5 => ?_) (fun c_5 => ?_)
    · replace hf := if_n c_5 hf
      refine lv_aload_n hx hb dX8_rest_22 rfl (lv_at hl 0 rfl) ?_
      refine gf7_27 C hS (rfl) g_832 dX8_rest_23 ?_
      refine lv_iload_n hx hb dX8_rest_26 rfl (lv_at hl 1 rfl) ?_
      obtain ⟨gg_6, hf⟩ := gd_out hf
      refine alI C hS (rfl) rfl gg_6 dX8_rest_27 ?_
      refine lv_iconst (v := 3) hx hb dX8_rest_28 (by decide) ?_
      refine lv_icmp_eq (tgt := 35) hx hb dX8_rest_29 (by decide) (fun c_7 => ?_) (fun c_7 => ?_)
      · replace hf := if_p c_7 hf
        refine lv_iload_n hx hb dX8_rest_35 rfl (lv_at hl 2 rfl) ?_
        refine lv_if_ne (tgt := 45) hx hb dX8_rest_36 (by decide) (fun c_8 => ?_) (fun c_8 => ?_)
        · replace hf := if_n c_8 hf
          refine lv_iload_n hx hb dX8_rest_45 rfl (lv_at hl 2 rfl) ?_
          refine lv_iconst (v := (-1)) hx hb dX8_rest_46 (by decide) ?_
          refine lv_icmp_ne (tgt := 54) hx hb dX8_rest_47 (by decide) (fun c_9 => ?_) (fun c_9 => ?_)
          · replace hf := if_n c_9 hf
            refine lv_aload_n hx hb dX8_rest_54 rfl (lv_at hl 0 rfl) ?_
            refine gf7_28 C hS (rfl) g_833 dX8_rest_55 ?_
            refine lv_iload_n hx hb dX8_rest_58 rfl (lv_at hl 1 rfl) ?_
            obtain ⟨gg_10, hf⟩ := gd_out hf
            refine alI C hS (rfl) rfl gg_10 dX8_rest_59 ?_
            refine lv_iload_n hx hb dX8_rest_60 rfl (lv_at hl 2 rfl) ?_
            obtain ⟨gg_11, hf⟩ := gd_out hf
            refine lv_irem hx hb dX8_rest_61 (of_decide_eq_true gg_11) ?_
            obtain ⟨v_12, ev_12, hf⟩ := st_out hf
            refine topI ev_12 ?_
            exact rtI C hS hf dX8_rest_62
          · replace hf := if_p c_9 hf
            refine lv_iconst (v := 0) hx hb dX8_rest_50 (by decide) ?_
            refine lv_goto (tgt := 62) hx hb dX8_rest_51 (by decide) ?_
            exact rtI C hS hf dX8_rest_62
        · replace hf := if_p c_8 hf
          refine lv_ldcw (v := (-1000000002)) hx hb hown (hw _ g_1219) dX8_rest_39 ?_
          refine lv_goto (tgt := 62) hx hb dX8_rest_42 (by decide) ?_
          exact rtI C hS hf dX8_rest_62
      · replace hf := if_n c_7 hf
        refine lv_ldc (v := (-1000000012)) hx hb hown (hw _ g_987) dX8_rest_32 ?_
        exact rtI C hS hf dX8_rest_34
    · replace hf := if_p c_5 hf
      refine lv_ldc (v := (-1000000011)) hx hb hown (hw _ g_1100) dX8_rest_19 ?_
      exact rtI C hS hf dX8_rest_21
  · replace hf := if_p c_3 hf
    refine lv_ldc (v := (-1000000001)) hx hb hown (hw _ g_920) dX8_rest_7 ?_
    exact rtI C hS hf dX8_rest_9
abbrev rmX8_tell : Room := { frames := 0, cells := 0, slots := 0, locals := 0 }
set_option maxRecDepth 100000 in
set_option maxHeartbeats 4000000 in
theorem cX8_tell_ {G : GT} {l : Launch} {v1 : Int32} {x z : XS} {r : Int32} (hf : fX8_tell v1 x = some (r, z)) : Ct G l yX8_tell (.code yX8_tell cX8_tell 2 (some .int)) rmX8_tell [.ref (G.1 + 99), .int v1] x (some (.int r)) z := by
  refine Ct.of (by decide +kernel) (Nat.le_of_ble_eq_true rfl) ?_
  intro p e s m args below meth c C ls hl hS
  have C : CX G p s m args meth c cX8_tell 2 (some .int) RX8 := C
  have hl : lv_has ls 2 [(0, .ref (G.1 + 99)), (1, .int v1)] := hl
  have hx := C.1
  have hb := C.2.1
  have hown := C.2.2.2.2.2.1
  have hw := C.2.2.2.2.2.2.1
  unfold fX8_tell at hf
  refine lv_aload_n hx hb dX8_tell_0 rfl (lv_at hl 0 rfl) ?_
  refine gf7_33 C hS (rfl) g_838 dX8_tell_1 ?_
  refine lv_bipush (v := 60) hx hb dX8_tell_4 (by decide) ?_
  refine lv_icmp_ne (tgt := 12) hx hb dX8_tell_6 (by decide) (fun c_1 => ?_) (fun c_1 => ?_)
  · replace hf := if_n c_1 hf
    refine lv_aload_n hx hb dX8_tell_12 rfl (lv_at hl 0 rfl) ?_
    refine gf7_32 C hS (rfl) g_837 dX8_tell_13 ?_
    refine lv_aload_n hx hb dX8_tell_16 rfl (lv_at hl 0 rfl) ?_
    refine gf7_33 C hS (rfl) g_838 dX8_tell_17 ?_
    refine lv_iload_n hx hb dX8_tell_20 rfl (lv_at hl 1 rfl) ?_
    obtain ⟨gg_2, hf⟩ := gd_out hf
    obtain ⟨x_3, ex_3, hf⟩ := st_out hf
    refine asI C hS (rfl) rfl gg_2 ex_3 dX8_tell_21 (fun H locs hS => ?_)
    refine lv_aload_n hx hb dX8_tell_22 rfl (lv_at hl 0 rfl) ?_
    refine lv_dup hx hb dX8_tell_23 rfl ?_
    refine gf7_33 C hS (rfl) g_838 dX8_tell_24 ?_
    refine lv_iconst (v := 1) hx hb dX8_tell_27 (by decide) ?_
    refine lv_iadd hx hb dX8_tell_28 ?_
    obtain ⟨x_4, ex_4, hf⟩ := st_out hf
    refine pf7_33 C hS (rfl) g_838 ex_4 dX8_tell_29 (fun H locs hS => ?_)
    refine lv_aload_n hx hb dX8_tell_32 rfl (lv_at hl 0 rfl) ?_
    refine gf7_33 C hS (rfl) g_838 dX8_tell_33 ?_
    exact rtI C hS hf dX8_tell_36
  · replace hf := if_p c_1 hf
    refine lv_ldc (v := (-1000000003)) hx hb hown (hw _ g_921) dX8_tell_9 ?_
    exact rtI C hS hf dX8_tell_11
abbrev rmX8_check : Room := { frames := 7, cells := 0, slots := 0, locals := 166 }
set_option maxRecDepth 100000 in
set_option maxHeartbeats 4000000 in
theorem wX8_check_h182 {p : Program} {l : Launch} {e : Env} {s : State} {m : MethodId} {args : Array Value} {below : List Frame} {meth : Method} {c : Code} {G : GT} {r : Int32} {z : XS} (C : CX G p s m args meth c cX8_check 6 (some .int) RX8) : ∀ (u2 : Int32) (u3 : Int32) (u4 : Int32) (x : XS), fX8_check_h182 u2 u3 u4 x = some (r, z) → ∀ (H : Heap) (locs : List Loc) (ls : Array Slot), SR G x H locs → lv_has ls 6 [(0, .ref (G.1 + 99)), (2, .int u2), (3, .int u3), (4, .int u4)] → W p l e rmX8_check s m args below meth c H locs 0 0 (MQ below (QC G (some (.int r)) z) args s 0 0 (AB G)) (F0 m 182 ls []) := by
  intro u2 u3 u4 x hf H locs ls hS hl
  have hx := C.1
  have hb := C.2.1
  have hown := C.2.2.2.2.2.1
  have hw := C.2.2.2.2.2.2.1
  unfold fX8_check_h182 at hf
  refine lv_aload_n hx hb dX8_check_182 rfl (lv_at hl 0 rfl) ?_
  refine gf7_2 C hS (rfl) g_807 dX8_check_183 ?_
  refine lv_aload_n hx hb dX8_check_186 rfl (lv_at hl 0 rfl) ?_
  refine gf7_0 C hS (rfl) g_805 dX8_check_187 ?_
  obtain ⟨r_24, x_25, qr_24, hf⟩ := bd_out hf
  refine rsV (As := [.ref (G.1 + 102), .ref (G.1 + 100)]) (rest := []) C hS KX8_copyAll (cX8_copyAll_ (rfl) rfl (rfl) rfl qr_24) g_1228 ⟨rfl, rfl⟩ ⟨(Nat.le_of_ble_eq_true rfl), (Nat.le_of_ble_eq_true rfl)⟩ hl.1 rfl rfl (Nat.le_of_ble_eq_true rfl) ⟨Nat.zero_le _, Nat.zero_le _⟩ dX8_check_190 (fun H locs hS => ?_)
  refine lv_iload hx hb dX8_check_193 (lv_at hl 3 rfl) ?_
  refine lv_iload_n hx hb dX8_check_195 rfl (lv_at hl 1 rfl) ?_
  refine lv_icmp_ne (tgt := 209) hx hb dX8_check_196 (by decide) (fun c_26 => ?_) (fun c_26 => ?_)
  · replace hf := if_n c_26 hf
    refine lv_iconst (v := 1) hx hb dX8_check_209 (by decide) ?_
    refine lv_iload hx hb dX8_check_210 (lv_at hl 3 rfl) ?_
    refine lv_iadd hx hb dX8_check_212 ?_
    exact rtI C hS hf dX8_check_213
  · replace hf := if_p c_26 hf
    refine lv_iload hx hb dX8_check_199 (lv_at hl 3 rfl) ?_
    refine lv_iload_n hx hb dX8_check_201 rfl (lv_at hl 2 rfl) ?_
    refine lv_icmp_ne (tgt := 209) hx hb dX8_check_202 (by decide) (fun c_27 => ?_) (fun c_27 => ?_)
    · replace hf := if_n c_27 hf
      refine lv_iconst (v := 1) hx hb dX8_check_209 (by decide) ?_
      refine lv_iload hx hb dX8_check_210 (lv_at hl 3 rfl) ?_
      refine lv_iadd hx hb dX8_check_212 ?_
      exact rtI C hS hf dX8_check_213
    · replace hf := if_p c_27 hf
      refine lv_iconst (v := 0) hx hb dX8_check_205 (by decide) ?_
      refine lv_goto (tgt := 213) hx hb dX8_check_206 (by decide) ?_
      exact rtI C hS hf dX8_check_213
set_option maxRecDepth 100000 in
set_option maxHeartbeats 4000000 in
theorem wX8_check_h172 {p : Program} {l : Launch} {e : Env} {s : State} {m : MethodId} {args : Array Value} {below : List Frame} {meth : Method} {c : Code} {G : GT} {r : Int32} {z : XS} (C : CX G p s m args meth c cX8_check 6 (some .int) RX8) {k80 : Int32 → Int32 → Int32 → Int32 → XS → Option (Int32 × XS)} (hk80 : ∀ (u2 : Int32) (u3 : Int32) (u4 : Int32) (u5 : Int32) (x : XS), k80 u2 u3 u4 u5 x = some (r, z) → ∀ (H : Heap) (locs : List Loc) (ls : Array Slot), SR G x H locs → lv_has ls 6 [(0, .ref (G.1 + 99)), (2, .int u2), (3, .int u3), (4, .int u4), (5, .int u5)] → W p l e rmX8_check s m args below meth c H locs 0 0 (MQ below (QC G (some (.int r)) z) args s 0 0 (AB G)) (F0 m 80 ls [])) : ∀ (u2 : Int32) (u3 : Int32) (u5 : Int32) (s0 : Int32) (x : XS), fX8_check_h172 k80 u2 u3 u5 s0 x = some (r, z) → ∀ (H : Heap) (locs : List Loc) (ls : Array Slot), SR G x H locs → lv_has ls 6 [(0, .ref (G.1 + 99)), (2, .int u2), (3, .int u3), (5, .int u5)] → W p l e rmX8_check s m args below meth c H locs 0 0 (MQ below (QC G (some (.int r)) z) args s 0 0 (AB G)) (F0 m 172 ls [.int s0]) := by
  intro u2 u3 u5 s0 x hf H locs ls hS hl
  have hx := C.1
  have hb := C.2.1
  have hown := C.2.2.2.2.2.1
  have hw := C.2.2.2.2.2.2.1
  unfold fX8_check_h172 at hf
  refine lv_iconst (v := 0) hx hb dX8_check_172 (by decide) ?_
  refine lv_iadd hx hb dX8_check_173 ?_
  obtain ⟨v_36, ev_36, hf⟩ := st_out hf
  refine topI ev_36 ?_
  refine lv_istore (lv' := [(4, .int v_36), (0, .ref (G.1 + 99)), (2, .int u2), (3, .int u3), (5, .int u5)]) hx hb dX8_check_174 hl (by decide) rfl (fun ls hl => ?_)
  obtain ⟨v_37, ev_37, hf⟩ := st_out hf
  refine lv_iinc (v := v_37) (lv' := [(5, .int v_37), (4, .int v_36), (0, .ref (G.1 + 99)), (2, .int u2), (3, .int u3)]) hx hb dX8_check_176 hl (k := 4) rfl (by rw [ev_37]; rfl) (by decide) rfl (fun ls hl => ?_)
  refine lv_goto (tgt := 80) hx hb dX8_check_179 (by decide) ?_
  exact hk80 u2 u3 v_36 v_37 x hf _ _ _ hS (lv_sub hl [2, 3, 4, 1, 0] rfl)
set_option maxRecDepth 100000 in
set_option maxHeartbeats 4000000 in
theorem wX8_check_h129 {p : Program} {l : Launch} {e : Env} {s : State} {m : MethodId} {args : Array Value} {below : List Frame} {meth : Method} {c : Code} {G : GT} {r : Int32} {z : XS} (C : CX G p s m args meth c cX8_check 6 (some .int) RX8) {k80 : Int32 → Int32 → Int32 → Int32 → XS → Option (Int32 × XS)} (hk80 : ∀ (u2 : Int32) (u3 : Int32) (u4 : Int32) (u5 : Int32) (x : XS), k80 u2 u3 u4 u5 x = some (r, z) → ∀ (H : Heap) (locs : List Loc) (ls : Array Slot), SR G x H locs → lv_has ls 6 [(0, .ref (G.1 + 99)), (2, .int u2), (3, .int u3), (4, .int u4), (5, .int u5)] → W p l e rmX8_check s m args below meth c H locs 0 0 (MQ below (QC G (some (.int r)) z) args s 0 0 (AB G)) (F0 m 80 ls [])) : ∀ (u2 : Int32) (u3 : Int32) (u5 : Int32) (s0 : Int32) (s1 : Int32) (x : XS), fX8_check_h129 k80 u2 u3 u5 s0 s1 x = some (r, z) → ∀ (H : Heap) (locs : List Loc) (ls : Array Slot), SR G x H locs → lv_has ls 6 [(0, .ref (G.1 + 99)), (2, .int u2), (3, .int u3), (5, .int u5)] → W p l e rmX8_check s m args below meth c H locs 0 0 (MQ below (QC G (some (.int r)) z) args s 0 0 (AB G)) (F0 m 129 ls [.int s1, .int s0]) := by
  intro u2 u3 u5 s0 s1 x hf H locs ls hS hl
  have hx := C.1
  have hb := C.2.1
  have hown := C.2.2.2.2.2.1
  have hw := C.2.2.2.2.2.2.1
  unfold fX8_check_h129 at hf
  refine lv_iadd hx hb dX8_check_129 ?_
  obtain ⟨v_28, ev_28, hf⟩ := st_out hf
  refine topI ev_28 ?_
  refine lv_istore (lv' := [(4, .int v_28), (0, .ref (G.1 + 99)), (2, .int u2), (3, .int u3), (5, .int u5)]) hx hb dX8_check_130 hl (by decide) rfl (fun ls hl => ?_)
  refine lv_iload hx hb dX8_check_132 (lv_at hl 0 rfl) ?_
  refine lv_iload hx hb dX8_check_134 (lv_at hl 0 rfl) ?_
  refine lv_iconst (v := 2) hx hb dX8_check_136 (by decide) ?_
  refine lv_iload hx hb dX8_check_137 (lv_at hl 4 rfl) ?_
  refine lv_imul hx hb dX8_check_139 ?_
  refine lv_iconst (v := 1) hx hb dX8_check_140 (by decide) ?_
  refine lv_iadd hx hb dX8_check_141 ?_
  refine lv_icmp_ne (tgt := 172) hx hb dX8_check_142 (by decide) (fun c_29 => ?_) (fun c_29 => ?_)
  · replace hf := if_n c_29 hf
    exact wX8_check_h172  C hk80 u2 u3 u5 v_28 x hf _ _ _ hS (lv_sub hl [1, 2, 3, 4] rfl)
  · replace hf := if_p c_29 hf
    refine lv_iload hx hb dX8_check_145 (lv_at hl 0 rfl) ?_
    refine lv_iload_n hx hb dX8_check_147 rfl (lv_at hl 2 rfl) ?_
    refine lv_icmp_ge (tgt := 172) hx hb dX8_check_148 (by decide) (fun c_30 => ?_) (fun c_30 => ?_)
    · replace hf := if_p c_30 hf
      exact wX8_check_h172  C hk80 u2 u3 u5 v_28 x hf _ _ _ hS (lv_sub hl [1, 2, 3, 4] rfl)
    · replace hf := if_n c_30 hf
      refine lv_aload_n hx hb dX8_check_151 rfl (lv_at hl 1 rfl) ?_
      refine gf7_32 C hS (rfl) g_837 dX8_check_152 ?_
      refine lv_iload hx hb dX8_check_155 (lv_at hl 0 rfl) ?_
      obtain ⟨gg_31, hf⟩ := gd_out hf
      refine alI C hS (rfl) rfl gg_31 dX8_check_157 ?_
      refine lv_aload_n hx hb dX8_check_158 rfl (lv_at hl 1 rfl) ?_
      refine gf7_0 C hS (rfl) g_805 dX8_check_159 ?_
      refine lv_bipush (v := 7) hx hb dX8_check_162 (by decide) ?_
      obtain ⟨gg_32, hf⟩ := gd_out hf
      refine alI C hS (rfl) rfl gg_32 dX8_check_164 ?_
      refine lv_icmp_ne (tgt := 172) hx hb dX8_check_165 (by decide) (fun c_33 => ?_) (fun c_33 => ?_)
      · replace hf := if_n c_33 hf
        exact wX8_check_h172  C hk80 u2 u3 u5 v_28 x hf _ _ _ hS (lv_sub hl [1, 2, 3, 4] rfl)
      · replace hf := if_p c_33 hf
        refine lv_iconst (v := 1) hx hb dX8_check_168 (by decide) ?_
        refine lv_goto (tgt := 173) hx hb dX8_check_169 (by decide) ?_
        refine lv_iadd hx hb dX8_check_173 ?_
        obtain ⟨v_34, ev_34, hf⟩ := st_out hf
        refine topI ev_34 ?_
        refine lv_istore (lv' := [(4, .int v_34), (0, .ref (G.1 + 99)), (2, .int u2), (3, .int u3), (5, .int u5)]) hx hb dX8_check_174 hl (by decide) rfl (fun ls hl => ?_)
        obtain ⟨v_35, ev_35, hf⟩ := st_out hf
        refine lv_iinc (v := v_35) (lv' := [(5, .int v_35), (4, .int v_34), (0, .ref (G.1 + 99)), (2, .int u2), (3, .int u3)]) hx hb dX8_check_176 hl (k := 4) rfl (by rw [ev_35]; rfl) (by decide) rfl (fun ls hl => ?_)
        refine lv_goto (tgt := 80) hx hb dX8_check_179 (by decide) ?_
        exact hk80 u2 u3 v_34 v_35 x hf _ _ _ hS (lv_sub hl [2, 3, 4, 1, 0] rfl)
set_option maxRecDepth 100000 in
set_option maxHeartbeats 4000000 in
theorem wbX8_check_h80 {p : Program} {l : Launch} {e : Env} {s : State} {m : MethodId} {args : Array Value} {below : List Frame} {meth : Method} {c : Code} {G : GT} {r : Int32} {z : XS} (C : CX G p s m args meth c cX8_check 6 (some .int) RX8) {k80 : Int32 → Int32 → Int32 → Int32 → XS → Option (Int32 × XS)} (hk80 : ∀ (u2 : Int32) (u3 : Int32) (u4 : Int32) (u5 : Int32) (x : XS), k80 u2 u3 u4 u5 x = some (r, z) → ∀ (H : Heap) (locs : List Loc) (ls : Array Slot), SR G x H locs → lv_has ls 6 [(0, .ref (G.1 + 99)), (2, .int u2), (3, .int u3), (4, .int u4), (5, .int u5)] → W p l e rmX8_check s m args below meth c H locs 0 0 (MQ below (QC G (some (.int r)) z) args s 0 0 (AB G)) (F0 m 80 ls [])) : ∀ (u2 : Int32) (u3 : Int32) (u4 : Int32) (u5 : Int32) (x : XS), bX8_check_h80 k80 u2 u3 u4 u5 x = some (r, z) → ∀ (H : Heap) (locs : List Loc) (ls : Array Slot), SR G x H locs → lv_has ls 6 [(0, .ref (G.1 + 99)), (2, .int u2), (3, .int u3), (4, .int u4), (5, .int u5)] → W p l e rmX8_check s m args below meth c H locs 0 0 (MQ below (QC G (some (.int r)) z) args s 0 0 (AB G)) (F0 m 80 ls []) := by
  intro u2 u3 u4 u5 x hf H locs ls hS hl
  have hx := C.1
  have hb := C.2.1
  have hown := C.2.2.2.2.2.1
  have hw := C.2.2.2.2.2.2.1
  unfold bX8_check_h80 at hf
  refine lv_iconst (v := 2) hx hb dX8_check_80 (by decide) ?_
  refine lv_iload hx hb dX8_check_81 (lv_at hl 4 rfl) ?_
  refine lv_imul hx hb dX8_check_83 ?_
  refine lv_iload_n hx hb dX8_check_84 rfl (lv_at hl 2 rfl) ?_
  refine lv_icmp_ge (tgt := 182) hx hb dX8_check_85 (by decide) (fun c_15 => ?_) (fun c_15 => ?_)
  · replace hf := if_p c_15 hf
    exact wX8_check_h182  C u2 u3 u4 x hf _ _ _ hS (lv_sub hl [0, 1, 2, 3] rfl)
  · replace hf := if_n c_15 hf
    refine lv_iload hx hb dX8_check_88 (lv_at hl 3 rfl) ?_
    refine lv_iconst (v := 2) hx hb dX8_check_90 (by decide) ?_
    refine lv_iload hx hb dX8_check_91 (lv_at hl 4 rfl) ?_
    refine lv_imul hx hb dX8_check_93 ?_
    refine lv_icmp_ne (tgt := 182) hx hb dX8_check_94 (by decide) (fun c_16 => ?_) (fun c_16 => ?_)
    · replace hf := if_n c_16 hf
      exact wX8_check_h182  C u2 u3 u4 x hf _ _ _ hS (lv_sub hl [0, 1, 2, 3] rfl)
    · replace hf := if_p c_16 hf
      refine lv_aload_n hx hb dX8_check_97 rfl (lv_at hl 0 rfl) ?_
      obtain ⟨r_17, x_18, qr_17, hf⟩ := bd_out hf
      refine rvV (As := []) (rest := []) C hS (rfl) rfl KX8_minute (cX8_minute_ qr_17) g_1029 ⟨rfl, rfl⟩ ⟨(Nat.le_of_ble_eq_true rfl), (Nat.le_of_ble_eq_true rfl)⟩ hl.1 rfl rfl (Nat.le_of_ble_eq_true rfl) ⟨Nat.zero_le _, Nat.zero_le _⟩ dX8_check_98 (fun H locs hS => ?_)
      refine lv_iload hx hb dX8_check_101 (lv_at hl 3 rfl) ?_
      refine lv_iload hx hb dX8_check_103 (lv_at hl 3 rfl) ?_
      refine lv_iload_n hx hb dX8_check_105 rfl (lv_at hl 1 rfl) ?_
      refine lv_icmp_ge (tgt := 128) hx hb dX8_check_106 (by decide) (fun c_19 => ?_) (fun c_19 => ?_)
      · replace hf := if_p c_19 hf
        refine lv_iconst (v := 0) hx hb dX8_check_128 (by decide) ?_
        exact wX8_check_h129  C hk80 u2 u3 u5 u4 0 x_18 hf _ _ _ hS (lv_sub hl [0, 1, 2, 4] rfl)
      · replace hf := if_n c_19 hf
        refine lv_aload_n hx hb dX8_check_109 rfl (lv_at hl 0 rfl) ?_
        refine gf7_32 C hS (rfl) g_837 dX8_check_110 ?_
        refine lv_iload hx hb dX8_check_113 (lv_at hl 3 rfl) ?_
        obtain ⟨gg_20, hf⟩ := gd_out hf
        refine alI C hS (rfl) rfl gg_20 dX8_check_115 ?_
        refine lv_aload_n hx hb dX8_check_116 rfl (lv_at hl 0 rfl) ?_
        refine lv_iconst (v := 4) hx hb dX8_check_117 (by decide) ?_
        obtain ⟨r_21, x_22, qr_21, hf⟩ := bd_out hf
        refine rvI (As := [.int 4]) (rest := [.int (x_18 120 (ix u4)), .int u4]) C hS (rfl) rfl KX8_sumOf (cX8_sumOf_ qr_21) g_1021 ⟨rfl, rfl⟩ ⟨(Nat.le_of_ble_eq_true rfl), (Nat.le_of_ble_eq_true rfl)⟩ hl.1 rfl rfl (Nat.le_of_ble_eq_true rfl) ⟨Nat.zero_le _, Nat.zero_le _⟩ dX8_check_118 (fun H locs hS => ?_)
        refine lv_icmp_ne (tgt := 128) hx hb dX8_check_121 (by decide) (fun c_23 => ?_) (fun c_23 => ?_)
        · replace hf := if_n c_23 hf
          refine lv_iconst (v := 0) hx hb dX8_check_128 (by decide) ?_
          exact wX8_check_h129  C hk80 u2 u3 u5 u4 0 x_22 hf _ _ _ hS (lv_sub hl [0, 1, 2, 4] rfl)
        · replace hf := if_p c_23 hf
          refine lv_iconst (v := 1) hx hb dX8_check_124 (by decide) ?_
          refine lv_goto (tgt := 129) hx hb dX8_check_125 (by decide) ?_
          exact wX8_check_h129  C hk80 u2 u3 u5 u4 1 x_22 hf _ _ _ hS (lv_sub hl [0, 1, 2, 4] rfl)
theorem wlX8_check_h80 {p : Program} {l : Launch} {e : Env} {s : State} {m : MethodId} {args : Array Value} {below : List Frame} {meth : Method} {c : Code} {G : GT} {r : Int32} {z : XS} (C : CX G p s m args meth c cX8_check 6 (some .int) RX8) (n : Nat) : ∀ (u2 : Int32) (u3 : Int32) (u4 : Int32) (u5 : Int32) (x : XS), lX8_check_h80 n u2 u3 u4 u5 x = some (r, z) → ∀ (H : Heap) (locs : List Loc) (ls : Array Slot), SR G x H locs → lv_has ls 6 [(0, .ref (G.1 + 99)), (2, .int u2), (3, .int u3), (4, .int u4), (5, .int u5)] → W p l e rmX8_check s m args below meth c H locs 0 0 (MQ below (QC G (some (.int r)) z) args s 0 0 (AB G)) (F0 m 80 ls []) := by
  induction n with
  | zero => intro u2 u3 u4 u5 x hf H locs ls hS hl; exact absurd hf (by intro q; cases q)
  | succ n ih => exact wbX8_check_h80 C ih
theorem wX8_check_h80 {p : Program} {l : Launch} {e : Env} {s : State} {m : MethodId} {args : Array Value} {below : List Frame} {meth : Method} {c : Code} {G : GT} {r : Int32} {z : XS} (C : CX G p s m args meth c cX8_check 6 (some .int) RX8) : ∀ (u2 : Int32) (u3 : Int32) (u4 : Int32) (u5 : Int32) (x : XS), fX8_check_h80 u2 u3 u4 u5 x = some (r, z) → ∀ (H : Heap) (locs : List Loc) (ls : Array Slot), SR G x H locs → lv_has ls 6 [(0, .ref (G.1 + 99)), (2, .int u2), (3, .int u3), (4, .int u4), (5, .int u5)] → W p l e rmX8_check s m args below meth c H locs 0 0 (MQ below (QC G (some (.int r)) z) args s 0 0 (AB G)) (F0 m 80 ls []) := wlX8_check_h80 C FU
set_option maxRecDepth 100000 in
set_option maxHeartbeats 4000000 in
theorem cX8_check_ {G : GT} {l : Launch} {v1 : Int32} {x z : XS} {r : Int32} (hf : fX8_check v1 x = some (r, z)) : Ct G l yX8_check (.code yX8_check cX8_check 6 (some .int)) rmX8_check [.ref (G.1 + 99), .int v1] x (some (.int r)) z := by
  refine Ct.of (by decide +kernel) (Nat.le_of_ble_eq_true rfl) ?_
  intro p e s m args below meth c C ls hl hS
  have C : CX G p s m args meth c cX8_check 6 (some .int) RX8 := C
  have hl : lv_has ls 6 [(0, .ref (G.1 + 99)), (1, .int v1)] := hl
  have hx := C.1
  have hb := C.2.1
  have hown := C.2.2.2.2.2.1
  have hw := C.2.2.2.2.2.2.1
  unfold fX8_check at hf
  refine lv_aload_n hx hb dX8_check_0 rfl (lv_at hl 0 rfl) ?_
  refine gf7_33 C hS (rfl) g_838 dX8_check_1 ?_
  obtain ⟨v_1, ev_1, hf⟩ := st_out hf
  refine topI ev_1 ?_
  refine lv_istore_n (lv' := [(2, .int v_1), (0, .ref (G.1 + 99)), (1, .int v1)]) hx hb dX8_check_4 rfl hl (by decide) rfl (fun ls hl => ?_)
  refine lv_aload_n hx hb dX8_check_5 rfl (lv_at hl 1 rfl) ?_
  refine lv_iconst (v := 0) hx hb dX8_check_6 (by decide) ?_
  obtain ⟨x_2, ex_2, hf⟩ := st_out hf
  refine pf7_33 C hS (rfl) g_838 ex_2 dX8_check_7 (fun H locs hS => ?_)
  refine lv_iload_n hx hb dX8_check_10 rfl (lv_at hl 2 rfl) ?_
  refine lv_iconst (v := 1) hx hb dX8_check_11 (by decide) ?_
  refine lv_bipush (v := 30) hx hb dX8_check_12 (by decide) ?_
  obtain ⟨r_3, x_4, qr_3, hf⟩ := bd_out hf
  refine rsI (As := [.int v1, .int 1, .int 30]) (rest := []) C hS KX8_in (cX8_in_ qr_3) g_914 ⟨rfl, rfl⟩ ⟨(Nat.le_of_ble_eq_true rfl), (Nat.le_of_ble_eq_true rfl)⟩ hl.1 rfl rfl (Nat.le_of_ble_eq_true rfl) ⟨Nat.zero_le _, Nat.zero_le _⟩ dX8_check_14 (fun H locs hS => ?_)
  refine lv_if_ne (tgt := 23) hx hb dX8_check_17 (by decide) (fun c_5 => ?_) (fun c_5 => ?_)
  · replace hf := if_n c_5 hf
    refine lv_aload_n hx hb dX8_check_23 rfl (lv_at hl 1 rfl) ?_
    refine gf7_3 C hS (rfl) g_808 dX8_check_24 ?_
    refine lv_if_ne (tgt := 34) hx hb dX8_check_27 (by decide) (fun c_6 => ?_) (fun c_6 => ?_)
    · replace hf := if_n c_6 hf
      refine lv_aload_n hx hb dX8_check_34 rfl (lv_at hl 1 rfl) ?_
      refine gf7_0 C hS (rfl) g_805 dX8_check_35 ?_
      refine lv_aload_n hx hb dX8_check_38 rfl (lv_at hl 1 rfl) ?_
      refine gf7_2 C hS (rfl) g_807 dX8_check_39 ?_
      obtain ⟨r_7, x_8, qr_7, hf⟩ := bd_out hf
      refine rsV (As := [.ref (G.1 + 100), .ref (G.1 + 102)]) (rest := []) C hS KX8_copyAll (cX8_copyAll_ (rfl) rfl (rfl) rfl qr_7) g_1228 ⟨rfl, rfl⟩ ⟨(Nat.le_of_ble_eq_true rfl), (Nat.le_of_ble_eq_true rfl)⟩ hl.1 rfl rfl (Nat.le_of_ble_eq_true rfl) ⟨Nat.zero_le _, Nat.zero_le _⟩ dX8_check_42 (fun H locs hS => ?_)
      refine lv_aload_n hx hb dX8_check_45 rfl (lv_at hl 1 rfl) ?_
      refine gf7_1 C hS (rfl) g_806 dX8_check_46 ?_
      refine lv_aload_n hx hb dX8_check_49 rfl (lv_at hl 1 rfl) ?_
      refine gf7_0 C hS (rfl) g_805 dX8_check_50 ?_
      obtain ⟨r_9, x_10, qr_9, hf⟩ := bd_out hf
      refine rsV (As := [.ref (G.1 + 101), .ref (G.1 + 100)]) (rest := []) C hS KX8_copyAll (cX8_copyAll_ (rfl) rfl (rfl) rfl qr_9) g_1228 ⟨rfl, rfl⟩ ⟨(Nat.le_of_ble_eq_true rfl), (Nat.le_of_ble_eq_true rfl)⟩ hl.1 rfl rfl (Nat.le_of_ble_eq_true rfl) ⟨Nat.zero_le _, Nat.zero_le _⟩ dX8_check_53 (fun H locs hS => ?_)
      refine lv_iconst (v := 2) hx hb dX8_check_56 (by decide) ?_
      refine lv_sipush (v := 9999) hx hb dX8_check_57 (by decide) ?_
      refine lv_aload_n hx hb dX8_check_60 rfl (lv_at hl 1 rfl) ?_
      refine gf7_0 C hS (rfl) g_805 dX8_check_61 ?_
      refine lv_iconst (v := 2) hx hb dX8_check_64 (by decide) ?_
      obtain ⟨gg_11, hf⟩ := gd_out hf
      refine alI C hS (rfl) rfl gg_11 dX8_check_65 ?_
      refine lv_isub hx hb dX8_check_66 ?_
      refine lv_iconst (v := 0) hx hb dX8_check_67 (by decide) ?_
      refine lv_iload_n hx hb dX8_check_68 rfl (lv_at hl 2 rfl) ?_
      obtain ⟨r_12, x_13, qr_12, hf⟩ := bd_out hf
      refine rsI (As := [.int (9999 - (x_10 100 (ix 2))), .int 0, .int v1]) (rest := [.int 2]) C hS KX8_within (cX8_within_ qr_12) g_977 ⟨rfl, rfl⟩ ⟨(Nat.le_of_ble_eq_true rfl), (Nat.le_of_ble_eq_true rfl)⟩ hl.1 rfl rfl (Nat.le_of_ble_eq_true rfl) ⟨Nat.zero_le _, Nat.zero_le _⟩ dX8_check_69 (fun H locs hS => ?_)
      refine lv_imul hx hb dX8_check_72 ?_
      obtain ⟨v_14, ev_14, hf⟩ := st_out hf
      refine topI ev_14 ?_
      refine lv_istore_n (lv' := [(3, .int v_14), (2, .int v_1), (0, .ref (G.1 + 99)), (1, .int v1)]) hx hb dX8_check_73 rfl hl (by decide) rfl (fun ls hl => ?_)
      refine lv_iconst (v := 0) hx hb dX8_check_74 (by decide) ?_
      refine lv_istore (lv' := [(4, .int 0), (3, .int v_14), (2, .int v_1), (0, .ref (G.1 + 99)), (1, .int v1)]) hx hb dX8_check_75 hl (by decide) rfl (fun ls hl => ?_)
      refine lv_iconst (v := 0) hx hb dX8_check_77 (by decide) ?_
      refine lv_istore (lv' := [(5, .int 0), (4, .int 0), (3, .int v_14), (2, .int v_1), (0, .ref (G.1 + 99)), (1, .int v1)]) hx hb dX8_check_78 hl (by decide) rfl (fun ls hl => ?_)
      exact wX8_check_h80  C v_1 v_14 0 0 x_13 hf _ _ _ hS (lv_sub hl [4, 3, 2, 1, 0] rfl)
    · replace hf := if_p c_6 hf
      refine lv_ldcw (v := (-1000000002)) hx hb hown (hw _ g_1219) dX8_check_30 ?_
      exact rtI C hS hf dX8_check_33
  · replace hf := if_p c_5 hf
    refine lv_ldc (v := (-1000000001)) hx hb hown (hw _ g_920) dX8_check_20 ?_
    exact rtI C hS hf dX8_check_22
abbrev rmX8_keep : Room := { frames := 1, cells := 0, slots := 0, locals := 22 }
set_option maxRecDepth 100000 in
set_option maxHeartbeats 4000000 in
theorem cX8_keep_ {G : GT} {l : Launch} {x z : XS} {r : Int32} (hf : fX8_keep x = some (r, z)) : Ct G l yX8_keep (.code yX8_keep cX8_keep 1 (some .int)) rmX8_keep [.ref (G.1 + 99)] x (some (.int r)) z := by
  refine Ct.of (by decide +kernel) (Nat.le_of_ble_eq_true rfl) ?_
  intro p e s m args below meth c C ls hl hS
  have C : CX G p s m args meth c cX8_keep 1 (some .int) RX8 := C
  have hl : lv_has ls 1 [(0, .ref (G.1 + 99))] := hl
  have hx := C.1
  have hb := C.2.1
  have hown := C.2.2.2.2.2.1
  have hw := C.2.2.2.2.2.2.1
  unfold fX8_keep at hf
  refine lv_aload_n hx hb dX8_keep_0 rfl (lv_at hl 0 rfl) ?_
  refine gf7_0 C hS (rfl) g_805 dX8_keep_1 ?_
  refine lv_aload_n hx hb dX8_keep_4 rfl (lv_at hl 0 rfl) ?_
  refine gf7_1 C hS (rfl) g_806 dX8_keep_5 ?_
  obtain ⟨r_1, x_2, qr_1, hf⟩ := bd_out hf
  refine rsV (As := [.ref (G.1 + 100), .ref (G.1 + 101)]) (rest := []) C hS KX8_copyAll (cX8_copyAll_ (rfl) rfl (rfl) rfl qr_1) g_1228 ⟨rfl, rfl⟩ ⟨(Nat.le_of_ble_eq_true rfl), (Nat.le_of_ble_eq_true rfl)⟩ hl.1 rfl rfl (Nat.le_of_ble_eq_true rfl) ⟨Nat.zero_le _, Nat.zero_le _⟩ dX8_keep_8 (fun H locs hS => ?_)
  refine lv_aload_n hx hb dX8_keep_11 rfl (lv_at hl 0 rfl) ?_
  refine lv_iconst (v := 1) hx hb dX8_keep_12 (by decide) ?_
  obtain ⟨x_3, ex_3, hf⟩ := st_out hf
  refine pf7_3 C hS (rfl) g_808 rfl ex_3 dX8_keep_13 (fun H locs hS => ?_)
  refine lv_aload_n hx hb dX8_keep_16 rfl (lv_at hl 0 rfl) ?_
  refine gf7_0 C hS (rfl) g_805 dX8_keep_17 ?_
  refine lv_iconst (v := 1) hx hb dX8_keep_20 (by decide) ?_
  obtain ⟨gg_4, hf⟩ := gd_out hf
  refine alI C hS (rfl) rfl gg_4 dX8_keep_21 ?_
  exact rtI C hS hf dX8_keep_22
abbrev rmX8_back : Room := { frames := 1, cells := 0, slots := 0, locals := 22 }
set_option maxRecDepth 100000 in
set_option maxHeartbeats 4000000 in
theorem cX8_back_ {G : GT} {l : Launch} {x z : XS} {r : Int32} (hf : fX8_back x = some (r, z)) : Ct G l yX8_back (.code yX8_back cX8_back 1 (some .int)) rmX8_back [.ref (G.1 + 99)] x (some (.int r)) z := by
  refine Ct.of (by decide +kernel) (Nat.le_of_ble_eq_true rfl) ?_
  intro p e s m args below meth c C ls hl hS
  have C : CX G p s m args meth c cX8_back 1 (some .int) RX8 := C
  have hl : lv_has ls 1 [(0, .ref (G.1 + 99))] := hl
  have hx := C.1
  have hb := C.2.1
  have hown := C.2.2.2.2.2.1
  have hw := C.2.2.2.2.2.2.1
  unfold fX8_back at hf
  refine lv_aload_n hx hb dX8_back_0 rfl (lv_at hl 0 rfl) ?_
  refine gf7_3 C hS (rfl) g_808 dX8_back_1 ?_
  refine lv_if_ne (tgt := 11) hx hb dX8_back_4 (by decide) (fun c_1 => ?_) (fun c_1 => ?_)
  · replace hf := if_n c_1 hf
    refine lv_aload_n hx hb dX8_back_11 rfl (lv_at hl 0 rfl) ?_
    refine gf7_1 C hS (rfl) g_806 dX8_back_12 ?_
    refine lv_aload_n hx hb dX8_back_15 rfl (lv_at hl 0 rfl) ?_
    refine gf7_0 C hS (rfl) g_805 dX8_back_16 ?_
    obtain ⟨r_2, x_3, qr_2, hf⟩ := bd_out hf
    refine rsV (As := [.ref (G.1 + 101), .ref (G.1 + 100)]) (rest := []) C hS KX8_copyAll (cX8_copyAll_ (rfl) rfl (rfl) rfl qr_2) g_1228 ⟨rfl, rfl⟩ ⟨(Nat.le_of_ble_eq_true rfl), (Nat.le_of_ble_eq_true rfl)⟩ hl.1 rfl rfl (Nat.le_of_ble_eq_true rfl) ⟨Nat.zero_le _, Nat.zero_le _⟩ dX8_back_19 (fun H locs hS => ?_)
    refine lv_aload_n hx hb dX8_back_22 rfl (lv_at hl 0 rfl) ?_
    refine gf7_0 C hS (rfl) g_805 dX8_back_23 ?_
    refine lv_iconst (v := 1) hx hb dX8_back_26 (by decide) ?_
    obtain ⟨gg_4, hf⟩ := gd_out hf
    refine alI C hS (rfl) rfl gg_4 dX8_back_27 ?_
    exact rtI C hS hf dX8_back_28
  · replace hf := if_p c_1 hf
    refine lv_ldcw (v := (-1000000002)) hx hb hown (hw _ g_1219) dX8_back_7 ?_
    exact rtI C hS hf dX8_back_10
abbrev rmX8_count : Room := { frames := 0, cells := 0, slots := 0, locals := 0 }
set_option maxRecDepth 100000 in
set_option maxHeartbeats 4000000 in
theorem wX8_count_h66 {p : Program} {l : Launch} {e : Env} {s : State} {m : MethodId} {args : Array Value} {below : List Frame} {meth : Method} {c : Code} {G : GT} {r : Int32} {z : XS} (C : CX G p s m args meth c cX8_count 2 (some .int) RX8) : ∀ (u1 : Int32) (x : XS), fX8_count_h66 u1 x = some (r, z) → ∀ (H : Heap) (locs : List Loc) (ls : Array Slot), SR G x H locs → lv_has ls 2 [(0, .ref (G.1 + 99)), (1, .int u1)] → W p l e rmX8_count s m args below meth c H locs 0 0 (MQ below (QC G (some (.int r)) z) args s 0 0 (AB G)) (F0 m 66 ls []) := by
  intro u1 x hf H locs ls hS hl
  have hx := C.1
  have hb := C.2.1
  have hown := C.2.2.2.2.2.1
  have hw := C.2.2.2.2.2.2.1
  unfold fX8_count_h66 at hf
  refine lv_aload_n hx hb dX8_count_66 rfl (lv_at hl 0 rfl) ?_
  refine gf7_0 C hS (rfl) g_805 dX8_count_67 ?_
  refine lv_iconst (v := 1) hx hb dX8_count_70 (by decide) ?_
  refine lv_iload_n hx hb dX8_count_71 rfl (lv_at hl 1 rfl) ?_
  refine lv_iadd hx hb dX8_count_72 ?_
  obtain ⟨gg_14, hf⟩ := gd_out hf
  refine alI C hS (rfl) rfl gg_14 dX8_count_73 ?_
  exact rtI C hS hf dX8_count_74
set_option maxRecDepth 100000 in
set_option maxHeartbeats 4000000 in
theorem cX8_count_ {G : GT} {l : Launch} {v1 : Int32} {x z : XS} {r : Int32} (hf : fX8_count v1 x = some (r, z)) : Ct G l yX8_count (.code yX8_count cX8_count 2 (some .int)) rmX8_count [.ref (G.1 + 99), .int v1] x (some (.int r)) z := by
  refine Ct.of (by decide +kernel) (Nat.le_of_ble_eq_true rfl) ?_
  intro p e s m args below meth c C ls hl hS
  have C : CX G p s m args meth c cX8_count 2 (some .int) RX8 := C
  have hl : lv_has ls 2 [(0, .ref (G.1 + 99)), (1, .int v1)] := hl
  have hx := C.1
  have hb := C.2.1
  have hown := C.2.2.2.2.2.1
  have hw := C.2.2.2.2.2.2.1
  unfold fX8_count at hf
  refine lv_iload_n hx hb dX8_count_0 rfl (lv_at hl 1 rfl) ?_
  by_cases c_1 : v1 = 0
  · replace hf := if_p c_1 hf
    refine tswI (k := 0) (off := 51) (tgt := 52) hx hb dX8_count_1 c_1 (by decide) rfl (by decide) ?_
    refine lv_aload_n hx hb dX8_count_52 rfl (lv_at hl 0 rfl) ?_
    refine gf7_0 C hS (rfl) g_805 dX8_count_53 ?_
    refine lv_iconst (v := 1) hx hb dX8_count_56 (by decide) ?_
    obtain ⟨gg_2, hf⟩ := gd_out hf
    refine alI C hS (rfl) rfl gg_2 dX8_count_57 ?_
    exact rtI C hS hf dX8_count_58
  · replace hf := if_n c_1 hf
    by_cases c_3 : v1 = 1
    · replace hf := if_p c_3 hf
      refine tswI (k := 1) (off := 58) (tgt := 59) hx hb dX8_count_1 c_3 (by decide) rfl (by decide) ?_
      refine lv_aload_n hx hb dX8_count_59 rfl (lv_at hl 0 rfl) ?_
      refine gf7_0 C hS (rfl) g_805 dX8_count_60 ?_
      refine lv_iconst (v := 2) hx hb dX8_count_63 (by decide) ?_
      obtain ⟨gg_4, hf⟩ := gd_out hf
      refine alI C hS (rfl) rfl gg_4 dX8_count_64 ?_
      exact rtI C hS hf dX8_count_65
    · replace hf := if_n c_3 hf
      by_cases c_5 : v1 = 2
      · replace hf := if_p c_5 hf
        refine tswI (k := 2) (off := 65) (tgt := 66) hx hb dX8_count_1 c_5 (by decide) rfl (by decide) ?_
        exact wX8_count_h66  C v1 x hf _ _ _ hS (lv_sub hl [0, 1] rfl)
      · replace hf := if_n c_5 hf
        by_cases c_6 : v1 = 3
        · replace hf := if_p c_6 hf
          refine tswI (k := 3) (off := 65) (tgt := 66) hx hb dX8_count_1 c_6 (by decide) rfl (by decide) ?_
          exact wX8_count_h66  C v1 x hf _ _ _ hS (lv_sub hl [0, 1] rfl)
        · replace hf := if_n c_6 hf
          by_cases c_7 : v1 = 4
          · replace hf := if_p c_7 hf
            refine tswI (k := 4) (off := 65) (tgt := 66) hx hb dX8_count_1 c_7 (by decide) rfl (by decide) ?_
            exact wX8_count_h66  C v1 x hf _ _ _ hS (lv_sub hl [0, 1] rfl)
          · replace hf := if_n c_7 hf
            by_cases c_8 : v1 = 5
            · replace hf := if_p c_8 hf
              refine tswI (k := 5) (off := 74) (tgt := 75) hx hb dX8_count_1 c_8 (by decide) rfl (by decide) ?_
              refine lv_aload_n hx hb dX8_count_75 rfl (lv_at hl 0 rfl) ?_
              refine gf7_0 C hS (rfl) g_805 dX8_count_76 ?_
              refine lv_bipush (v := 8) hx hb dX8_count_79 (by decide) ?_
              obtain ⟨gg_9, hf⟩ := gd_out hf
              refine alI C hS (rfl) rfl gg_9 dX8_count_81 ?_
              exact rtI C hS hf dX8_count_82
            · replace hf := if_n c_8 hf
              by_cases c_10 : v1 = 6
              · replace hf := if_p c_10 hf
                refine tswI (k := 6) (off := 82) (tgt := 83) hx hb dX8_count_1 c_10 (by decide) rfl (by decide) ?_
                refine lv_aload_n hx hb dX8_count_83 rfl (lv_at hl 0 rfl) ?_
                refine gf7_33 C hS (rfl) g_838 dX8_count_84 ?_
                exact rtI C hS hf dX8_count_87
              · replace hf := if_n c_10 hf
                by_cases c_11 : v1 = 7
                · replace hf := if_p c_11 hf
                  refine tswI (k := 7) (off := 87) (tgt := 88) hx hb dX8_count_1 c_11 (by decide) rfl (by decide) ?_
                  refine lv_aload_n hx hb dX8_count_88 rfl (lv_at hl 0 rfl) ?_
                  refine gf7_7 C hS (rfl) g_812 dX8_count_89 ?_
                  exact rtI C hS hf dX8_count_92
                · replace hf := if_n c_11 hf
                  by_cases c_12 : v1 = 8
                  · replace hf := if_p c_12 hf
                    refine tswI (k := 8) (off := 92) (tgt := 93) hx hb dX8_count_1 c_12 (by decide) rfl (by decide) ?_
                    refine lv_aload_n hx hb dX8_count_93 rfl (lv_at hl 0 rfl) ?_
                    refine gf7_0 C hS (rfl) g_805 dX8_count_94 ?_
                    refine lv_iconst (v := 0) hx hb dX8_count_97 (by decide) ?_
                    obtain ⟨gg_13, hf⟩ := gd_out hf
                    refine alI C hS (rfl) rfl gg_13 dX8_count_98 ?_
                    exact rtI C hS hf dX8_count_99
                  · replace hf := if_n c_12 hf
                    refine lv_tableOut (tgt := 100) hx hb dX8_count_1 (by have zc_1 := lv_neT c_1 (a := 0) (by decide); have zc_3 := lv_neT c_3 (a := 1) (by decide); have zc_5 := lv_neT c_5 (a := 2) (by decide); have zc_6 := lv_neT c_6 (a := 3) (by decide); have zc_7 := lv_neT c_7 (a := 4) (by decide); have zc_8 := lv_neT c_8 (a := 5) (by decide); have zc_10 := lv_neT c_10 (a := 6) (by decide); have zc_11 := lv_neT c_11 (a := 7) (by decide); have zc_12 := lv_neT c_12 (a := 8) (by decide); omega) (by decide) ?_
                    refine lv_ldc (v := (-1000000001)) hx hb hown (hw _ g_920) dX8_count_100 ?_
                    exact rtI C hS hf dX8_count_102
