abbrev rmX7_isKind : Room := { frames := 0, cells := 0, slots := 0, locals := 0 }
set_option maxRecDepth 100000 in
set_option maxHeartbeats 4000000 in
theorem cX7_isKind_ {G : GT} {l : Launch} {v0 : Int32} {x z : XS} {r : Int32} (hf : fX7_isKind v0 x = some (r, z)) : Ct G l yX7_isKind (.code yX7_isKind cX7_isKind 1 (some .boolean)) rmX7_isKind [.int v0] x (some (.int r)) z := by
  refine Ct.of (by decide +kernel) (Nat.le_of_ble_eq_true rfl) ?_
  intro p e s m args below meth c C ls hl hS
  have C : CX G p s m args meth c cX7_isKind 1 (some .boolean) RX7 := C
  have hl : lv_has ls 1 [(0, .int v0)] := hl
  have hx := C.1
  have hb := C.2.1
  have hown := C.2.2.2.2.2.1
  have hw := C.2.2.2.2.2.2.1
  unfold fX7_isKind at hf
  refine lv_iload_n hx hb dX7_isKind_0 rfl (lv_at hl 0 rfl) ?_
  refine lv_if_lt (tgt := 14) hx hb dX7_isKind_1 (by decide) (fun c_1 => ?_) (fun c_1 => ?_)
  · replace hf := if_p c_1 hf
    refine lv_iconst (v := 0) hx hb dX7_isKind_14 (by decide) ?_
    exact rtZ C hS rfl hf dX7_isKind_15
  · replace hf := if_n c_1 hf
    refine lv_iload_n hx hb dX7_isKind_4 rfl (lv_at hl 0 rfl) ?_
    refine lv_bipush (v := 6) hx hb dX7_isKind_5 (by decide) ?_
    refine lv_icmp_ge (tgt := 14) hx hb dX7_isKind_7 (by decide) (fun c_2 => ?_) (fun c_2 => ?_)
    · replace hf := if_p c_2 hf
      refine lv_iconst (v := 0) hx hb dX7_isKind_14 (by decide) ?_
      exact rtZ C hS rfl hf dX7_isKind_15
    · replace hf := if_n c_2 hf
      refine lv_iconst (v := 1) hx hb dX7_isKind_10 (by decide) ?_
      refine lv_goto (tgt := 15) hx hb dX7_isKind_11 (by decide) ?_
      exact rtZ C hS rfl hf dX7_isKind_15
abbrev rmX7_boy : Room := { frames := 2, cells := 0, slots := 0, locals := 48 }
set_option maxRecDepth 100000 in
set_option maxHeartbeats 4000000 in
theorem cX7_boy_ {G : GT} {l : Launch} {v1 : Int32} {v2 : Int32} {v3 : Int32} {v4 : Int32} {x z : XS} {r : Int32} (hf : fX7_boy v1 v2 v3 v4 x = some (r, z)) : Ct G l yX7_boy (.code yX7_boy cX7_boy 5 (some .int)) rmX7_boy [.ref (G.1 + 0), .int v1, .int v2, .int v3, .int v4] x (some (.int r)) z := by
  refine Ct.of (by decide +kernel) (Nat.le_of_ble_eq_true rfl) ?_
  intro p e s m args below meth c C ls hl hS
  have C : CX G p s m args meth c cX7_boy 5 (some .int) RX7 := C
  have hl : lv_has ls 5 [(0, .ref (G.1 + 0)), (1, .int v1), (2, .int v2), (3, .int v3), (4, .int v4)] := hl
  have hx := C.1
  have hb := C.2.1
  have hown := C.2.2.2.2.2.1
  have hw := C.2.2.2.2.2.2.1
  unfold fX7_boy at hf
  refine lv_iload_n hx hb dX7_boy_0 rfl (lv_at hl 1 rfl) ?_
  obtain ⟨r_1, x_2, qr_1, hf⟩ := bd_out hf
  refine rsI (As := [.int v1]) (rest := []) C hS KX7_isKind (cX7_isKind_ qr_1) g_261 ⟨rfl, rfl⟩ ⟨(Nat.le_of_ble_eq_true rfl), (Nat.le_of_ble_eq_true rfl)⟩ hl.1 rfl rfl (Nat.le_of_ble_eq_true rfl) ⟨Nat.zero_le _, Nat.zero_le _⟩ dX7_boy_1 (fun H locs hS => ?_)
  refine lv_if_eq (tgt := 32) hx hb dX7_boy_4 (by decide) (fun c_3 => ?_) (fun c_3 => ?_)
  · replace hf := if_p c_3 hf
    refine lv_ldc (v := (-1000000001)) hx hb hown (hw _ g_267) dX7_boy_32 ?_
    exact rtI C hS hf dX7_boy_34
  · replace hf := if_n c_3 hf
    refine lv_iconst (v := 1) hx hb dX7_boy_7 (by decide) ?_
    refine lv_iload_n hx hb dX7_boy_8 rfl (lv_at hl 2 rfl) ?_
    obtain ⟨r_4, x_5, qr_4, hf⟩ := bd_out hf
    refine rsI (As := [.int 1, .int v2]) (rest := []) C hS KX0_mayBe (cX0_mayBe_ qr_4) g_264 ⟨rfl, rfl⟩ ⟨(Nat.le_of_ble_eq_true rfl), (Nat.le_of_ble_eq_true rfl)⟩ hl.1 rfl rfl (Nat.le_of_ble_eq_true rfl) ⟨Nat.zero_le _, Nat.zero_le _⟩ dX7_boy_9 (fun H locs hS => ?_)
    refine lv_if_eq (tgt := 32) hx hb dX7_boy_12 (by decide) (fun c_6 => ?_) (fun c_6 => ?_)
    · replace hf := if_p c_6 hf
      refine lv_ldc (v := (-1000000001)) hx hb hown (hw _ g_267) dX7_boy_32 ?_
      exact rtI C hS hf dX7_boy_34
    · replace hf := if_n c_6 hf
      refine lv_iconst (v := 2) hx hb dX7_boy_15 (by decide) ?_
      refine lv_iload_n hx hb dX7_boy_16 rfl (lv_at hl 3 rfl) ?_
      obtain ⟨r_7, x_8, qr_7, hf⟩ := bd_out hf
      refine rsI (As := [.int 2, .int v3]) (rest := []) C hS KX0_mayBe (cX0_mayBe_ qr_7) g_264 ⟨rfl, rfl⟩ ⟨(Nat.le_of_ble_eq_true rfl), (Nat.le_of_ble_eq_true rfl)⟩ hl.1 rfl rfl (Nat.le_of_ble_eq_true rfl) ⟨Nat.zero_le _, Nat.zero_le _⟩ dX7_boy_17 (fun H locs hS => ?_)
      refine lv_if_eq (tgt := 32) hx hb dX7_boy_20 (by decide) (fun c_9 => ?_) (fun c_9 => ?_)
      · replace hf := if_p c_9 hf
        refine lv_ldc (v := (-1000000001)) hx hb hown (hw _ g_267) dX7_boy_32 ?_
        exact rtI C hS hf dX7_boy_34
      · replace hf := if_n c_9 hf
        refine lv_iconst (v := 3) hx hb dX7_boy_23 (by decide) ?_
        refine lv_iload hx hb dX7_boy_24 (lv_at hl 4 rfl) ?_
        obtain ⟨r_10, x_11, qr_10, hf⟩ := bd_out hf
        refine rsI (As := [.int 3, .int v4]) (rest := []) C hS KX0_mayBe (cX0_mayBe_ qr_10) g_264 ⟨rfl, rfl⟩ ⟨(Nat.le_of_ble_eq_true rfl), (Nat.le_of_ble_eq_true rfl)⟩ hl.1 rfl rfl (Nat.le_of_ble_eq_true rfl) ⟨Nat.zero_le _, Nat.zero_le _⟩ dX7_boy_26 (fun H locs hS => ?_)
        refine lv_if_ne (tgt := 35) hx hb dX7_boy_29 (by decide) (fun c_12 => ?_) (fun c_12 => ?_)
        · replace hf := if_n c_12 hf
          refine lv_aload_n hx hb dX7_boy_35 rfl (lv_at hl 0 rfl) ?_
          refine gf6_2 C hS (rfl) g_228 dX7_boy_36 ?_
          refine gf3_2 C hS (rfl) g_105 dX7_boy_39 ?_
          refine lv_bipush (v := 8) hx hb dX7_boy_42 (by decide) ?_
          refine lv_icmp_lt (tgt := 50) hx hb dX7_boy_44 (by decide) (fun c_13 => ?_) (fun c_13 => ?_)
          · replace hf := if_p c_13 hf
            refine lv_aload_n hx hb dX7_boy_50 rfl (lv_at hl 0 rfl) ?_
            refine gf6_2 C hS (rfl) g_228 dX7_boy_51 ?_
            refine lv_iload_n hx hb dX7_boy_54 rfl (lv_at hl 1 rfl) ?_
            refine lv_iload_n hx hb dX7_boy_55 rfl (lv_at hl 2 rfl) ?_
            refine lv_iload_n hx hb dX7_boy_56 rfl (lv_at hl 3 rfl) ?_
            refine lv_iload hx hb dX7_boy_57 (lv_at hl 4 rfl) ?_
            obtain ⟨r_14, x_15, qr_14, hf⟩ := bd_out hf
            refine rvV (As := [.int v1, .int v2, .int v3, .int v4]) (rest := []) C hS (rfl) rfl KX4_addBoy (cX4_addBoy_ (rfl) qr_14) g_269 ⟨rfl, rfl⟩ ⟨(Nat.le_of_ble_eq_true rfl), (Nat.le_of_ble_eq_true rfl)⟩ hl.1 rfl rfl (Nat.le_of_ble_eq_true rfl) ⟨Nat.zero_le _, Nat.zero_le _⟩ dX7_boy_59 (fun H locs hS => ?_)
            refine lv_aload_n hx hb dX7_boy_62 rfl (lv_at hl 0 rfl) ?_
            refine gf6_2 C hS (rfl) g_228 dX7_boy_63 ?_
            refine gf3_2 C hS (rfl) g_105 dX7_boy_66 ?_
            refine lv_iconst (v := 1) hx hb dX7_boy_69 (by decide) ?_
            refine lv_isub hx hb dX7_boy_70 ?_
            exact rtI C hS hf dX7_boy_71
          · replace hf := if_n c_13 hf
            refine lv_ldc (v := (-1000000003)) hx hb hown (hw _ g_268) dX7_boy_47 ?_
            exact rtI C hS hf dX7_boy_49
        · replace hf := if_p c_12 hf
          refine lv_ldc (v := (-1000000001)) hx hb hown (hw _ g_267) dX7_boy_32 ?_
          exact rtI C hS hf dX7_boy_34
abbrev rmX7_isBoy : Room := { frames := 0, cells := 0, slots := 0, locals := 0 }
set_option maxRecDepth 100000 in
set_option maxHeartbeats 4000000 in
theorem cX7_isBoy_ {G : GT} {l : Launch} {v1 : Int32} {x z : XS} {r : Int32} (hf : fX7_isBoy v1 x = some (r, z)) : Ct G l yX7_isBoy (.code yX7_isBoy cX7_isBoy 2 (some .boolean)) rmX7_isBoy [.ref (G.1 + 0), .int v1] x (some (.int r)) z := by
  refine Ct.of (by decide +kernel) (Nat.le_of_ble_eq_true rfl) ?_
  intro p e s m args below meth c C ls hl hS
  have C : CX G p s m args meth c cX7_isBoy 2 (some .boolean) RX7 := C
  have hl : lv_has ls 2 [(0, .ref (G.1 + 0)), (1, .int v1)] := hl
  have hx := C.1
  have hb := C.2.1
  have hown := C.2.2.2.2.2.1
  have hw := C.2.2.2.2.2.2.1
  unfold fX7_isBoy at hf
  refine lv_iload_n hx hb dX7_isBoy_0 rfl (lv_at hl 1 rfl) ?_
  refine lv_if_lt (tgt := 19) hx hb dX7_isBoy_1 (by decide) (fun c_1 => ?_) (fun c_1 => ?_)
  · replace hf := if_p c_1 hf
    refine lv_iconst (v := 0) hx hb dX7_isBoy_19 (by decide) ?_
    exact rtZ C hS rfl hf dX7_isBoy_20
  · replace hf := if_n c_1 hf
    refine lv_iload_n hx hb dX7_isBoy_4 rfl (lv_at hl 1 rfl) ?_
    refine lv_aload_n hx hb dX7_isBoy_5 rfl (lv_at hl 0 rfl) ?_
    refine gf6_2 C hS (rfl) g_228 dX7_isBoy_6 ?_
    refine gf3_2 C hS (rfl) g_105 dX7_isBoy_9 ?_
    refine lv_icmp_ge (tgt := 19) hx hb dX7_isBoy_12 (by decide) (fun c_2 => ?_) (fun c_2 => ?_)
    · replace hf := if_p c_2 hf
      refine lv_iconst (v := 0) hx hb dX7_isBoy_19 (by decide) ?_
      exact rtZ C hS rfl hf dX7_isBoy_20
    · replace hf := if_n c_2 hf
      refine lv_iconst (v := 1) hx hb dX7_isBoy_15 (by decide) ?_
      refine lv_goto (tgt := 20) hx hb dX7_isBoy_16 (by decide) ?_
      exact rtZ C hS rfl hf dX7_isBoy_20
abbrev rmX7_told : Room := { frames := 3, cells := 0, slots := 0, locals := 102 }
set_option maxRecDepth 100000 in
set_option maxHeartbeats 4000000 in
theorem cX7_told_ {G : GT} {l : Launch} {v1 : Int32} {v2 : Int32} {x z : XS} {r : Int32} (hf : fX7_told v1 v2 x = some (r, z)) : Ct G l yX7_told (.code yX7_told cX7_told 3 (some .int)) rmX7_told [.ref (G.1 + 0), .int v1, .int v2] x (some (.int r)) z := by
  refine Ct.of (by decide +kernel) (Nat.le_of_ble_eq_true rfl) ?_
  intro p e s m args below meth c C ls hl hS
  have C : CX G p s m args meth c cX7_told 3 (some .int) RX7 := C
  have hl : lv_has ls 3 [(0, .ref (G.1 + 0)), (1, .int v1), (2, .int v2)] := hl
  have hx := C.1
  have hb := C.2.1
  have hown := C.2.2.2.2.2.1
  have hw := C.2.2.2.2.2.2.1
  unfold fX7_told at hf
  refine lv_aload_n hx hb dX7_told_0 rfl (lv_at hl 0 rfl) ?_
  refine lv_iload_n hx hb dX7_told_1 rfl (lv_at hl 1 rfl) ?_
  obtain ⟨r_1, x_2, qr_1, hf⟩ := bd_out hf
  refine rvI (As := [.int v1]) (rest := []) C hS (rfl) rfl KX7_isBoy (cX7_isBoy_ qr_1) g_281 ⟨rfl, rfl⟩ ⟨(Nat.le_of_ble_eq_true rfl), (Nat.le_of_ble_eq_true rfl)⟩ hl.1 rfl rfl (Nat.le_of_ble_eq_true rfl) ⟨Nat.zero_le _, Nat.zero_le _⟩ dX7_told_2 (fun H locs hS => ?_)
  refine lv_if_eq (tgt := 18) hx hb dX7_told_5 (by decide) (fun c_3 => ?_) (fun c_3 => ?_)
  · replace hf := if_p c_3 hf
    refine lv_ldc (v := (-1000000001)) hx hb hown (hw _ g_267) dX7_told_18 ?_
    exact rtI C hS hf dX7_told_20
  · replace hf := if_n c_3 hf
    refine lv_iload_n hx hb dX7_told_8 rfl (lv_at hl 2 rfl) ?_
    refine lv_if_lt (tgt := 18) hx hb dX7_told_9 (by decide) (fun c_4 => ?_) (fun c_4 => ?_)
    · replace hf := if_p c_4 hf
      refine lv_ldc (v := (-1000000001)) hx hb hown (hw _ g_267) dX7_told_18 ?_
      exact rtI C hS hf dX7_told_20
    · replace hf := if_n c_4 hf
      refine lv_iload_n hx hb dX7_told_12 rfl (lv_at hl 2 rfl) ?_
      refine lv_bipush (v := 9) hx hb dX7_told_13 (by decide) ?_
      refine lv_icmp_le (tgt := 21) hx hb dX7_told_15 (by decide) (fun c_5 => ?_) (fun c_5 => ?_)
      · replace hf := if_p c_5 hf
        refine lv_aload_n hx hb dX7_told_21 rfl (lv_at hl 0 rfl) ?_
        refine gf6_2 C hS (rfl) g_228 dX7_told_22 ?_
        refine gf3_0 C hS (rfl) g_102 dX7_told_25 ?_
        refine lv_iload_n hx hb dX7_told_28 rfl (lv_at hl 1 rfl) ?_
        obtain ⟨gg_6, hf⟩ := gd_out hf
        refine alV C hS (rfl) (by decide) (by decide) 4 rfl rfl gg_6 (v := .ref (G.1 + (7 + (ix v1)))) (vwR (rfl) (by decide) rfl) dX7_told_29 ?_
        refine lv_iload_n hx hb dX7_told_30 rfl (lv_at hl 2 rfl) ?_
        obtain ⟨r_7, x_8, qr_7, hf⟩ := bd_out hf
        refine rvI (As := [.int v2]) (rest := []) C hS (el12 (a := 5) rfl gg_6) rfl KX0_fact (cX0_fact_ (el12 (a := 5) rfl gg_6) qr_7) g_285 ⟨rfl, rfl⟩ ⟨(Nat.le_of_ble_eq_true rfl), (Nat.le_of_ble_eq_true rfl)⟩ hl.1 rfl rfl (Nat.le_of_ble_eq_true rfl) ⟨Nat.zero_le _, Nat.zero_le _⟩ dX7_told_31 (fun H locs hS => ?_)
        exact rtI C hS hf dX7_told_34
      · replace hf := if_n c_5 hf
        refine lv_ldc (v := (-1000000001)) hx hb hown (hw _ g_267) dX7_told_18 ?_
        exact rtI C hS hf dX7_told_20
abbrev rmX7_shine : Room := { frames := 3, cells := 0, slots := 0, locals := 109 }
set_option maxRecDepth 100000 in
set_option maxHeartbeats 4000000 in
theorem cX7_shine_ {G : GT} {l : Launch} {v1 : Int32} {v2 : Int32} {v3 : Int32} {x z : XS} {r : Int32} (hf : fX7_shine v1 v2 v3 x = some (r, z)) : Ct G l yX7_shine (.code yX7_shine cX7_shine 4 (some .int)) rmX7_shine [.ref (G.1 + 0), .int v1, .int v2, .int v3] x (some (.int r)) z := by
  refine Ct.of (by decide +kernel) (Nat.le_of_ble_eq_true rfl) ?_
  intro p e s m args below meth c C ls hl hS
  have C : CX G p s m args meth c cX7_shine 4 (some .int) RX7 := C
  have hl : lv_has ls 4 [(0, .ref (G.1 + 0)), (1, .int v1), (2, .int v2), (3, .int v3)] := hl
  have hx := C.1
  have hb := C.2.1
  have hown := C.2.2.2.2.2.1
  have hw := C.2.2.2.2.2.2.1
  unfold fX7_shine at hf
  refine lv_aload_n hx hb dX7_shine_0 rfl (lv_at hl 0 rfl) ?_
  refine lv_iload_n hx hb dX7_shine_1 rfl (lv_at hl 1 rfl) ?_
  obtain ⟨r_1, x_2, qr_1, hf⟩ := bd_out hf
  refine rvI (As := [.int v1]) (rest := []) C hS (rfl) rfl KX7_isBoy (cX7_isBoy_ qr_1) g_281 ⟨rfl, rfl⟩ ⟨(Nat.le_of_ble_eq_true rfl), (Nat.le_of_ble_eq_true rfl)⟩ hl.1 rfl rfl (Nat.le_of_ble_eq_true rfl) ⟨Nat.zero_le _, Nat.zero_le _⟩ dX7_shine_2 (fun H locs hS => ?_)
  refine lv_if_eq (tgt := 28) hx hb dX7_shine_5 (by decide) (fun c_3 => ?_) (fun c_3 => ?_)
  · replace hf := if_p c_3 hf
    refine lv_ldc (v := (-1000000001)) hx hb hown (hw _ g_267) dX7_shine_28 ?_
    exact rtI C hS hf dX7_shine_30
  · replace hf := if_n c_3 hf
    refine lv_iload_n hx hb dX7_shine_8 rfl (lv_at hl 2 rfl) ?_
    refine lv_if_lt (tgt := 28) hx hb dX7_shine_9 (by decide) (fun c_4 => ?_) (fun c_4 => ?_)
    · replace hf := if_p c_4 hf
      refine lv_ldc (v := (-1000000001)) hx hb hown (hw _ g_267) dX7_shine_28 ?_
      exact rtI C hS hf dX7_shine_30
    · replace hf := if_n c_4 hf
      refine lv_iload_n hx hb dX7_shine_12 rfl (lv_at hl 2 rfl) ?_
      refine lv_bipush (v := 40) hx hb dX7_shine_13 (by decide) ?_
      refine lv_icmp_gt (tgt := 28) hx hb dX7_shine_15 (by decide) (fun c_5 => ?_) (fun c_5 => ?_)
      · replace hf := if_p c_5 hf
        refine lv_ldc (v := (-1000000001)) hx hb hown (hw _ g_267) dX7_shine_28 ?_
        exact rtI C hS hf dX7_shine_30
      · replace hf := if_n c_5 hf
        refine lv_iload_n hx hb dX7_shine_18 rfl (lv_at hl 3 rfl) ?_
        refine lv_if_lt (tgt := 28) hx hb dX7_shine_19 (by decide) (fun c_6 => ?_) (fun c_6 => ?_)
        · replace hf := if_p c_6 hf
          refine lv_ldc (v := (-1000000001)) hx hb hown (hw _ g_267) dX7_shine_28 ?_
          exact rtI C hS hf dX7_shine_30
        · replace hf := if_n c_6 hf
          refine lv_iload_n hx hb dX7_shine_22 rfl (lv_at hl 3 rfl) ?_
          refine lv_bipush (v := 9) hx hb dX7_shine_23 (by decide) ?_
          refine lv_icmp_le (tgt := 31) hx hb dX7_shine_25 (by decide) (fun c_7 => ?_) (fun c_7 => ?_)
          · replace hf := if_p c_7 hf
            refine lv_aload_n hx hb dX7_shine_31 rfl (lv_at hl 0 rfl) ?_
            refine gf6_2 C hS (rfl) g_228 dX7_shine_32 ?_
            refine lv_aload_n hx hb dX7_shine_35 rfl (lv_at hl 0 rfl) ?_
            refine gf6_2 C hS (rfl) g_228 dX7_shine_36 ?_
            refine gf3_0 C hS (rfl) g_102 dX7_shine_39 ?_
            refine lv_iload_n hx hb dX7_shine_42 rfl (lv_at hl 1 rfl) ?_
            obtain ⟨gg_8, hf⟩ := gd_out hf
            refine alV C hS (rfl) (by decide) (by decide) 4 rfl rfl gg_8 (v := .ref (G.1 + (7 + (ix v1)))) (vwR (rfl) (by decide) rfl) dX7_shine_43 ?_
            refine lv_iload_n hx hb dX7_shine_44 rfl (lv_at hl 2 rfl) ?_
            refine lv_iload_n hx hb dX7_shine_45 rfl (lv_at hl 3 rfl) ?_
            obtain ⟨r_9, x_10, qr_9, hf⟩ := bd_out hf
            refine rvI (As := [.ref (G.1 + (7 + (ix v1))), .int v2, .int v3]) (rest := []) C hS (rfl) rfl KX4_shineOf (cX4_shineOf_ (rfl) (el12 (a := 5) rfl gg_8) qr_9) g_305 ⟨rfl, rfl⟩ ⟨(Nat.le_of_ble_eq_true rfl), (Nat.le_of_ble_eq_true rfl)⟩ hl.1 rfl rfl (Nat.le_of_ble_eq_true rfl) ⟨Nat.zero_le _, Nat.zero_le _⟩ dX7_shine_46 (fun H locs hS => ?_)
            exact rtI C hS hf dX7_shine_49
          · replace hf := if_n c_7 hf
            refine lv_ldc (v := (-1000000001)) hx hb hown (hw _ g_267) dX7_shine_28 ?_
            exact rtI C hS hf dX7_shine_30
abbrev rmX7_as : Room := { frames := 1, cells := 0, slots := 0, locals := 23 }
set_option maxRecDepth 100000 in
set_option maxHeartbeats 4000000 in
theorem cX7_as_ {G : GT} {l : Launch} {v1 : Int32} {v2 : Int32} {x z : XS} {r : Int32} (hf : fX7_as v1 v2 x = some (r, z)) : Ct G l yX7_as (.code yX7_as cX7_as 4 (some .int)) rmX7_as [.ref (G.1 + 0), .int v1, .int v2] x (some (.int r)) z := by
  refine Ct.of (by decide +kernel) (Nat.le_of_ble_eq_true rfl) ?_
  intro p e s m args below meth c C ls hl hS
  have C : CX G p s m args meth c cX7_as 4 (some .int) RX7 := C
  have hl : lv_has ls 4 [(0, .ref (G.1 + 0)), (1, .int v1), (2, .int v2)] := hl
  have hx := C.1
  have hb := C.2.1
  have hown := C.2.2.2.2.2.1
  have hw := C.2.2.2.2.2.2.1
  unfold fX7_as at hf
  refine lv_aload_n hx hb dX7_as_0 rfl (lv_at hl 0 rfl) ?_
  refine lv_iload_n hx hb dX7_as_1 rfl (lv_at hl 1 rfl) ?_
  obtain ⟨r_1, x_2, qr_1, hf⟩ := bd_out hf
  refine rvI (As := [.int v1]) (rest := []) C hS (rfl) rfl KX7_isBoy (cX7_isBoy_ qr_1) g_281 ⟨rfl, rfl⟩ ⟨(Nat.le_of_ble_eq_true rfl), (Nat.le_of_ble_eq_true rfl)⟩ hl.1 rfl rfl (Nat.le_of_ble_eq_true rfl) ⟨Nat.zero_le _, Nat.zero_le _⟩ dX7_as_2 (fun H locs hS => ?_)
  refine lv_if_eq (tgt := 15) hx hb dX7_as_5 (by decide) (fun c_3 => ?_) (fun c_3 => ?_)
  · replace hf := if_p c_3 hf
    refine lv_ldc (v := (-1000000001)) hx hb hown (hw _ g_267) dX7_as_15 ?_
    exact rtI C hS hf dX7_as_17
  · replace hf := if_n c_3 hf
    refine lv_iload_n hx hb dX7_as_8 rfl (lv_at hl 2 rfl) ?_
    obtain ⟨r_4, x_5, qr_4, hf⟩ := bd_out hf
    refine rsI (As := [.int v2]) (rest := []) C hS KX7_isKind (cX7_isKind_ qr_4) g_261 ⟨rfl, rfl⟩ ⟨(Nat.le_of_ble_eq_true rfl), (Nat.le_of_ble_eq_true rfl)⟩ hl.1 rfl rfl (Nat.le_of_ble_eq_true rfl) ⟨Nat.zero_le _, Nat.zero_le _⟩ dX7_as_9 (fun H locs hS => ?_)
    refine lv_if_ne (tgt := 18) hx hb dX7_as_12 (by decide) (fun c_6 => ?_) (fun c_6 => ?_)
    · replace hf := if_n c_6 hf
      refine lv_aload_n hx hb dX7_as_18 rfl (lv_at hl 0 rfl) ?_
      refine gf6_2 C hS (rfl) g_228 dX7_as_19 ?_
      refine gf3_0 C hS (rfl) g_102 dX7_as_22 ?_
      refine lv_iload_n hx hb dX7_as_25 rfl (lv_at hl 1 rfl) ?_
      obtain ⟨gg_7, hf⟩ := gd_out hf
      refine alV C hS (rfl) (by decide) (by decide) 4 rfl rfl gg_7 (v := .ref (G.1 + (7 + (ix v1)))) (vwR (rfl) (by decide) rfl) dX7_as_26 ?_
      refine lv_astore_n (lv' := [(3, .ref (G.1 + (7 + (ix v1)))), (0, .ref (G.1 + 0)), (1, .int v1), (2, .int v2)]) hx hb dX7_as_27 rfl hl (by decide) rfl (fun ls hl => ?_)
      refine lv_aload_n hx hb dX7_as_28 rfl (lv_at hl 0 rfl) ?_
      refine gf0_0 C hS (el12 (a := 5) rfl gg_7) g_69 dX7_as_29 ?_
      refine lv_iload_n hx hb dX7_as_32 rfl (lv_at hl 3 rfl) ?_
      obtain ⟨r_8, x_9, qr_8, hf⟩ := bd_out hf
      refine rsI (As := [.int (x_5 (7 + (ix v1)) 0), .int v2]) (rest := []) C hS KX1_isUnder (cX1_isUnder_ qr_8) g_334 ⟨rfl, rfl⟩ ⟨(Nat.le_of_ble_eq_true rfl), (Nat.le_of_ble_eq_true rfl)⟩ hl.1 rfl rfl (Nat.le_of_ble_eq_true rfl) ⟨Nat.zero_le _, Nat.zero_le _⟩ dX7_as_33 (fun H locs hS => ?_)
      refine lv_if_eq (tgt := 46) hx hb dX7_as_36 (by decide) (fun c_10 => ?_) (fun c_10 => ?_)
      · replace hf := if_p c_10 hf
        refine lv_ldc (v := (-1000000012)) hx hb hown (hw _ g_339) dX7_as_46 ?_
        exact rtI C hS hf dX7_as_48
      · replace hf := if_n c_10 hf
        refine lv_aload_n hx hb dX7_as_39 rfl (lv_at hl 0 rfl) ?_
        refine gf0_2 C hS (el12 (a := 5) rfl gg_7) g_74 dX7_as_40 ?_
        refine lv_goto (tgt := 48) hx hb dX7_as_43 (by decide) ?_
        exact rtI C hS hf dX7_as_48
    · replace hf := if_p c_6 hf
      refine lv_ldc (v := (-1000000001)) hx hb hown (hw _ g_267) dX7_as_15 ?_
      exact rtI C hS hf dX7_as_17
abbrev rmX7_turns : Room := { frames := 1, cells := 0, slots := 0, locals := 21 }
set_option maxRecDepth 100000 in
set_option maxHeartbeats 4000000 in
theorem cX7_turns_ {G : GT} {l : Launch} {v1 : Int32} {v2 : Int32} {x z : XS} {r : Int32} (hf : fX7_turns v1 v2 x = some (r, z)) : Ct G l yX7_turns (.code yX7_turns cX7_turns 4 (some .int)) rmX7_turns [.ref (G.1 + 0), .int v1, .int v2] x (some (.int r)) z := by
  refine Ct.of (by decide +kernel) (Nat.le_of_ble_eq_true rfl) ?_
  intro p e s m args below meth c C ls hl hS
  have C : CX G p s m args meth c cX7_turns 4 (some .int) RX7 := C
  have hl : lv_has ls 4 [(0, .ref (G.1 + 0)), (1, .int v1), (2, .int v2)] := hl
  have hx := C.1
  have hb := C.2.1
  have hown := C.2.2.2.2.2.1
  have hw := C.2.2.2.2.2.2.1
  unfold fX7_turns at hf
  refine lv_aload_n hx hb dX7_turns_0 rfl (lv_at hl 0 rfl) ?_
  refine lv_iload_n hx hb dX7_turns_1 rfl (lv_at hl 1 rfl) ?_
  obtain ⟨r_1, x_2, qr_1, hf⟩ := bd_out hf
  refine rvI (As := [.int v1]) (rest := []) C hS (rfl) rfl KX7_isBoy (cX7_isBoy_ qr_1) g_281 ⟨rfl, rfl⟩ ⟨(Nat.le_of_ble_eq_true rfl), (Nat.le_of_ble_eq_true rfl)⟩ hl.1 rfl rfl (Nat.le_of_ble_eq_true rfl) ⟨Nat.zero_le _, Nat.zero_le _⟩ dX7_turns_2 (fun H locs hS => ?_)
  refine lv_if_eq (tgt := 15) hx hb dX7_turns_5 (by decide) (fun c_3 => ?_) (fun c_3 => ?_)
  · replace hf := if_p c_3 hf
    refine lv_ldc (v := (-1000000001)) hx hb hown (hw _ g_267) dX7_turns_15 ?_
    exact rtI C hS hf dX7_turns_17
  · replace hf := if_n c_3 hf
    refine lv_iload_n hx hb dX7_turns_8 rfl (lv_at hl 2 rfl) ?_
    obtain ⟨r_4, x_5, qr_4, hf⟩ := bd_out hf
    refine rsI (As := [.int v2]) (rest := []) C hS KX7_isKind (cX7_isKind_ qr_4) g_261 ⟨rfl, rfl⟩ ⟨(Nat.le_of_ble_eq_true rfl), (Nat.le_of_ble_eq_true rfl)⟩ hl.1 rfl rfl (Nat.le_of_ble_eq_true rfl) ⟨Nat.zero_le _, Nat.zero_le _⟩ dX7_turns_9 (fun H locs hS => ?_)
    refine lv_if_ne (tgt := 18) hx hb dX7_turns_12 (by decide) (fun c_6 => ?_) (fun c_6 => ?_)
    · replace hf := if_n c_6 hf
      refine lv_aload_n hx hb dX7_turns_18 rfl (lv_at hl 0 rfl) ?_
      refine gf6_2 C hS (rfl) g_228 dX7_turns_19 ?_
      refine gf3_0 C hS (rfl) g_102 dX7_turns_22 ?_
      refine lv_iload_n hx hb dX7_turns_25 rfl (lv_at hl 1 rfl) ?_
      obtain ⟨gg_7, hf⟩ := gd_out hf
      refine alV C hS (rfl) (by decide) (by decide) 4 rfl rfl gg_7 (v := .ref (G.1 + (7 + (ix v1)))) (vwR (rfl) (by decide) rfl) dX7_turns_26 ?_
      refine gf0_0 C hS (el12 (a := 5) rfl gg_7) g_69 dX7_turns_27 ?_
      obtain ⟨v_8, ev_8, hf⟩ := st_out hf
      refine topI ev_8 ?_
      refine lv_istore_n (lv' := [(3, .int v_8), (0, .ref (G.1 + 0)), (1, .int v1), (2, .int v2)]) hx hb dX7_turns_30 rfl hl (by decide) rfl (fun ls hl => ?_)
      refine lv_aload_n hx hb dX7_turns_31 rfl (lv_at hl 1 rfl) ?_
      refine gf6_2 C hS (rfl) g_228 dX7_turns_32 ?_
      refine gf3_0 C hS (rfl) g_102 dX7_turns_35 ?_
      refine lv_iload_n hx hb dX7_turns_38 rfl (lv_at hl 2 rfl) ?_
      obtain ⟨gg_9, hf⟩ := gd_out hf
      refine alV C hS (rfl) (by decide) (by decide) 4 rfl rfl gg_9 (v := .ref (G.1 + (7 + (ix v1)))) (vwR (rfl) (by decide) rfl) dX7_turns_39 ?_
      refine lv_iload_n hx hb dX7_turns_40 rfl (lv_at hl 3 rfl) ?_
      obtain ⟨x_10, ex_10, hf⟩ := st_out hf
      refine pf0_0 C hS (el12 (a := 5) rfl gg_9) g_69 ex_10 dX7_turns_41 (fun H locs hS => ?_)
      refine lv_iload_n hx hb dX7_turns_44 rfl (lv_at hl 0 rfl) ?_
      exact rtI C hS hf dX7_turns_45
    · replace hf := if_p c_6 hf
      refine lv_ldc (v := (-1000000001)) hx hb hown (hw _ g_267) dX7_turns_15 ?_
      exact rtI C hS hf dX7_turns_17
abbrev rmX7_set : Room := { frames := 3, cells := 0, slots := 0, locals := 102 }
set_option maxRecDepth 100000 in
set_option maxHeartbeats 4000000 in
theorem cX7_set_ {G : GT} {l : Launch} {v1 : Int32} {v2 : Int32} {v3 : Int32} {x z : XS} {r : Int32} (hf : fX7_set v1 v2 v3 x = some (r, z)) : Ct G l yX7_set (.code yX7_set cX7_set 5 (some .int)) rmX7_set [.ref (G.1 + 0), .int v1, .int v2, .int v3] x (some (.int r)) z := by
  refine Ct.of (by decide +kernel) (Nat.le_of_ble_eq_true rfl) ?_
  intro p e s m args below meth c C ls hl hS
  have C : CX G p s m args meth c cX7_set 5 (some .int) RX7 := C
  have hl : lv_has ls 5 [(0, .ref (G.1 + 0)), (1, .int v1), (2, .int v2), (3, .int v3)] := hl
  have hx := C.1
  have hb := C.2.1
  have hown := C.2.2.2.2.2.1
  have hw := C.2.2.2.2.2.2.1
  unfold fX7_set at hf
  refine lv_aload_n hx hb dX7_set_0 rfl (lv_at hl 0 rfl) ?_
  refine lv_iload_n hx hb dX7_set_1 rfl (lv_at hl 1 rfl) ?_
  obtain ⟨r_1, x_2, qr_1, hf⟩ := bd_out hf
  refine rvI (As := [.int v1]) (rest := []) C hS (rfl) rfl KX7_isBoy (cX7_isBoy_ qr_1) g_281 ⟨rfl, rfl⟩ ⟨(Nat.le_of_ble_eq_true rfl), (Nat.le_of_ble_eq_true rfl)⟩ hl.1 rfl rfl (Nat.le_of_ble_eq_true rfl) ⟨Nat.zero_le _, Nat.zero_le _⟩ dX7_set_2 (fun H locs hS => ?_)
  refine lv_if_eq (tgt := 16) hx hb dX7_set_5 (by decide) (fun c_3 => ?_) (fun c_3 => ?_)
  · replace hf := if_p c_3 hf
    refine lv_ldc (v := (-1000000001)) hx hb hown (hw _ g_267) dX7_set_16 ?_
    exact rtI C hS hf dX7_set_18
  · replace hf := if_n c_3 hf
    refine lv_iload_n hx hb dX7_set_8 rfl (lv_at hl 2 rfl) ?_
    refine lv_iload_n hx hb dX7_set_9 rfl (lv_at hl 3 rfl) ?_
    obtain ⟨r_4, x_5, qr_4, hf⟩ := bd_out hf
    refine rsI (As := [.int v2, .int v3]) (rest := []) C hS KX0_mayBe (cX0_mayBe_ qr_4) g_264 ⟨rfl, rfl⟩ ⟨(Nat.le_of_ble_eq_true rfl), (Nat.le_of_ble_eq_true rfl)⟩ hl.1 rfl rfl (Nat.le_of_ble_eq_true rfl) ⟨Nat.zero_le _, Nat.zero_le _⟩ dX7_set_10 (fun H locs hS => ?_)
    refine lv_if_ne (tgt := 19) hx hb dX7_set_13 (by decide) (fun c_6 => ?_) (fun c_6 => ?_)
    · replace hf := if_n c_6 hf
      refine lv_aload_n hx hb dX7_set_19 rfl (lv_at hl 0 rfl) ?_
      refine gf6_2 C hS (rfl) g_228 dX7_set_20 ?_
      refine gf3_0 C hS (rfl) g_102 dX7_set_23 ?_
      refine lv_iload_n hx hb dX7_set_26 rfl (lv_at hl 1 rfl) ?_
      obtain ⟨gg_7, hf⟩ := gd_out hf
      refine alV C hS (rfl) (by decide) (by decide) 4 rfl rfl gg_7 (v := .ref (G.1 + (7 + (ix v1)))) (vwR (rfl) (by decide) rfl) dX7_set_27 ?_
      refine lv_iload_n hx hb dX7_set_28 rfl (lv_at hl 2 rfl) ?_
      obtain ⟨r_8, x_9, qr_8, hf⟩ := bd_out hf
      refine rvI (As := [.int v2]) (rest := []) C hS (el12 (a := 5) rfl gg_7) rfl KX0_fact (cX0_fact_ (el12 (a := 5) rfl gg_7) qr_8) g_285 ⟨rfl, rfl⟩ ⟨(Nat.le_of_ble_eq_true rfl), (Nat.le_of_ble_eq_true rfl)⟩ hl.1 rfl rfl (Nat.le_of_ble_eq_true rfl) ⟨Nat.zero_le _, Nat.zero_le _⟩ dX7_set_29 (fun H locs hS => ?_)
      refine lv_istore (lv' := [(4, .int r_8), (0, .ref (G.1 + 0)), (1, .int v1), (2, .int v2), (3, .int v3)]) hx hb dX7_set_32 hl (by decide) rfl (fun ls hl => ?_)
      refine lv_aload_n hx hb dX7_set_34 rfl (lv_at hl 1 rfl) ?_
      refine gf6_2 C hS (rfl) g_228 dX7_set_35 ?_
      refine gf3_0 C hS (rfl) g_102 dX7_set_38 ?_
      refine lv_iload_n hx hb dX7_set_41 rfl (lv_at hl 2 rfl) ?_
      obtain ⟨gg_10, hf⟩ := gd_out hf
      refine alV C hS (rfl) (by decide) (by decide) 4 rfl rfl gg_10 (v := .ref (G.1 + (7 + (ix v1)))) (vwR (rfl) (by decide) rfl) dX7_set_42 ?_
      refine lv_iload_n hx hb dX7_set_43 rfl (lv_at hl 3 rfl) ?_
      refine lv_iload_n hx hb dX7_set_44 rfl (lv_at hl 4 rfl) ?_
      obtain ⟨r_11, x_12, qr_11, hf⟩ := bd_out hf
      refine rvV (As := [.int v2, .int v3]) (rest := []) C hS (el12 (a := 5) rfl gg_10) rfl KX0_change (cX0_change_ (el12 (a := 5) rfl gg_10) qr_11) g_348 ⟨rfl, rfl⟩ ⟨(Nat.le_of_ble_eq_true rfl), (Nat.le_of_ble_eq_true rfl)⟩ hl.1 rfl rfl (Nat.le_of_ble_eq_true rfl) ⟨Nat.zero_le _, Nat.zero_le _⟩ dX7_set_45 (fun H locs hS => ?_)
      refine lv_iload hx hb dX7_set_48 (lv_at hl 0 rfl) ?_
      exact rtI C hS hf dX7_set_50
    · replace hf := if_p c_6 hf
      refine lv_ldc (v := (-1000000001)) hx hb hown (hw _ g_267) dX7_set_16 ?_
      exact rtI C hS hf dX7_set_18
abbrev rmX7_deal : Room := { frames := 3, cells := 0, slots := 0, locals := 72 }
set_option maxRecDepth 100000 in
set_option maxHeartbeats 4000000 in
theorem wbX7_deal_h31 {p : Program} {l : Launch} {e : Env} {s : State} {m : MethodId} {args : Array Value} {below : List Frame} {meth : Method} {c : Code} {G : GT} {r : Int32} {z : XS} (C : CX G p s m args meth c cX7_deal 4 (some .int) RX7) {k31 : Int32 → Int32 → XS → Option (Int32 × XS)} (hk31 : ∀ (u2 : Int32) (u3 : Int32) (x : XS), k31 u2 u3 x = some (r, z) → ∀ (H : Heap) (locs : List Loc) (ls : Array Slot), SR G x H locs → lv_has ls 4 [(0, .ref (G.1 + 0)), (2, .int u2), (3, .int u3)] → W p l e rmX7_deal s m args below meth c H locs 0 0 (MQ below (QC G (some (.int r)) z) args s 0 0 (AB G)) (F0 m 31 ls [])) : ∀ (u2 : Int32) (u3 : Int32) (x : XS), bX7_deal_h31 k31 u2 u3 x = some (r, z) → ∀ (H : Heap) (locs : List Loc) (ls : Array Slot), SR G x H locs → lv_has ls 4 [(0, .ref (G.1 + 0)), (2, .int u2), (3, .int u3)] → W p l e rmX7_deal s m args below meth c H locs 0 0 (MQ below (QC G (some (.int r)) z) args s 0 0 (AB G)) (F0 m 31 ls []) := by
  intro u2 u3 x hf H locs ls hS hl
  have hx := C.1
  have hb := C.2.1
  have hown := C.2.2.2.2.2.1
  have hw := C.2.2.2.2.2.2.1
  unfold bX7_deal_h31 at hf
  refine lv_iload_n hx hb dX7_deal_31 rfl (lv_at hl 2 rfl) ?_
  refine lv_iload_n hx hb dX7_deal_32 rfl (lv_at hl 1 rfl) ?_
  refine lv_icmp_ge (tgt := 49) hx hb dX7_deal_33 (by decide) (fun c_4 => ?_) (fun c_4 => ?_)
  · replace hf := if_p c_4 hf
    refine lv_iload_n hx hb dX7_deal_49 rfl (lv_at hl 1 rfl) ?_
    exact rtI C hS hf dX7_deal_50
  · replace hf := if_n c_4 hf
    refine lv_aload_n hx hb dX7_deal_36 rfl (lv_at hl 0 rfl) ?_
    refine gf6_2 C hS (rfl) g_228 dX7_deal_37 ?_
    obtain ⟨r_5, x_6, qr_5, hf⟩ := bd_out hf
    refine rvV (As := []) (rest := []) C hS (rfl) rfl KX4_drawBoy (cX4_drawBoy_ (rfl) qr_5) g_357 ⟨rfl, rfl⟩ ⟨(Nat.le_of_ble_eq_true rfl), (Nat.le_of_ble_eq_true rfl)⟩ hl.1 rfl rfl (Nat.le_of_ble_eq_true rfl) ⟨Nat.zero_le _, Nat.zero_le _⟩ dX7_deal_40 (fun H locs hS => ?_)
    obtain ⟨v_7, ev_7, hf⟩ := st_out hf
    refine lv_iinc (v := v_7) (lv' := [(3, .int v_7), (0, .ref (G.1 + 0)), (2, .int u2)]) hx hb dX7_deal_43 hl (k := 2) rfl (by rw [ev_7]; rfl) (by decide) rfl (fun ls hl => ?_)
    refine lv_goto (tgt := 31) hx hb dX7_deal_46 (by decide) ?_
    exact hk31 u2 v_7 x_6 hf _ _ _ hS (lv_sub hl [1, 2, 0] rfl)
theorem wlX7_deal_h31 {p : Program} {l : Launch} {e : Env} {s : State} {m : MethodId} {args : Array Value} {below : List Frame} {meth : Method} {c : Code} {G : GT} {r : Int32} {z : XS} (C : CX G p s m args meth c cX7_deal 4 (some .int) RX7) (n : Nat) : ∀ (u2 : Int32) (u3 : Int32) (x : XS), lX7_deal_h31 n u2 u3 x = some (r, z) → ∀ (H : Heap) (locs : List Loc) (ls : Array Slot), SR G x H locs → lv_has ls 4 [(0, .ref (G.1 + 0)), (2, .int u2), (3, .int u3)] → W p l e rmX7_deal s m args below meth c H locs 0 0 (MQ below (QC G (some (.int r)) z) args s 0 0 (AB G)) (F0 m 31 ls []) := by
  induction n with
  | zero => intro u2 u3 x hf H locs ls hS hl; exact absurd hf (by intro q; cases q)
  | succ n ih => exact wbX7_deal_h31 C ih
theorem wX7_deal_h31 {p : Program} {l : Launch} {e : Env} {s : State} {m : MethodId} {args : Array Value} {below : List Frame} {meth : Method} {c : Code} {G : GT} {r : Int32} {z : XS} (C : CX G p s m args meth c cX7_deal 4 (some .int) RX7) : ∀ (u2 : Int32) (u3 : Int32) (x : XS), fX7_deal_h31 u2 u3 x = some (r, z) → ∀ (H : Heap) (locs : List Loc) (ls : Array Slot), SR G x H locs → lv_has ls 4 [(0, .ref (G.1 + 0)), (2, .int u2), (3, .int u3)] → W p l e rmX7_deal s m args below meth c H locs 0 0 (MQ below (QC G (some (.int r)) z) args s 0 0 (AB G)) (F0 m 31 ls []) := wlX7_deal_h31 C FU
set_option maxRecDepth 100000 in
set_option maxHeartbeats 4000000 in
theorem cX7_deal_ {G : GT} {l : Launch} {v1 : Int32} {x z : XS} {r : Int32} (hf : fX7_deal v1 x = some (r, z)) : Ct G l yX7_deal (.code yX7_deal cX7_deal 4 (some .int)) rmX7_deal [.ref (G.1 + 0), .int v1] x (some (.int r)) z := by
  refine Ct.of (by decide +kernel) (Nat.le_of_ble_eq_true rfl) ?_
  intro p e s m args below meth c C ls hl hS
  have C : CX G p s m args meth c cX7_deal 4 (some .int) RX7 := C
  have hl : lv_has ls 4 [(0, .ref (G.1 + 0)), (1, .int v1)] := hl
  have hx := C.1
  have hb := C.2.1
  have hown := C.2.2.2.2.2.1
  have hw := C.2.2.2.2.2.2.1
  unfold fX7_deal at hf
  refine lv_iload_n hx hb dX7_deal_0 rfl (lv_at hl 1 rfl) ?_
  refine lv_iconst (v := 1) hx hb dX7_deal_1 (by decide) ?_
  refine lv_icmp_lt (tgt := 11) hx hb dX7_deal_2 (by decide) (fun c_1 => ?_) (fun c_1 => ?_)
  · replace hf := if_p c_1 hf
    refine lv_ldc (v := (-1000000001)) hx hb hown (hw _ g_267) dX7_deal_11 ?_
    exact rtI C hS hf dX7_deal_13
  · replace hf := if_n c_1 hf
    refine lv_iload_n hx hb dX7_deal_5 rfl (lv_at hl 1 rfl) ?_
    refine lv_bipush (v := 8) hx hb dX7_deal_6 (by decide) ?_
    refine lv_icmp_le (tgt := 14) hx hb dX7_deal_8 (by decide) (fun c_2 => ?_) (fun c_2 => ?_)
    · replace hf := if_p c_2 hf
      refine lv_iload_n hx hb dX7_deal_14 rfl (lv_at hl 1 rfl) ?_
      refine lv_bipush (v := 8) hx hb dX7_deal_15 (by decide) ?_
      refine lv_aload_n hx hb dX7_deal_17 rfl (lv_at hl 0 rfl) ?_
      refine gf6_2 C hS (rfl) g_228 dX7_deal_18 ?_
      refine gf3_2 C hS (rfl) g_105 dX7_deal_21 ?_
      refine lv_isub hx hb dX7_deal_24 ?_
      refine va_mmin hx hb (C.2.2.1.trans hl.1.symm) hown (hw _ g_356) (hw _ g_324) (hw _ g_10) (hw _ g_325) (Nat.le_of_ble_eq_true rfl) (Nat.le_of_ble_eq_true rfl) (Nat.zero_le _) (Nat.zero_le _) dX7_deal_25 ?_
      obtain ⟨v_3, ev_3, hf⟩ := st_out hf
      refine topI ev_3 ?_
      refine lv_istore_n (lv' := [(2, .int v_3), (0, .ref (G.1 + 0)), (1, .int v1)]) hx hb dX7_deal_28 rfl hl (by decide) rfl (fun ls hl => ?_)
      refine lv_iconst (v := 0) hx hb dX7_deal_29 (by decide) ?_
      refine lv_istore_n (lv' := [(3, .int 0), (2, .int v_3), (0, .ref (G.1 + 0)), (1, .int v1)]) hx hb dX7_deal_30 rfl hl (by decide) rfl (fun ls hl => ?_)
      exact wX7_deal_h31  C v_3 0 x hf _ _ _ hS (lv_sub hl [2, 1, 0] rfl)
    · replace hf := if_n c_2 hf
      refine lv_ldc (v := (-1000000001)) hx hb hown (hw _ g_267) dX7_deal_11 ?_
      exact rtI C hS hf dX7_deal_13
abbrev rmX7_seed : Room := { frames := 0, cells := 0, slots := 0, locals := 0 }
set_option maxRecDepth 100000 in
set_option maxHeartbeats 4000000 in
theorem cX7_seed_ {G : GT} {l : Launch} {v1 : Int32} {x z : XS} {r : Int32} (hf : fX7_seed v1 x = some (r, z)) : Ct G l yX7_seed (.code yX7_seed cX7_seed 3 (some .int)) rmX7_seed [.ref (G.1 + 0), .int v1] x (some (.int r)) z := by
  refine Ct.of (by decide +kernel) (Nat.le_of_ble_eq_true rfl) ?_
  intro p e s m args below meth c C ls hl hS
  have C : CX G p s m args meth c cX7_seed 3 (some .int) RX7 := C
  have hl : lv_has ls 3 [(0, .ref (G.1 + 0)), (1, .int v1)] := hl
  have hx := C.1
  have hb := C.2.1
  have hown := C.2.2.2.2.2.1
  have hw := C.2.2.2.2.2.2.1
  unfold fX7_seed at hf
  refine lv_aload_n hx hb dX7_seed_0 rfl (lv_at hl 0 rfl) ?_
  refine gf6_2 C hS (rfl) g_228 dX7_seed_1 ?_
  refine gf3_9 C hS (rfl) g_119 dX7_seed_4 ?_
  obtain ⟨v_1, ev_1, hf⟩ := st_out hf
  refine topI ev_1 ?_
  refine lv_istore_n (lv' := [(2, .int v_1), (0, .ref (G.1 + 0)), (1, .int v1)]) hx hb dX7_seed_7 rfl hl (by decide) rfl (fun ls hl => ?_)
  refine lv_aload_n hx hb dX7_seed_8 rfl (lv_at hl 1 rfl) ?_
  refine gf6_2 C hS (rfl) g_228 dX7_seed_9 ?_
  refine lv_iload_n hx hb dX7_seed_12 rfl (lv_at hl 2 rfl) ?_
  obtain ⟨x_2, ex_2, hf⟩ := st_out hf
  refine pf3_9 C hS (rfl) g_119 ex_2 dX7_seed_13 (fun H locs hS => ?_)
  refine lv_iload_n hx hb dX7_seed_16 rfl (lv_at hl 0 rfl) ?_
  exact rtI C hS hf dX7_seed_17
abbrev rmX7_rule : Room := { frames := 0, cells := 0, slots := 0, locals := 0 }
set_option maxRecDepth 100000 in
set_option maxHeartbeats 4000000 in
theorem wX7_rule_h89 {p : Program} {l : Launch} {e : Env} {s : State} {m : MethodId} {args : Array Value} {below : List Frame} {meth : Method} {c : Code} {G : GT} {r : Int32} {z : XS} (C : CX G p s m args meth c cX7_rule 4 (some .int) RX7) : ∀ (u2 : Int32) (s0 : Int32) (x : XS), fX7_rule_h89 u2 s0 x = some (r, z) → ∀ (H : Heap) (locs : List Loc) (ls : Array Slot), SR G x H locs → lv_has ls 4 [(0, .ref (G.1 + 0)), (2, .int u2)] → W p l e rmX7_rule s m args below meth c H locs 0 0 (MQ below (QC G (some (.int r)) z) args s 0 0 (AB G)) (F0 m 89 ls [.int s0]) := by
  intro u2 s0 x hf H locs ls hS hl
  have hx := C.1
  have hb := C.2.1
  have hown := C.2.2.2.2.2.1
  have hw := C.2.2.2.2.2.2.1
  unfold fX7_rule_h89 at hf
  refine lv_istore_n (lv' := [(3, .int s0), (0, .ref (G.1 + 0)), (2, .int u2)]) hx hb dX7_rule_89 rfl hl (by decide) rfl (fun ls hl => ?_)
  refine lv_aload_n hx hb dX7_rule_90 rfl (lv_at hl 1 rfl) ?_
  refine gf6_2 C hS (rfl) g_228 dX7_rule_91 ?_
  refine lv_iload_n hx hb dX7_rule_94 rfl (lv_at hl 2 rfl) ?_
  refine lv_iconst (v := 1) hx hb dX7_rule_95 (by decide) ?_
  refine lv_icmp_ne (tgt := 103) hx hb dX7_rule_96 (by decide) (fun c_13 => ?_) (fun c_13 => ?_)
  · replace hf := if_n c_13 hf
    refine lv_iconst (v := 0) hx hb dX7_rule_103 (by decide) ?_
    obtain ⟨x_14, ex_14, hf⟩ := st_out hf
    refine pf3_10 C hS (rfl) g_121 rfl ex_14 dX7_rule_104 (fun H locs hS => ?_)
    refine lv_iload_n hx hb dX7_rule_107 rfl (lv_at hl 0 rfl) ?_
    exact rtI C hS hf dX7_rule_108
  · replace hf := if_p c_13 hf
    refine lv_iconst (v := 1) hx hb dX7_rule_99 (by decide) ?_
    refine lv_goto (tgt := 104) hx hb dX7_rule_100 (by decide) ?_
    obtain ⟨x_15, ex_15, hf⟩ := st_out hf
    refine pf3_10 C hS (rfl) g_121 rfl ex_15 dX7_rule_104 (fun H locs hS => ?_)
    refine lv_iload_n hx hb dX7_rule_107 rfl (lv_at hl 0 rfl) ?_
    exact rtI C hS hf dX7_rule_108
set_option maxRecDepth 100000 in
set_option maxHeartbeats 4000000 in
theorem wX7_rule_h64 {p : Program} {l : Launch} {e : Env} {s : State} {m : MethodId} {args : Array Value} {below : List Frame} {meth : Method} {c : Code} {G : GT} {r : Int32} {z : XS} (C : CX G p s m args meth c cX7_rule 4 (some .int) RX7) : ∀ (u1 : Int32) (u2 : Int32) (x : XS), fX7_rule_h64 u1 u2 x = some (r, z) → ∀ (H : Heap) (locs : List Loc) (ls : Array Slot), SR G x H locs → lv_has ls 4 [(0, .ref (G.1 + 0)), (1, .int u1), (2, .int u2)] → W p l e rmX7_rule s m args below meth c H locs 0 0 (MQ below (QC G (some (.int r)) z) args s 0 0 (AB G)) (F0 m 64 ls []) := by
  intro u1 u2 x hf H locs ls hS hl
  have hx := C.1
  have hb := C.2.1
  have hown := C.2.2.2.2.2.1
  have hw := C.2.2.2.2.2.2.1
  unfold fX7_rule_h64 at hf
  refine lv_iload_n hx hb dX7_rule_64 rfl (lv_at hl 1 rfl) ?_
  refine lv_iconst (v := 2) hx hb dX7_rule_65 (by decide) ?_
  refine lv_icmp_ne (tgt := 109) hx hb dX7_rule_66 (by decide) (fun c_10 => ?_) (fun c_10 => ?_)
  · replace hf := if_n c_10 hf
    refine lv_ldc (v := (-1000000001)) hx hb hown (hw _ g_267) dX7_rule_109 ?_
    exact rtI C hS hf dX7_rule_111
  · replace hf := if_p c_10 hf
    refine lv_iload_n hx hb dX7_rule_69 rfl (lv_at hl 2 rfl) ?_
    refine lv_iconst (v := 1) hx hb dX7_rule_70 (by decide) ?_
    refine lv_icmp_gt (tgt := 109) hx hb dX7_rule_71 (by decide) (fun c_11 => ?_) (fun c_11 => ?_)
    · replace hf := if_p c_11 hf
      refine lv_ldc (v := (-1000000001)) hx hb hown (hw _ g_267) dX7_rule_109 ?_
      exact rtI C hS hf dX7_rule_111
    · replace hf := if_n c_11 hf
      refine lv_aload_n hx hb dX7_rule_74 rfl (lv_at hl 0 rfl) ?_
      refine gf6_2 C hS (rfl) g_228 dX7_rule_75 ?_
      refine gf3_10 C hS (rfl) g_121 dX7_rule_78 ?_
      refine lv_if_eq (tgt := 88) hx hb dX7_rule_81 (by decide) (fun c_12 => ?_) (fun c_12 => ?_)
      · replace hf := if_p c_12 hf
        refine lv_iconst (v := 0) hx hb dX7_rule_88 (by decide) ?_
        exact wX7_rule_h89  C u2 0 x hf _ _ _ hS (lv_sub hl [0, 2] rfl)
      · replace hf := if_n c_12 hf
        refine lv_iconst (v := 1) hx hb dX7_rule_84 (by decide) ?_
        refine lv_goto (tgt := 89) hx hb dX7_rule_85 (by decide) ?_
        exact wX7_rule_h89  C u2 1 x hf _ _ _ hS (lv_sub hl [0, 2] rfl)
set_option maxRecDepth 100000 in
set_option maxHeartbeats 4000000 in
theorem wX7_rule_h35 {p : Program} {l : Launch} {e : Env} {s : State} {m : MethodId} {args : Array Value} {below : List Frame} {meth : Method} {c : Code} {G : GT} {r : Int32} {z : XS} (C : CX G p s m args meth c cX7_rule 4 (some .int) RX7) : ∀ (u1 : Int32) (u2 : Int32) (x : XS), fX7_rule_h35 u1 u2 x = some (r, z) → ∀ (H : Heap) (locs : List Loc) (ls : Array Slot), SR G x H locs → lv_has ls 4 [(0, .ref (G.1 + 0)), (1, .int u1), (2, .int u2)] → W p l e rmX7_rule s m args below meth c H locs 0 0 (MQ below (QC G (some (.int r)) z) args s 0 0 (AB G)) (F0 m 35 ls []) := by
  intro u1 u2 x hf H locs ls hS hl
  have hx := C.1
  have hb := C.2.1
  have hown := C.2.2.2.2.2.1
  have hw := C.2.2.2.2.2.2.1
  unfold fX7_rule_h35 at hf
  refine lv_iload_n hx hb dX7_rule_35 rfl (lv_at hl 1 rfl) ?_
  refine lv_iconst (v := 1) hx hb dX7_rule_36 (by decide) ?_
  refine lv_icmp_ne (tgt := 64) hx hb dX7_rule_37 (by decide) (fun c_6 => ?_) (fun c_6 => ?_)
  · replace hf := if_n c_6 hf
    exact wX7_rule_h64  C u1 u2 x hf _ _ _ hS (lv_sub hl [0, 1, 2] rfl)
  · replace hf := if_p c_6 hf
    refine lv_iload_n hx hb dX7_rule_40 rfl (lv_at hl 2 rfl) ?_
    refine lv_bipush (v := 100) hx hb dX7_rule_41 (by decide) ?_
    refine lv_icmp_gt (tgt := 64) hx hb dX7_rule_43 (by decide) (fun c_7 => ?_) (fun c_7 => ?_)
    · replace hf := if_p c_7 hf
      exact wX7_rule_h64  C u1 u2 x hf _ _ _ hS (lv_sub hl [0, 1, 2] rfl)
    · replace hf := if_n c_7 hf
      refine lv_aload_n hx hb dX7_rule_46 rfl (lv_at hl 0 rfl) ?_
      refine gf6_2 C hS (rfl) g_228 dX7_rule_47 ?_
      refine gf3_6 C hS (rfl) g_113 dX7_rule_50 ?_
      obtain ⟨v_8, ev_8, hf⟩ := st_out hf
      refine topI ev_8 ?_
      refine lv_istore_n (lv' := [(3, .int v_8), (0, .ref (G.1 + 0)), (1, .int u1), (2, .int u2)]) hx hb dX7_rule_53 rfl hl (by decide) rfl (fun ls hl => ?_)
      refine lv_aload_n hx hb dX7_rule_54 rfl (lv_at hl 1 rfl) ?_
      refine gf6_2 C hS (rfl) g_228 dX7_rule_55 ?_
      refine lv_iload_n hx hb dX7_rule_58 rfl (lv_at hl 3 rfl) ?_
      obtain ⟨x_9, ex_9, hf⟩ := st_out hf
      refine pf3_6 C hS (rfl) g_113 ex_9 dX7_rule_59 (fun H locs hS => ?_)
      refine lv_iload_n hx hb dX7_rule_62 rfl (lv_at hl 0 rfl) ?_
      exact rtI C hS hf dX7_rule_63
set_option maxRecDepth 100000 in
set_option maxHeartbeats 4000000 in
theorem cX7_rule_ {G : GT} {l : Launch} {v1 : Int32} {v2 : Int32} {x z : XS} {r : Int32} (hf : fX7_rule v1 v2 x = some (r, z)) : Ct G l yX7_rule (.code yX7_rule cX7_rule 4 (some .int)) rmX7_rule [.ref (G.1 + 0), .int v1, .int v2] x (some (.int r)) z := by
  refine Ct.of (by decide +kernel) (Nat.le_of_ble_eq_true rfl) ?_
  intro p e s m args below meth c C ls hl hS
  have C : CX G p s m args meth c cX7_rule 4 (some .int) RX7 := C
  have hl : lv_has ls 4 [(0, .ref (G.1 + 0)), (1, .int v1), (2, .int v2)] := hl
  have hx := C.1
  have hb := C.2.1
  have hown := C.2.2.2.2.2.1
  have hw := C.2.2.2.2.2.2.1
  unfold fX7_rule at hf
  refine lv_iload_n hx hb dX7_rule_0 rfl (lv_at hl 2 rfl) ?_
  refine lv_if_ge (tgt := 7) hx hb dX7_rule_1 (by decide) (fun c_1 => ?_) (fun c_1 => ?_)
  · replace hf := if_p c_1 hf
    refine lv_iload_n hx hb dX7_rule_7 rfl (lv_at hl 1 rfl) ?_
    refine lv_if_ne (tgt := 35) hx hb dX7_rule_8 (by decide) (fun c_2 => ?_) (fun c_2 => ?_)
    · replace hf := if_n c_2 hf
      exact wX7_rule_h35  C v1 v2 x hf _ _ _ hS (lv_sub hl [0, 1, 2] rfl)
    · replace hf := if_p c_2 hf
      refine lv_iload_n hx hb dX7_rule_11 rfl (lv_at hl 2 rfl) ?_
      refine lv_bipush (v := 99) hx hb dX7_rule_12 (by decide) ?_
      refine lv_icmp_gt (tgt := 35) hx hb dX7_rule_14 (by decide) (fun c_3 => ?_) (fun c_3 => ?_)
      · replace hf := if_p c_3 hf
        exact wX7_rule_h35  C v1 v2 x hf _ _ _ hS (lv_sub hl [0, 1, 2] rfl)
      · replace hf := if_n c_3 hf
        refine lv_aload_n hx hb dX7_rule_17 rfl (lv_at hl 0 rfl) ?_
        refine gf6_2 C hS (rfl) g_228 dX7_rule_18 ?_
        refine gf3_4 C hS (rfl) g_109 dX7_rule_21 ?_
        obtain ⟨v_4, ev_4, hf⟩ := st_out hf
        refine topI ev_4 ?_
        refine lv_istore_n (lv' := [(3, .int v_4), (0, .ref (G.1 + 0)), (1, .int v1), (2, .int v2)]) hx hb dX7_rule_24 rfl hl (by decide) rfl (fun ls hl => ?_)
        refine lv_aload_n hx hb dX7_rule_25 rfl (lv_at hl 1 rfl) ?_
        refine gf6_2 C hS (rfl) g_228 dX7_rule_26 ?_
        refine lv_iload_n hx hb dX7_rule_29 rfl (lv_at hl 3 rfl) ?_
        obtain ⟨x_5, ex_5, hf⟩ := st_out hf
        refine pf3_4 C hS (rfl) g_109 ex_5 dX7_rule_30 (fun H locs hS => ?_)
        refine lv_iload_n hx hb dX7_rule_33 rfl (lv_at hl 0 rfl) ?_
        exact rtI C hS hf dX7_rule_34
  · replace hf := if_n c_1 hf
    refine lv_ldc (v := (-1000000001)) hx hb hown (hw _ g_267) dX7_rule_4 ?_
    exact rtI C hS hf dX7_rule_6
abbrev rmX7_minutes : Room := { frames := 6, cells := 0, slots := 0, locals := 183 }
set_option maxRecDepth 100000 in
set_option maxHeartbeats 4000000 in
theorem cX7_minutes_ {G : GT} {l : Launch} {v1 : Int32} {x z : XS} {r : Int32} (hf : fX7_minutes v1 x = some (r, z)) : Ct G l yX7_minutes (.code yX7_minutes cX7_minutes 2 (some .int)) rmX7_minutes [.ref (G.1 + 0), .int v1] x (some (.int r)) z := by
  refine Ct.of (by decide +kernel) (Nat.le_of_ble_eq_true rfl) ?_
  intro p e s m args below meth c C ls hl hS
  have C : CX G p s m args meth c cX7_minutes 2 (some .int) RX7 := C
  have hl : lv_has ls 2 [(0, .ref (G.1 + 0)), (1, .int v1)] := hl
  have hx := C.1
  have hb := C.2.1
  have hown := C.2.2.2.2.2.1
  have hw := C.2.2.2.2.2.2.1
  unfold fX7_minutes at hf
  refine lv_iload_n hx hb dX7_minutes_0 rfl (lv_at hl 1 rfl) ?_
  refine lv_iconst (v := 1) hx hb dX7_minutes_1 (by decide) ?_
  refine lv_icmp_lt (tgt := 12) hx hb dX7_minutes_2 (by decide) (fun c_1 => ?_) (fun c_1 => ?_)
  · replace hf := if_p c_1 hf
    refine lv_ldc (v := (-1000000001)) hx hb hown (hw _ g_267) dX7_minutes_12 ?_
    exact rtI C hS hf dX7_minutes_14
  · replace hf := if_n c_1 hf
    refine lv_iload_n hx hb dX7_minutes_5 rfl (lv_at hl 1 rfl) ?_
    refine lv_sipush (v := 300) hx hb dX7_minutes_6 (by decide) ?_
    refine lv_icmp_le (tgt := 15) hx hb dX7_minutes_9 (by decide) (fun c_2 => ?_) (fun c_2 => ?_)
    · replace hf := if_p c_2 hf
      refine lv_aload_n hx hb dX7_minutes_15 rfl (lv_at hl 0 rfl) ?_
      refine gf6_2 C hS (rfl) g_228 dX7_minutes_16 ?_
      refine lv_iload_n hx hb dX7_minutes_19 rfl (lv_at hl 1 rfl) ?_
      refine lv_sipush (v := 9999) hx hb dX7_minutes_20 (by decide) ?_
      refine lv_aload_n hx hb dX7_minutes_23 rfl (lv_at hl 0 rfl) ?_
      refine gf6_2 C hS (rfl) g_228 dX7_minutes_24 ?_
      refine gf3_8 C hS (rfl) g_117 dX7_minutes_27 ?_
      refine lv_isub hx hb dX7_minutes_30 ?_
      refine va_mmin hx hb (C.2.2.1.trans hl.1.symm) hown (hw _ g_356) (hw _ g_324) (hw _ g_10) (hw _ g_325) (Nat.le_of_ble_eq_true rfl) (Nat.le_of_ble_eq_true rfl) (Nat.zero_le _) (Nat.zero_le _) dX7_minutes_31 ?_
      obtain ⟨v_3, ev_3, hf⟩ := st_out hf
      refine topI ev_3 ?_
      obtain ⟨r_4, x_5, qr_4, hf⟩ := bd_out hf
      refine rvI (As := [.int v_3]) (rest := []) C hS (rfl) rfl KX4_passMinutes (cX4_passMinutes_ (rfl) qr_4) g_379 ⟨rfl, rfl⟩ ⟨(Nat.le_of_ble_eq_true rfl), (Nat.le_of_ble_eq_true rfl)⟩ hl.1 rfl rfl (Nat.le_of_ble_eq_true rfl) ⟨Nat.zero_le _, Nat.zero_le _⟩ dX7_minutes_34 (fun H locs hS => ?_)
      exact rtI C hS hf dX7_minutes_37
    · replace hf := if_n c_2 hf
      refine lv_ldc (v := (-1000000001)) hx hb hown (hw _ g_267) dX7_minutes_12 ?_
      exact rtI C hS hf dX7_minutes_14
abbrev rmX7_street : Room := { frames := 1, cells := 0, slots := 0, locals := 22 }
set_option maxRecDepth 100000 in
set_option maxHeartbeats 4000000 in
theorem cX7_street_ {G : GT} {l : Launch} {v1 : Int32} {x z : XS} {r : Int32} (hf : fX7_street v1 x = some (r, z)) : Ct G l yX7_street (.code yX7_street cX7_street 2 (some .int)) rmX7_street [.ref (G.1 + 0), .int v1] x (some (.int r)) z := by
  refine Ct.of (by decide +kernel) (Nat.le_of_ble_eq_true rfl) ?_
  intro p e s m args below meth c C ls hl hS
  have C : CX G p s m args meth c cX7_street 2 (some .int) RX7 := C
  have hl : lv_has ls 2 [(0, .ref (G.1 + 0)), (1, .int v1)] := hl
  have hx := C.1
  have hb := C.2.1
  have hown := C.2.2.2.2.2.1
  have hw := C.2.2.2.2.2.2.1
  unfold fX7_street at hf
  refine lv_iload_n hx hb dX7_street_0 rfl (lv_at hl 1 rfl) ?_
  by_cases c_1 : v1 = 0
  · replace hf := if_p c_1 hf
    refine tswI (k := 0) (off := 35) (tgt := 36) hx hb dX7_street_1 c_1 (by decide) rfl (by decide) ?_
    refine lv_aload_n hx hb dX7_street_36 rfl (lv_at hl 0 rfl) ?_
    refine gf6_2 C hS (rfl) g_228 dX7_street_37 ?_
    obtain ⟨r_2, x_3, qr_2, hf⟩ := bd_out hf
    refine rvI (As := []) (rest := []) C hS (rfl) rfl KX4_purses (cX4_purses_ (rfl) qr_2) g_408 ⟨rfl, rfl⟩ ⟨(Nat.le_of_ble_eq_true rfl), (Nat.le_of_ble_eq_true rfl)⟩ hl.1 rfl rfl (Nat.le_of_ble_eq_true rfl) ⟨Nat.zero_le _, Nat.zero_le _⟩ dX7_street_40 (fun H locs hS => ?_)
    exact rtI C hS hf dX7_street_43
  · replace hf := if_n c_1 hf
    by_cases c_4 : v1 = 1
    · replace hf := if_p c_4 hf
      refine tswI (k := 1) (off := 43) (tgt := 44) hx hb dX7_street_1 c_4 (by decide) rfl (by decide) ?_
      refine lv_aload_n hx hb dX7_street_44 rfl (lv_at hl 0 rfl) ?_
      refine gf6_2 C hS (rfl) g_228 dX7_street_45 ?_
      refine gf3_5 C hS (rfl) g_111 dX7_street_48 ?_
      exact rtI C hS hf dX7_street_51
    · replace hf := if_n c_4 hf
      by_cases c_5 : v1 = 2
      · replace hf := if_p c_5 hf
        refine tswI (k := 2) (off := 51) (tgt := 52) hx hb dX7_street_1 c_5 (by decide) rfl (by decide) ?_
        refine lv_aload_n hx hb dX7_street_52 rfl (lv_at hl 0 rfl) ?_
        refine gf6_2 C hS (rfl) g_228 dX7_street_53 ?_
        refine gf3_7 C hS (rfl) g_115 dX7_street_56 ?_
        exact rtI C hS hf dX7_street_59
      · replace hf := if_n c_5 hf
        by_cases c_6 : v1 = 3
        · replace hf := if_p c_6 hf
          refine tswI (k := 3) (off := 59) (tgt := 60) hx hb dX7_street_1 c_6 (by decide) rfl (by decide) ?_
          refine lv_aload_n hx hb dX7_street_60 rfl (lv_at hl 0 rfl) ?_
          refine gf6_2 C hS (rfl) g_228 dX7_street_61 ?_
          obtain ⟨r_7, x_8, qr_7, hf⟩ := bd_out hf
          refine rvI (As := []) (rest := []) C hS (rfl) rfl KX4_menDone (cX4_menDone_ (rfl) qr_7) g_412 ⟨rfl, rfl⟩ ⟨(Nat.le_of_ble_eq_true rfl), (Nat.le_of_ble_eq_true rfl)⟩ hl.1 rfl rfl (Nat.le_of_ble_eq_true rfl) ⟨Nat.zero_le _, Nat.zero_le _⟩ dX7_street_64 (fun H locs hS => ?_)
          exact rtI C hS hf dX7_street_67
        · replace hf := if_n c_6 hf
          by_cases c_9 : v1 = 4
          · replace hf := if_p c_9 hf
            refine tswI (k := 4) (off := 67) (tgt := 68) hx hb dX7_street_1 c_9 (by decide) rfl (by decide) ?_
            refine lv_aload_n hx hb dX7_street_68 rfl (lv_at hl 0 rfl) ?_
            refine gf6_2 C hS (rfl) g_228 dX7_street_69 ?_
            obtain ⟨r_10, x_11, qr_10, hf⟩ := bd_out hf
            refine rvI (As := []) (rest := []) C hS (rfl) rfl KX4_busyBoys (cX4_busyBoys_ (rfl) qr_10) g_416 ⟨rfl, rfl⟩ ⟨(Nat.le_of_ble_eq_true rfl), (Nat.le_of_ble_eq_true rfl)⟩ hl.1 rfl rfl (Nat.le_of_ble_eq_true rfl) ⟨Nat.zero_le _, Nat.zero_le _⟩ dX7_street_72 (fun H locs hS => ?_)
            exact rtI C hS hf dX7_street_75
          · replace hf := if_n c_9 hf
            refine lv_tableOut (tgt := 76) hx hb dX7_street_1 (by have zc_1 := lv_neT c_1 (a := 0) (by decide); have zc_4 := lv_neT c_4 (a := 1) (by decide); have zc_5 := lv_neT c_5 (a := 2) (by decide); have zc_6 := lv_neT c_6 (a := 3) (by decide); have zc_9 := lv_neT c_9 (a := 4) (by decide); omega) (by decide) ?_
            refine lv_ldc (v := (-1000000001)) hx hb hown (hw _ g_267) dX7_street_76 ?_
            exact rtI C hS hf dX7_street_78
abbrev rmX7_goesTo : Room := { frames := 3, cells := 0, slots := 0, locals := 108 }
set_option maxRecDepth 100000 in
set_option maxHeartbeats 4000000 in
theorem cX7_goesTo_ {G : GT} {l : Launch} {v1 : Int32} {v2 : Int32} {x z : XS} {r : Int32} (hf : fX7_goesTo v1 v2 x = some (r, z)) : Ct G l yX7_goesTo (.code yX7_goesTo cX7_goesTo 4 (some .int)) rmX7_goesTo [.ref (G.1 + 0), .int v1, .int v2] x (some (.int r)) z := by
  refine Ct.of (by decide +kernel) (Nat.le_of_ble_eq_true rfl) ?_
  intro p e s m args below meth c C ls hl hS
  have C : CX G p s m args meth c cX7_goesTo 4 (some .int) RX7 := C
  have hl : lv_has ls 4 [(0, .ref (G.1 + 0)), (1, .int v1), (2, .int v2)] := hl
  have hx := C.1
  have hb := C.2.1
  have hown := C.2.2.2.2.2.1
  have hw := C.2.2.2.2.2.2.1
  unfold fX7_goesTo at hf
  refine lv_iload_n hx hb dX7_goesTo_0 rfl (lv_at hl 1 rfl) ?_
  refine lv_if_lt (tgt := 21) hx hb dX7_goesTo_1 (by decide) (fun c_1 => ?_) (fun c_1 => ?_)
  · replace hf := if_p c_1 hf
    refine lv_ldc (v := (-1000000001)) hx hb hown (hw _ g_267) dX7_goesTo_21 ?_
    exact rtI C hS hf dX7_goesTo_23
  · replace hf := if_n c_1 hf
    refine lv_iload_n hx hb dX7_goesTo_4 rfl (lv_at hl 1 rfl) ?_
    refine lv_bipush (v := 10) hx hb dX7_goesTo_5 (by decide) ?_
    refine lv_icmp_ge (tgt := 21) hx hb dX7_goesTo_7 (by decide) (fun c_2 => ?_) (fun c_2 => ?_)
    · replace hf := if_p c_2 hf
      refine lv_ldc (v := (-1000000001)) hx hb hown (hw _ g_267) dX7_goesTo_21 ?_
      exact rtI C hS hf dX7_goesTo_23
    · replace hf := if_n c_2 hf
      refine lv_iload_n hx hb dX7_goesTo_10 rfl (lv_at hl 2 rfl) ?_
      refine lv_iconst (v := 1) hx hb dX7_goesTo_11 (by decide) ?_
      refine lv_icmp_lt (tgt := 21) hx hb dX7_goesTo_12 (by decide) (fun c_3 => ?_) (fun c_3 => ?_)
      · replace hf := if_p c_3 hf
        refine lv_ldc (v := (-1000000001)) hx hb hown (hw _ g_267) dX7_goesTo_21 ?_
        exact rtI C hS hf dX7_goesTo_23
      · replace hf := if_n c_3 hf
        refine lv_iload_n hx hb dX7_goesTo_15 rfl (lv_at hl 2 rfl) ?_
        refine lv_bipush (v := 9) hx hb dX7_goesTo_16 (by decide) ?_
        refine lv_icmp_le (tgt := 24) hx hb dX7_goesTo_18 (by decide) (fun c_4 => ?_) (fun c_4 => ?_)
        · replace hf := if_p c_4 hf
          refine lv_aload_n hx hb dX7_goesTo_24 rfl (lv_at hl 0 rfl) ?_
          refine gf6_2 C hS (rfl) g_228 dX7_goesTo_25 ?_
          refine lv_iload_n hx hb dX7_goesTo_28 rfl (lv_at hl 1 rfl) ?_
          refine lv_iload_n hx hb dX7_goesTo_29 rfl (lv_at hl 2 rfl) ?_
          obtain ⟨r_5, x_6, qr_5, hf⟩ := bd_out hf
          refine rvI (As := [.int v1, .int v2]) (rest := []) C hS (rfl) rfl KX4_chosenBoy (cX4_chosenBoy_ (rfl) qr_5) g_424 ⟨rfl, rfl⟩ ⟨(Nat.le_of_ble_eq_true rfl), (Nat.le_of_ble_eq_true rfl)⟩ hl.1 rfl rfl (Nat.le_of_ble_eq_true rfl) ⟨Nat.zero_le _, Nat.zero_le _⟩ dX7_goesTo_30 (fun H locs hS => ?_)
          refine lv_istore_n (lv' := [(3, .int r_5), (0, .ref (G.1 + 0)), (1, .int v1), (2, .int v2)]) hx hb dX7_goesTo_33 rfl hl (by decide) rfl (fun ls hl => ?_)
          refine lv_iload_n hx hb dX7_goesTo_34 rfl (lv_at hl 0 rfl) ?_
          refine lv_if_ge (tgt := 43) hx hb dX7_goesTo_35 (by decide) (fun c_7 => ?_) (fun c_7 => ?_)
          · replace hf := if_p c_7 hf
            refine lv_iload_n hx hb dX7_goesTo_43 rfl (lv_at hl 0 rfl) ?_
            exact rtI C hS hf dX7_goesTo_44
          · replace hf := if_n c_7 hf
            refine lv_ldc (v := (-1000000005)) hx hb hown (hw _ g_425) dX7_goesTo_38 ?_
            refine lv_goto (tgt := 44) hx hb dX7_goesTo_40 (by decide) ?_
            exact rtI C hS hf dX7_goesTo_44
        · replace hf := if_n c_4 hf
          refine lv_ldc (v := (-1000000001)) hx hb hown (hw _ g_267) dX7_goesTo_21 ?_
          exact rtI C hS hf dX7_goesTo_23
abbrev rmX7_behind : Room := { frames := 6, cells := 0, slots := 0, locals := 183 }
set_option maxRecDepth 100000 in
set_option maxHeartbeats 4000000 in
theorem cX7_behind_ {G : GT} {l : Launch} {v1 : Int32} {v2 : Int32} {x z : XS} {r : Int32} (hf : fX7_behind v1 v2 x = some (r, z)) : Ct G l yX7_behind (.code yX7_behind cX7_behind 3 (some .int)) rmX7_behind [.ref (G.1 + 0), .int v1, .int v2] x (some (.int r)) z := by
  refine Ct.of (by decide +kernel) (Nat.le_of_ble_eq_true rfl) ?_
  intro p e s m args below meth c C ls hl hS
  have C : CX G p s m args meth c cX7_behind 3 (some .int) RX7 := C
  have hl : lv_has ls 3 [(0, .ref (G.1 + 0)), (1, .int v1), (2, .int v2)] := hl
  have hx := C.1
  have hb := C.2.1
  have hown := C.2.2.2.2.2.1
  have hw := C.2.2.2.2.2.2.1
  unfold fX7_behind at hf
  refine lv_iload_n hx hb dX7_behind_0 rfl (lv_at hl 1 rfl) ?_
  refine lv_if_lt (tgt := 28) hx hb dX7_behind_1 (by decide) (fun c_1 => ?_) (fun c_1 => ?_)
  · replace hf := if_p c_1 hf
    refine lv_ldc (v := (-1000000001)) hx hb hown (hw _ g_267) dX7_behind_28 ?_
    exact rtI C hS hf dX7_behind_30
  · replace hf := if_n c_1 hf
    refine lv_iload_n hx hb dX7_behind_4 rfl (lv_at hl 1 rfl) ?_
    refine lv_sipush (v := 300) hx hb dX7_behind_5 (by decide) ?_
    refine lv_icmp_gt (tgt := 28) hx hb dX7_behind_8 (by decide) (fun c_2 => ?_) (fun c_2 => ?_)
    · replace hf := if_p c_2 hf
      refine lv_ldc (v := (-1000000001)) hx hb hown (hw _ g_267) dX7_behind_28 ?_
      exact rtI C hS hf dX7_behind_30
    · replace hf := if_n c_2 hf
      refine lv_iload_n hx hb dX7_behind_11 rfl (lv_at hl 2 rfl) ?_
      refine lv_if_lt (tgt := 28) hx hb dX7_behind_12 (by decide) (fun c_3 => ?_) (fun c_3 => ?_)
      · replace hf := if_p c_3 hf
        refine lv_ldc (v := (-1000000001)) hx hb hown (hw _ g_267) dX7_behind_28 ?_
        exact rtI C hS hf dX7_behind_30
      · replace hf := if_n c_3 hf
        refine lv_iload_n hx hb dX7_behind_15 rfl (lv_at hl 2 rfl) ?_
        refine lv_iconst (v := 3) hx hb dX7_behind_16 (by decide) ?_
        refine lv_aload_n hx hb dX7_behind_17 rfl (lv_at hl 0 rfl) ?_
        refine gf6_2 C hS (rfl) g_228 dX7_behind_18 ?_
        refine gf3_2 C hS (rfl) g_105 dX7_behind_21 ?_
        refine lv_iadd hx hb dX7_behind_24 ?_
        refine lv_icmp_lt (tgt := 31) hx hb dX7_behind_25 (by decide) (fun c_4 => ?_) (fun c_4 => ?_)
        · replace hf := if_p c_4 hf
          refine lv_aload_n hx hb dX7_behind_31 rfl (lv_at hl 0 rfl) ?_
          refine gf6_4 C hS (rfl) g_230 dX7_behind_32 ?_
          refine lv_aload_n hx hb dX7_behind_35 rfl (lv_at hl 0 rfl) ?_
          refine gf6_2 C hS (rfl) g_228 dX7_behind_36 ?_
          obtain ⟨r_5, x_6, qr_5, hf⟩ := bd_out hf
          refine rvV (As := [.ref (G.1 + 4)]) (rest := []) C hS (rfl) rfl KX4_become (cX4_become_ (rfl) (rfl) qr_5) g_430 ⟨rfl, rfl⟩ ⟨(Nat.le_of_ble_eq_true rfl), (Nat.le_of_ble_eq_true rfl)⟩ hl.1 rfl rfl (Nat.le_of_ble_eq_true rfl) ⟨Nat.zero_le _, Nat.zero_le _⟩ dX7_behind_39 (fun H locs hS => ?_)
          refine lv_aload_n hx hb dX7_behind_42 rfl (lv_at hl 0 rfl) ?_
          refine gf6_4 C hS (rfl) g_230 dX7_behind_43 ?_
          refine lv_iload_n hx hb dX7_behind_46 rfl (lv_at hl 1 rfl) ?_
          obtain ⟨r_7, x_8, qr_7, hf⟩ := bd_out hf
          refine rvI (As := [.int v1]) (rest := []) C hS (rfl) rfl KX4_passMinutes (cX4_passMinutes_ (rfl) qr_7) g_379 ⟨rfl, rfl⟩ ⟨(Nat.le_of_ble_eq_true rfl), (Nat.le_of_ble_eq_true rfl)⟩ hl.1 rfl rfl (Nat.le_of_ble_eq_true rfl) ⟨Nat.zero_le _, Nat.zero_le _⟩ dX7_behind_47 (fun H locs hS => ?_)
          refine lv_pop hx hb dX7_behind_50 rfl ?_
          refine lv_iload_n hx hb dX7_behind_51 rfl (lv_at hl 2 rfl) ?_
          by_cases c_9 : v2 = 0
          · replace hf := if_p c_9 hf
            refine tswI (k := 0) (off := 28) (tgt := 80) hx hb dX7_behind_52 c_9 (by decide) rfl (by decide) ?_
            refine lv_aload_n hx hb dX7_behind_80 rfl (lv_at hl 0 rfl) ?_
            refine gf6_4 C hS (rfl) g_230 dX7_behind_81 ?_
            obtain ⟨r_10, x_11, qr_10, hf⟩ := bd_out hf
            refine rvI (As := []) (rest := []) C hS (rfl) rfl KX4_purses (cX4_purses_ (rfl) qr_10) g_408 ⟨rfl, rfl⟩ ⟨(Nat.le_of_ble_eq_true rfl), (Nat.le_of_ble_eq_true rfl)⟩ hl.1 rfl rfl (Nat.le_of_ble_eq_true rfl) ⟨Nat.zero_le _, Nat.zero_le _⟩ dX7_behind_84 (fun H locs hS => ?_)
            exact rtI C hS hf dX7_behind_87
          · replace hf := if_n c_9 hf
            by_cases c_12 : v2 = 1
            · replace hf := if_p c_12 hf
              refine tswI (k := 1) (off := 36) (tgt := 88) hx hb dX7_behind_52 c_12 (by decide) rfl (by decide) ?_
              refine lv_aload_n hx hb dX7_behind_88 rfl (lv_at hl 0 rfl) ?_
              refine gf6_4 C hS (rfl) g_230 dX7_behind_89 ?_
              refine gf3_5 C hS (rfl) g_111 dX7_behind_92 ?_
              exact rtI C hS hf dX7_behind_95
            · replace hf := if_n c_12 hf
              by_cases c_13 : v2 = 2
              · replace hf := if_p c_13 hf
                refine tswI (k := 2) (off := 44) (tgt := 96) hx hb dX7_behind_52 c_13 (by decide) rfl (by decide) ?_
                refine lv_aload_n hx hb dX7_behind_96 rfl (lv_at hl 0 rfl) ?_
                refine gf6_4 C hS (rfl) g_230 dX7_behind_97 ?_
                refine gf3_7 C hS (rfl) g_115 dX7_behind_100 ?_
                exact rtI C hS hf dX7_behind_103
              · replace hf := if_n c_13 hf
                refine lv_tableOut (tgt := 104) hx hb dX7_behind_52 (by have zc_9 := lv_neT c_9 (a := 0) (by decide); have zc_12 := lv_neT c_12 (a := 1) (by decide); have zc_13 := lv_neT c_13 (a := 2) (by decide); omega) (by decide) ?_
                refine lv_aload_n hx hb dX7_behind_104 rfl (lv_at hl 0 rfl) ?_
                refine gf6_4 C hS (rfl) g_230 dX7_behind_105 ?_
                refine gf3_0 C hS (rfl) g_102 dX7_behind_108 ?_
                refine lv_iload_n hx hb dX7_behind_111 rfl (lv_at hl 2 rfl) ?_
                refine lv_iconst (v := 3) hx hb dX7_behind_112 (by decide) ?_
                refine lv_isub hx hb dX7_behind_113 ?_
                obtain ⟨gg_14, hf⟩ := gd_out hf
                refine alV C hS (rfl) (by decide) (by decide) 4 rfl rfl gg_14 (v := .ref (G.1 + (29 + (ix (v2 - 3))))) (vwR (rfl) (by decide) rfl) dX7_behind_114 ?_
                refine gf0_4 C hS (el12 (a := 27) rfl gg_14) g_80 dX7_behind_115 ?_
                exact rtI C hS hf dX7_behind_118
        · replace hf := if_n c_4 hf
          refine lv_ldc (v := (-1000000001)) hx hb hown (hw _ g_267) dX7_behind_28 ?_
          exact rtI C hS hf dX7_behind_30
abbrev rmX7_mayBeThought : Room := { frames := 0, cells := 0, slots := 0, locals := 0 }
set_option maxRecDepth 100000 in
set_option maxHeartbeats 4000000 in
theorem cX7_mayBeThought_ {G : GT} {l : Launch} {v0 : Int32} {x z : XS} {r : Int32} (hf : fX7_mayBeThought v0 x = some (r, z)) : Ct G l yX7_mayBeThought (.code yX7_mayBeThought cX7_mayBeThought 1 (some .boolean)) rmX7_mayBeThought [.int v0] x (some (.int r)) z := by
  refine Ct.of (by decide +kernel) (Nat.le_of_ble_eq_true rfl) ?_
  intro p e s m args below meth c C ls hl hS
  have C : CX G p s m args meth c cX7_mayBeThought 1 (some .boolean) RX7 := C
  have hl : lv_has ls 1 [(0, .int v0)] := hl
  have hx := C.1
  have hb := C.2.1
  have hown := C.2.2.2.2.2.1
  have hw := C.2.2.2.2.2.2.1
  unfold fX7_mayBeThought at hf
  refine lv_iload_n hx hb dX7_mayBeThought_0 rfl (lv_at hl 0 rfl) ?_
  refine lv_iconst (v := 1) hx hb dX7_mayBeThought_1 (by decide) ?_
  refine lv_icmp_lt (tgt := 15) hx hb dX7_mayBeThought_2 (by decide) (fun c_1 => ?_) (fun c_1 => ?_)
  · replace hf := if_p c_1 hf
    refine lv_iconst (v := 0) hx hb dX7_mayBeThought_15 (by decide) ?_
    exact rtZ C hS rfl hf dX7_mayBeThought_16
  · replace hf := if_n c_1 hf
    refine lv_iload_n hx hb dX7_mayBeThought_5 rfl (lv_at hl 0 rfl) ?_
    refine lv_bipush (v := 60) hx hb dX7_mayBeThought_6 (by decide) ?_
    refine lv_icmp_gt (tgt := 15) hx hb dX7_mayBeThought_8 (by decide) (fun c_2 => ?_) (fun c_2 => ?_)
    · replace hf := if_p c_2 hf
      refine lv_iconst (v := 0) hx hb dX7_mayBeThought_15 (by decide) ?_
      exact rtZ C hS rfl hf dX7_mayBeThought_16
    · replace hf := if_n c_2 hf
      refine lv_iconst (v := 1) hx hb dX7_mayBeThought_11 (by decide) ?_
      refine lv_goto (tgt := 16) hx hb dX7_mayBeThought_12 (by decide) ?_
      exact rtZ C hS rfl hf dX7_mayBeThought_16
abbrev rmX7_best : Room := { frames := 6, cells := 0, slots := 0, locals := 183 }
set_option maxRecDepth 100000 in
set_option maxHeartbeats 4000000 in
theorem wX7_best_h35 {p : Program} {l : Launch} {e : Env} {s : State} {m : MethodId} {args : Array Value} {below : List Frame} {meth : Method} {c : Code} {G : GT} {r : Int32} {z : XS} (C : CX G p s m args meth c cX7_best 12 (some .int) RX7) : ∀ (x : XS), fX7_best_h35 x = some (r, z) → ∀ (H : Heap) (locs : List Loc) (ls : Array Slot), SR G x H locs → lv_has ls 12 [] → W p l e rmX7_best s m args below meth c H locs 0 0 (MQ below (QC G (some (.int r)) z) args s 0 0 (AB G)) (F0 m 35 ls []) := by
  intro x hf H locs ls hS hl
  have hx := C.1
  have hb := C.2.1
  have hown := C.2.2.2.2.2.1
  have hw := C.2.2.2.2.2.2.1
  unfold fX7_best_h35 at hf
  refine lv_ldc (v := (-1000000001)) hx hb hown (hw _ g_267) dX7_best_35 ?_
  exact rtI C hS hf dX7_best_37
set_option maxRecDepth 100000 in
set_option maxHeartbeats 4000000 in
theorem wbX7_best_h104 {p : Program} {l : Launch} {e : Env} {s : State} {m : MethodId} {args : Array Value} {below : List Frame} {meth : Method} {c : Code} {G : GT} {r : Int32} {z : XS} (C : CX G p s m args meth c cX7_best 12 (some .int) RX7) {k104 : Int32 → Int32 → Int32 → Int32 → Int32 → Int32 → Int32 → Int32 → Int32 → XS → Option (Int32 × XS)} (hk104 : ∀ (u1 : Int32) (u3 : Int32) (u4 : Int32) (u5 : Int32) (u6 : Int32) (u7 : Int32) (u8 : Int32) (u9 : Int32) (u10 : Int32) (x : XS), k104 u1 u3 u4 u5 u6 u7 u8 u9 u10 x = some (r, z) → ∀ (H : Heap) (locs : List Loc) (ls : Array Slot), SR G x H locs → lv_has ls 12 [(0, .ref (G.1 + 0)), (1, .int u1), (3, .int u3), (4, .int u4), (5, .int u5), (6, .int u6), (7, .int u7), (8, .int u8), (9, .int u9), (10, .int u10)] → W p l e rmX7_best s m args below meth c H locs 0 0 (MQ below (QC G (some (.int r)) z) args s 0 0 (AB G)) (F0 m 104 ls [])) : ∀ (u1 : Int32) (u3 : Int32) (u4 : Int32) (u5 : Int32) (u6 : Int32) (u7 : Int32) (u8 : Int32) (u9 : Int32) (u10 : Int32) (x : XS), bX7_best_h104 k104 u1 u3 u4 u5 u6 u7 u8 u9 u10 x = some (r, z) → ∀ (H : Heap) (locs : List Loc) (ls : Array Slot), SR G x H locs → lv_has ls 12 [(0, .ref (G.1 + 0)), (1, .int u1), (3, .int u3), (4, .int u4), (5, .int u5), (6, .int u6), (7, .int u7), (8, .int u8), (9, .int u9), (10, .int u10)] → W p l e rmX7_best s m args below meth c H locs 0 0 (MQ below (QC G (some (.int r)) z) args s 0 0 (AB G)) (F0 m 104 ls []) := by
  intro u1 u3 u4 u5 u6 u7 u8 u9 u10 x hf H locs ls hS hl
  have hx := C.1
  have hb := C.2.1
  have hown := C.2.2.2.2.2.1
  have hw := C.2.2.2.2.2.2.1
  unfold bX7_best_h104 at hf
  refine lv_iload hx hb dX7_best_104 (lv_at hl 9 rfl) ?_
  refine lv_iload hx hb dX7_best_106 (lv_at hl 5 rfl) ?_
  refine lv_icmp_gt (tgt := 189) hx hb dX7_best_108 (by decide) (fun c_16 => ?_) (fun c_16 => ?_)
  · replace hf := if_p c_16 hf
    refine lv_iload hx hb dX7_best_189 (lv_at hl 3 rfl) ?_
    refine lv_if_ne (tgt := 199) hx hb dX7_best_191 (by decide) (fun c_17 => ?_) (fun c_17 => ?_)
    · replace hf := if_n c_17 hf
      refine lv_iload hx hb dX7_best_199 (lv_at hl 8 rfl) ?_
      exact rtI C hS hf dX7_best_201
    · replace hf := if_p c_17 hf
      refine lv_iload hx hb dX7_best_194 (lv_at hl 7 rfl) ?_
      refine lv_goto (tgt := 201) hx hb dX7_best_196 (by decide) ?_
      exact rtI C hS hf dX7_best_201
  · replace hf := if_n c_16 hf
    refine lv_aload_n hx hb dX7_best_111 rfl (lv_at hl 0 rfl) ?_
    refine gf6_4 C hS (rfl) g_230 dX7_best_112 ?_
    refine lv_aload_n hx hb dX7_best_115 rfl (lv_at hl 0 rfl) ?_
    refine gf6_2 C hS (rfl) g_228 dX7_best_116 ?_
    obtain ⟨r_18, x_19, qr_18, hf⟩ := bd_out hf
    refine rvV (As := [.ref (G.1 + 4)]) (rest := []) C hS (rfl) rfl KX4_become (cX4_become_ (rfl) (rfl) qr_18) g_430 ⟨rfl, rfl⟩ ⟨(Nat.le_of_ble_eq_true rfl), (Nat.le_of_ble_eq_true rfl)⟩ hl.1 rfl rfl (Nat.le_of_ble_eq_true rfl) ⟨Nat.zero_le _, Nat.zero_le _⟩ dX7_best_119 (fun H locs hS => ?_)
    refine lv_aload_n hx hb dX7_best_122 rfl (lv_at hl 0 rfl) ?_
    refine gf6_4 C hS (rfl) g_230 dX7_best_123 ?_
    refine gf3_0 C hS (rfl) g_102 dX7_best_126 ?_
    refine lv_iload_n hx hb dX7_best_129 rfl (lv_at hl 1 rfl) ?_
    obtain ⟨gg_20, hf⟩ := gd_out hf
    refine alV C hS (rfl) (by decide) (by decide) 4 rfl rfl gg_20 (v := .ref (G.1 + (29 + (ix u1)))) (vwR (rfl) (by decide) rfl) dX7_best_130 ?_
    refine lv_iload hx hb dX7_best_131 (lv_at hl 6 rfl) ?_
    refine lv_iload hx hb dX7_best_133 (lv_at hl 9 rfl) ?_
    obtain ⟨r_21, x_22, qr_21, hf⟩ := bd_out hf
    refine rvV (As := [.int u7, .int u10]) (rest := []) C hS (el12 (a := 27) rfl gg_20) rfl KX0_change (cX0_change_ (el12 (a := 27) rfl gg_20) qr_21) g_348 ⟨rfl, rfl⟩ ⟨(Nat.le_of_ble_eq_true rfl), (Nat.le_of_ble_eq_true rfl)⟩ hl.1 rfl rfl (Nat.le_of_ble_eq_true rfl) ⟨Nat.zero_le _, Nat.zero_le _⟩ dX7_best_135 (fun H locs hS => ?_)
    refine lv_aload_n hx hb dX7_best_138 rfl (lv_at hl 0 rfl) ?_
    refine gf6_4 C hS (rfl) g_230 dX7_best_139 ?_
    refine lv_iload_n hx hb dX7_best_142 rfl (lv_at hl 2 rfl) ?_
    obtain ⟨r_23, x_24, qr_23, hf⟩ := bd_out hf
    refine rvI (As := [.int u3]) (rest := []) C hS (rfl) rfl KX4_passMinutes (cX4_passMinutes_ (rfl) qr_23) g_379 ⟨rfl, rfl⟩ ⟨(Nat.le_of_ble_eq_true rfl), (Nat.le_of_ble_eq_true rfl)⟩ hl.1 rfl rfl (Nat.le_of_ble_eq_true rfl) ⟨Nat.zero_le _, Nat.zero_le _⟩ dX7_best_143 (fun H locs hS => ?_)
    refine lv_pop hx hb dX7_best_146 rfl ?_
    refine lv_aload_n hx hb dX7_best_147 rfl (lv_at hl 0 rfl) ?_
    refine gf6_4 C hS (rfl) g_230 dX7_best_148 ?_
    refine gf3_0 C hS (rfl) g_102 dX7_best_151 ?_
    refine lv_iload_n hx hb dX7_best_154 rfl (lv_at hl 1 rfl) ?_
    obtain ⟨gg_25, hf⟩ := gd_out hf
    refine alV C hS (rfl) (by decide) (by decide) 4 rfl rfl gg_25 (v := .ref (G.1 + (29 + (ix u1)))) (vwR (rfl) (by decide) rfl) dX7_best_155 ?_
    refine gf0_4 C hS (el12 (a := 27) rfl gg_25) g_80 dX7_best_156 ?_
    obtain ⟨v_26, ev_26, hf⟩ := st_out hf
    refine topI ev_26 ?_
    refine lv_istore (lv' := [(11, .int v_26), (0, .ref (G.1 + 0)), (1, .int u1), (3, .int u3), (4, .int u4), (5, .int u5), (6, .int u6), (7, .int u7), (8, .int u8), (9, .int u9), (10, .int u10)]) hx hb dX7_best_159 hl (by decide) rfl (fun ls hl => ?_)
    refine lv_iload hx hb dX7_best_161 (lv_at hl 10 rfl) ?_
    refine lv_iload hx hb dX7_best_163 (lv_at hl 5 rfl) ?_
    refine lv_icmp_eq (tgt := 175) hx hb dX7_best_165 (by decide) (fun c_27 => ?_) (fun c_27 => ?_)
    · replace hf := if_p c_27 hf
      refine lv_iload hx hb dX7_best_175 (lv_at hl 10 rfl) ?_
      refine lv_istore (lv' := [(8, .int u10), (11, .int v_26), (0, .ref (G.1 + 0)), (1, .int u1), (3, .int u3), (4, .int u4), (5, .int u5), (6, .int u6), (7, .int u7), (9, .int u9), (10, .int u10)]) hx hb dX7_best_177 hl (by decide) rfl (fun ls hl => ?_)
      refine lv_iload hx hb dX7_best_179 (lv_at hl 1 rfl) ?_
      refine lv_istore (lv' := [(9, .int v_26), (8, .int u10), (11, .int v_26), (0, .ref (G.1 + 0)), (1, .int u1), (3, .int u3), (4, .int u4), (5, .int u5), (6, .int u6), (7, .int u7), (10, .int u10)]) hx hb dX7_best_181 hl (by decide) rfl (fun ls hl => ?_)
      obtain ⟨v_28, ev_28, hf⟩ := st_out hf
      refine lv_iinc (v := v_28) (lv' := [(10, .int v_28), (9, .int v_26), (8, .int u10), (11, .int v_26), (0, .ref (G.1 + 0)), (1, .int u1), (3, .int u3), (4, .int u4), (5, .int u5), (6, .int u6), (7, .int u7)]) hx hb dX7_best_183 hl (k := 10) rfl (by rw [ev_28]; rfl) (by decide) rfl (fun ls hl => ?_)
      refine lv_goto (tgt := 104) hx hb dX7_best_186 (by decide) ?_
      exact hk104 u1 u3 u4 u5 u6 u7 u10 v_26 v_28 x_24 hf _ _ _ hS (lv_sub hl [4, 5, 6, 7, 8, 9, 10, 2, 1, 0] rfl)
    · replace hf := if_n c_27 hf
      refine lv_iload hx hb dX7_best_168 (lv_at hl 0 rfl) ?_
      refine lv_iload hx hb dX7_best_170 (lv_at hl 9 rfl) ?_
      refine lv_icmp_le (tgt := 183) hx hb dX7_best_172 (by decide) (fun c_29 => ?_) (fun c_29 => ?_)
      · replace hf := if_p c_29 hf
        obtain ⟨v_30, ev_30, hf⟩ := st_out hf
        refine lv_iinc (v := v_30) (lv' := [(10, .int v_30), (11, .int v_26), (0, .ref (G.1 + 0)), (1, .int u1), (3, .int u3), (4, .int u4), (5, .int u5), (6, .int u6), (7, .int u7), (8, .int u8), (9, .int u9)]) hx hb dX7_best_183 hl (k := 10) rfl (by rw [ev_30]; rfl) (by decide) rfl (fun ls hl => ?_)
        refine lv_goto (tgt := 104) hx hb dX7_best_186 (by decide) ?_
        exact hk104 u1 u3 u4 u5 u6 u7 u8 u9 v_30 x_24 hf _ _ _ hS (lv_sub hl [2, 3, 4, 5, 6, 7, 8, 9, 10, 0] rfl)
      · replace hf := if_n c_29 hf
        refine lv_iload hx hb dX7_best_175 (lv_at hl 10 rfl) ?_
        refine lv_istore (lv' := [(8, .int u10), (11, .int v_26), (0, .ref (G.1 + 0)), (1, .int u1), (3, .int u3), (4, .int u4), (5, .int u5), (6, .int u6), (7, .int u7), (9, .int u9), (10, .int u10)]) hx hb dX7_best_177 hl (by decide) rfl (fun ls hl => ?_)
        refine lv_iload hx hb dX7_best_179 (lv_at hl 1 rfl) ?_
        refine lv_istore (lv' := [(9, .int v_26), (8, .int u10), (11, .int v_26), (0, .ref (G.1 + 0)), (1, .int u1), (3, .int u3), (4, .int u4), (5, .int u5), (6, .int u6), (7, .int u7), (10, .int u10)]) hx hb dX7_best_181 hl (by decide) rfl (fun ls hl => ?_)
        obtain ⟨v_31, ev_31, hf⟩ := st_out hf
        refine lv_iinc (v := v_31) (lv' := [(10, .int v_31), (9, .int v_26), (8, .int u10), (11, .int v_26), (0, .ref (G.1 + 0)), (1, .int u1), (3, .int u3), (4, .int u4), (5, .int u5), (6, .int u6), (7, .int u7)]) hx hb dX7_best_183 hl (k := 10) rfl (by rw [ev_31]; rfl) (by decide) rfl (fun ls hl => ?_)
        refine lv_goto (tgt := 104) hx hb dX7_best_186 (by decide) ?_
        exact hk104 u1 u3 u4 u5 u6 u7 u10 v_26 v_31 x_24 hf _ _ _ hS (lv_sub hl [4, 5, 6, 7, 8, 9, 10, 2, 1, 0] rfl)
theorem wlX7_best_h104 {p : Program} {l : Launch} {e : Env} {s : State} {m : MethodId} {args : Array Value} {below : List Frame} {meth : Method} {c : Code} {G : GT} {r : Int32} {z : XS} (C : CX G p s m args meth c cX7_best 12 (some .int) RX7) (n : Nat) : ∀ (u1 : Int32) (u3 : Int32) (u4 : Int32) (u5 : Int32) (u6 : Int32) (u7 : Int32) (u8 : Int32) (u9 : Int32) (u10 : Int32) (x : XS), lX7_best_h104 n u1 u3 u4 u5 u6 u7 u8 u9 u10 x = some (r, z) → ∀ (H : Heap) (locs : List Loc) (ls : Array Slot), SR G x H locs → lv_has ls 12 [(0, .ref (G.1 + 0)), (1, .int u1), (3, .int u3), (4, .int u4), (5, .int u5), (6, .int u6), (7, .int u7), (8, .int u8), (9, .int u9), (10, .int u10)] → W p l e rmX7_best s m args below meth c H locs 0 0 (MQ below (QC G (some (.int r)) z) args s 0 0 (AB G)) (F0 m 104 ls []) := by
  induction n with
  | zero => intro u1 u3 u4 u5 u6 u7 u8 u9 u10 x hf H locs ls hS hl; exact absurd hf (by intro q; cases q)
  | succ n ih => exact wbX7_best_h104 C ih
theorem wX7_best_h104 {p : Program} {l : Launch} {e : Env} {s : State} {m : MethodId} {args : Array Value} {below : List Frame} {meth : Method} {c : Code} {G : GT} {r : Int32} {z : XS} (C : CX G p s m args meth c cX7_best 12 (some .int) RX7) : ∀ (u1 : Int32) (u3 : Int32) (u4 : Int32) (u5 : Int32) (u6 : Int32) (u7 : Int32) (u8 : Int32) (u9 : Int32) (u10 : Int32) (x : XS), fX7_best_h104 u1 u3 u4 u5 u6 u7 u8 u9 u10 x = some (r, z) → ∀ (H : Heap) (locs : List Loc) (ls : Array Slot), SR G x H locs → lv_has ls 12 [(0, .ref (G.1 + 0)), (1, .int u1), (3, .int u3), (4, .int u4), (5, .int u5), (6, .int u6), (7, .int u7), (8, .int u8), (9, .int u9), (10, .int u10)] → W p l e rmX7_best s m args below meth c H locs 0 0 (MQ below (QC G (some (.int r)) z) args s 0 0 (AB G)) (F0 m 104 ls []) := wlX7_best_h104 C FU
set_option maxRecDepth 100000 in
set_option maxHeartbeats 4000000 in
theorem wX7_best_h91 {p : Program} {l : Launch} {e : Env} {s : State} {m : MethodId} {args : Array Value} {below : List Frame} {meth : Method} {c : Code} {G : GT} {r : Int32} {z : XS} (C : CX G p s m args meth c cX7_best 12 (some .int) RX7) : ∀ (u1 : Int32) (u3 : Int32) (u4 : Int32) (u5 : Int32) (u6 : Int32) (s0 : Int32) (x : XS), fX7_best_h91 u1 u3 u4 u5 u6 s0 x = some (r, z) → ∀ (H : Heap) (locs : List Loc) (ls : Array Slot), SR G x H locs → lv_has ls 12 [(0, .ref (G.1 + 0)), (1, .int u1), (3, .int u3), (4, .int u4), (5, .int u5), (6, .int u6)] → W p l e rmX7_best s m args below meth c H locs 0 0 (MQ below (QC G (some (.int r)) z) args s 0 0 (AB G)) (F0 m 91 ls [.int s0]) := by
  intro u1 u3 u4 u5 u6 s0 x hf H locs ls hS hl
  have hx := C.1
  have hb := C.2.1
  have hown := C.2.2.2.2.2.1
  have hw := C.2.2.2.2.2.2.1
  unfold fX7_best_h91 at hf
  refine lv_istore (lv' := [(7, .int s0), (0, .ref (G.1 + 0)), (1, .int u1), (3, .int u3), (4, .int u4), (5, .int u5), (6, .int u6)]) hx hb dX7_best_91 hl (by decide) rfl (fun ls hl => ?_)
  refine lv_iload hx hb dX7_best_93 (lv_at hl 5 rfl) ?_
  refine lv_istore (lv' := [(8, .int u5), (7, .int s0), (0, .ref (G.1 + 0)), (1, .int u1), (3, .int u3), (4, .int u4), (5, .int u5), (6, .int u6)]) hx hb dX7_best_95 hl (by decide) rfl (fun ls hl => ?_)
  refine lv_iconst (v := 0) hx hb dX7_best_97 (by decide) ?_
  refine lv_istore (lv' := [(9, .int 0), (8, .int u5), (7, .int s0), (0, .ref (G.1 + 0)), (1, .int u1), (3, .int u3), (4, .int u4), (5, .int u5), (6, .int u6)]) hx hb dX7_best_98 hl (by decide) rfl (fun ls hl => ?_)
  refine lv_iload hx hb dX7_best_100 (lv_at hl 7 rfl) ?_
  refine lv_istore (lv' := [(10, .int u5), (9, .int 0), (8, .int u5), (7, .int s0), (0, .ref (G.1 + 0)), (1, .int u1), (3, .int u3), (4, .int u4), (5, .int u5), (6, .int u6)]) hx hb dX7_best_102 hl (by decide) rfl (fun ls hl => ?_)
  exact wX7_best_h104  C u1 u3 u4 u5 u6 s0 u5 0 u5 x hf _ _ _ hS (lv_sub hl [4, 5, 6, 7, 8, 9, 3, 2, 1, 0] rfl)
set_option maxRecDepth 100000 in
set_option maxHeartbeats 4000000 in
theorem wX7_best_h71 {p : Program} {l : Launch} {e : Env} {s : State} {m : MethodId} {args : Array Value} {below : List Frame} {meth : Method} {c : Code} {G : GT} {r : Int32} {z : XS} (C : CX G p s m args meth c cX7_best 12 (some .int) RX7) : ∀ (u1 : Int32) (u2 : Int32) (u3 : Int32) (u4 : Int32) (u5 : Int32) (s0 : Int32) (x : XS), fX7_best_h71 u1 u2 u3 u4 u5 s0 x = some (r, z) → ∀ (H : Heap) (locs : List Loc) (ls : Array Slot), SR G x H locs → lv_has ls 12 [(0, .ref (G.1 + 0)), (1, .int u1), (2, .int u2), (3, .int u3), (4, .int u4), (5, .int u5)] → W p l e rmX7_best s m args below meth c H locs 0 0 (MQ below (QC G (some (.int r)) z) args s 0 0 (AB G)) (F0 m 71 ls [.int s0]) := by
  intro u1 u2 u3 u4 u5 s0 x hf H locs ls hS hl
  have hx := C.1
  have hb := C.2.1
  have hown := C.2.2.2.2.2.1
  have hw := C.2.2.2.2.2.2.1
  unfold fX7_best_h71 at hf
  refine lv_istore (lv' := [(6, .int s0), (0, .ref (G.1 + 0)), (1, .int u1), (2, .int u2), (3, .int u3), (4, .int u4), (5, .int u5)]) hx hb dX7_best_71 hl (by decide) rfl (fun ls hl => ?_)
  refine lv_iload_n hx hb dX7_best_73 rfl (lv_at hl 3 rfl) ?_
  refine lv_if_ne (tgt := 81) hx hb dX7_best_74 (by decide) (fun c_14 => ?_) (fun c_14 => ?_)
  · replace hf := if_n c_14 hf
    refine lv_iload_n hx hb dX7_best_81 rfl (lv_at hl 3 rfl) ?_
    refine lv_iconst (v := 1) hx hb dX7_best_82 (by decide) ?_
    refine lv_icmp_ne (tgt := 90) hx hb dX7_best_83 (by decide) (fun c_15 => ?_) (fun c_15 => ?_)
    · replace hf := if_n c_15 hf
      refine lv_iconst (v := 2) hx hb dX7_best_90 (by decide) ?_
      exact wX7_best_h91  C u1 u3 u4 u5 s0 2 x hf _ _ _ hS (lv_sub hl [1, 2, 4, 5, 6, 0] rfl)
    · replace hf := if_p c_15 hf
      refine lv_iconst (v := 1) hx hb dX7_best_86 (by decide) ?_
      refine lv_goto (tgt := 91) hx hb dX7_best_87 (by decide) ?_
      exact wX7_best_h91  C u1 u3 u4 u5 s0 1 x hf _ _ _ hS (lv_sub hl [1, 2, 4, 5, 6, 0] rfl)
  · replace hf := if_p c_14 hf
    refine lv_iconst (v := 3) hx hb dX7_best_77 (by decide) ?_
    refine lv_goto (tgt := 91) hx hb dX7_best_78 (by decide) ?_
    exact wX7_best_h91  C u1 u3 u4 u5 s0 3 x hf _ _ _ hS (lv_sub hl [1, 2, 4, 5, 6, 0] rfl)
set_option maxRecDepth 100000 in
set_option maxHeartbeats 4000000 in
theorem wX7_best_h48 {p : Program} {l : Launch} {e : Env} {s : State} {m : MethodId} {args : Array Value} {below : List Frame} {meth : Method} {c : Code} {G : GT} {r : Int32} {z : XS} (C : CX G p s m args meth c cX7_best 12 (some .int) RX7) : ∀ (u1 : Int32) (u2 : Int32) (u3 : Int32) (u4 : Int32) (s0 : Int32) (x : XS), fX7_best_h48 u1 u2 u3 u4 s0 x = some (r, z) → ∀ (H : Heap) (locs : List Loc) (ls : Array Slot), SR G x H locs → lv_has ls 12 [(0, .ref (G.1 + 0)), (1, .int u1), (2, .int u2), (3, .int u3), (4, .int u4)] → W p l e rmX7_best s m args below meth c H locs 0 0 (MQ below (QC G (some (.int r)) z) args s 0 0 (AB G)) (F0 m 48 ls [.int s0]) := by
  intro u1 u2 u3 u4 s0 x hf H locs ls hS hl
  have hx := C.1
  have hb := C.2.1
  have hown := C.2.2.2.2.2.1
  have hw := C.2.2.2.2.2.2.1
  unfold fX7_best_h48 at hf
  refine lv_istore (lv' := [(5, .int s0), (0, .ref (G.1 + 0)), (1, .int u1), (2, .int u2), (3, .int u3), (4, .int u4)]) hx hb dX7_best_48 hl (by decide) rfl (fun ls hl => ?_)
  refine lv_iload_n hx hb dX7_best_50 rfl (lv_at hl 3 rfl) ?_
  refine lv_if_ne (tgt := 59) hx hb dX7_best_51 (by decide) (fun c_12 => ?_) (fun c_12 => ?_)
  · replace hf := if_n c_12 hf
    refine lv_iload_n hx hb dX7_best_59 rfl (lv_at hl 3 rfl) ?_
    refine lv_iconst (v := 1) hx hb dX7_best_60 (by decide) ?_
    refine lv_icmp_ne (tgt := 69) hx hb dX7_best_61 (by decide) (fun c_13 => ?_) (fun c_13 => ?_)
    · replace hf := if_n c_13 hf
      refine lv_bipush (v := 40) hx hb dX7_best_69 (by decide) ?_
      exact wX7_best_h71  C u1 u2 u3 u4 s0 40 x hf _ _ _ hS (lv_sub hl [1, 2, 3, 4, 5, 0] rfl)
    · replace hf := if_p c_13 hf
      refine lv_bipush (v := 9) hx hb dX7_best_64 (by decide) ?_
      refine lv_goto (tgt := 71) hx hb dX7_best_66 (by decide) ?_
      exact wX7_best_h71  C u1 u2 u3 u4 s0 9 x hf _ _ _ hS (lv_sub hl [1, 2, 3, 4, 5, 0] rfl)
  · replace hf := if_p c_12 hf
    refine lv_bipush (v := 20) hx hb dX7_best_54 (by decide) ?_
    refine lv_goto (tgt := 71) hx hb dX7_best_56 (by decide) ?_
    exact wX7_best_h71  C u1 u2 u3 u4 s0 20 x hf _ _ _ hS (lv_sub hl [1, 2, 3, 4, 5, 0] rfl)
set_option maxRecDepth 100000 in
set_option maxHeartbeats 4000000 in
theorem cX7_best_ {G : GT} {l : Launch} {v1 : Int32} {v2 : Int32} {v3 : Int32} {v4 : Int32} {x z : XS} {r : Int32} (hf : fX7_best v1 v2 v3 v4 x = some (r, z)) : Ct G l yX7_best (.code yX7_best cX7_best 12 (some .int)) rmX7_best [.ref (G.1 + 0), .int v1, .int v2, .int v3, .int v4] x (some (.int r)) z := by
  refine Ct.of (by decide +kernel) (Nat.le_of_ble_eq_true rfl) ?_
  intro p e s m args below meth c C ls hl hS
  have C : CX G p s m args meth c cX7_best 12 (some .int) RX7 := C
  have hl : lv_has ls 12 [(0, .ref (G.1 + 0)), (1, .int v1), (2, .int v2), (3, .int v3), (4, .int v4)] := hl
  have hx := C.1
  have hb := C.2.1
  have hown := C.2.2.2.2.2.1
  have hw := C.2.2.2.2.2.2.1
  unfold fX7_best at hf
  refine lv_aload_n hx hb dX7_best_0 rfl (lv_at hl 0 rfl) ?_
  refine lv_iload_n hx hb dX7_best_1 rfl (lv_at hl 1 rfl) ?_
  obtain ⟨r_1, x_2, qr_1, hf⟩ := bd_out hf
  refine rvI (As := [.int v1]) (rest := []) C hS (rfl) rfl KX7_isBoy (cX7_isBoy_ qr_1) g_281 ⟨rfl, rfl⟩ ⟨(Nat.le_of_ble_eq_true rfl), (Nat.le_of_ble_eq_true rfl)⟩ hl.1 rfl rfl (Nat.le_of_ble_eq_true rfl) ⟨Nat.zero_le _, Nat.zero_le _⟩ dX7_best_2 (fun H locs hS => ?_)
  refine lv_if_eq (tgt := 35) hx hb dX7_best_5 (by decide) (fun c_3 => ?_) (fun c_3 => ?_)
  · replace hf := if_p c_3 hf
    exact wX7_best_h35  C x_2 hf _ _ _ hS (lv_sub hl [] rfl)
  · replace hf := if_n c_3 hf
    refine lv_iload_n hx hb dX7_best_8 rfl (lv_at hl 2 rfl) ?_
    refine lv_if_lt (tgt := 35) hx hb dX7_best_9 (by decide) (fun c_4 => ?_) (fun c_4 => ?_)
    · replace hf := if_p c_4 hf
      exact wX7_best_h35  C x_2 hf _ _ _ hS (lv_sub hl [] rfl)
    · replace hf := if_n c_4 hf
      refine lv_iload_n hx hb dX7_best_12 rfl (lv_at hl 2 rfl) ?_
      refine lv_iconst (v := 2) hx hb dX7_best_13 (by decide) ?_
      refine lv_icmp_gt (tgt := 35) hx hb dX7_best_14 (by decide) (fun c_5 => ?_) (fun c_5 => ?_)
      · replace hf := if_p c_5 hf
        exact wX7_best_h35  C x_2 hf _ _ _ hS (lv_sub hl [] rfl)
      · replace hf := if_n c_5 hf
        refine lv_iload_n hx hb dX7_best_17 rfl (lv_at hl 3 rfl) ?_
        obtain ⟨r_6, x_7, qr_6, hf⟩ := bd_out hf
        refine rsI (As := [.int v3]) (rest := []) C hS KX7_mayBeThought (cX7_mayBeThought_ qr_6) g_442 ⟨rfl, rfl⟩ ⟨(Nat.le_of_ble_eq_true rfl), (Nat.le_of_ble_eq_true rfl)⟩ hl.1 rfl rfl (Nat.le_of_ble_eq_true rfl) ⟨Nat.zero_le _, Nat.zero_le _⟩ dX7_best_18 (fun H locs hS => ?_)
        refine lv_if_eq (tgt := 35) hx hb dX7_best_21 (by decide) (fun c_8 => ?_) (fun c_8 => ?_)
        · replace hf := if_p c_8 hf
          exact wX7_best_h35  C x_7 hf _ _ _ hS (lv_sub hl [] rfl)
        · replace hf := if_n c_8 hf
          refine lv_iload hx hb dX7_best_24 (lv_at hl 4 rfl) ?_
          refine lv_if_lt (tgt := 35) hx hb dX7_best_26 (by decide) (fun c_9 => ?_) (fun c_9 => ?_)
          · replace hf := if_p c_9 hf
            exact wX7_best_h35  C x_7 hf _ _ _ hS (lv_sub hl [] rfl)
          · replace hf := if_n c_9 hf
            refine lv_iload hx hb dX7_best_29 (lv_at hl 4 rfl) ?_
            refine lv_iconst (v := 1) hx hb dX7_best_31 (by decide) ?_
            refine lv_icmp_le (tgt := 38) hx hb dX7_best_32 (by decide) (fun c_10 => ?_) (fun c_10 => ?_)
            · replace hf := if_p c_10 hf
              refine lv_iload_n hx hb dX7_best_38 rfl (lv_at hl 2 rfl) ?_
              refine lv_iconst (v := 1) hx hb dX7_best_39 (by decide) ?_
              refine lv_icmp_ne (tgt := 47) hx hb dX7_best_40 (by decide) (fun c_11 => ?_) (fun c_11 => ?_)
              · replace hf := if_n c_11 hf
                refine lv_iconst (v := 1) hx hb dX7_best_47 (by decide) ?_
                exact wX7_best_h48  C v1 v2 v3 v4 1 x_7 hf _ _ _ hS (lv_sub hl [0, 1, 2, 3, 4] rfl)
              · replace hf := if_p c_11 hf
                refine lv_iconst (v := 0) hx hb dX7_best_43 (by decide) ?_
                refine lv_goto (tgt := 48) hx hb dX7_best_44 (by decide) ?_
                exact wX7_best_h48  C v1 v2 v3 v4 0 x_7 hf _ _ _ hS (lv_sub hl [0, 1, 2, 3, 4] rfl)
            · replace hf := if_n c_10 hf
              exact wX7_best_h35  C x_7 hf _ _ _ hS (lv_sub hl [] rfl)
abbrev rmX7_bestShare : Room := { frames := 6, cells := 0, slots := 0, locals := 183 }
set_option maxRecDepth 100000 in
set_option maxHeartbeats 4000000 in
theorem wbX7_bestShare_h27 {p : Program} {l : Launch} {e : Env} {s : State} {m : MethodId} {args : Array Value} {below : List Frame} {meth : Method} {c : Code} {G : GT} {r : Int32} {z : XS} (C : CX G p s m args meth c cX7_bestShare 6 (some .int) RX7) {k27 : Int32 → Int32 → Int32 → Int32 → Int32 → XS → Option (Int32 × XS)} (hk27 : ∀ (u1 : Int32) (u2 : Int32) (u3 : Int32) (u4 : Int32) (u5 : Int32) (x : XS), k27 u1 u2 u3 u4 u5 x = some (r, z) → ∀ (H : Heap) (locs : List Loc) (ls : Array Slot), SR G x H locs → lv_has ls 6 [(0, .ref (G.1 + 0)), (1, .int u1), (2, .int u2), (3, .int u3), (4, .int u4), (5, .int u5)] → W p l e rmX7_bestShare s m args below meth c H locs 0 0 (MQ below (QC G (some (.int r)) z) args s 0 0 (AB G)) (F0 m 27 ls [])) : ∀ (u1 : Int32) (u2 : Int32) (u3 : Int32) (u4 : Int32) (u5 : Int32) (x : XS), bX7_bestShare_h27 k27 u1 u2 u3 u4 u5 x = some (r, z) → ∀ (H : Heap) (locs : List Loc) (ls : Array Slot), SR G x H locs → lv_has ls 6 [(0, .ref (G.1 + 0)), (1, .int u1), (2, .int u2), (3, .int u3), (4, .int u4), (5, .int u5)] → W p l e rmX7_bestShare s m args below meth c H locs 0 0 (MQ below (QC G (some (.int r)) z) args s 0 0 (AB G)) (F0 m 27 ls []) := by
  intro u1 u2 u3 u4 u5 x hf H locs ls hS hl
  have hx := C.1
  have hb := C.2.1
  have hown := C.2.2.2.2.2.1
  have hw := C.2.2.2.2.2.2.1
  unfold bX7_bestShare_h27 at hf
  refine lv_iload hx hb dX7_bestShare_27 (lv_at hl 5 rfl) ?_
  refine lv_bipush (v := 99) hx hb dX7_bestShare_29 (by decide) ?_
  refine lv_icmp_gt (tgt := 98) hx hb dX7_bestShare_31 (by decide) (fun c_6 => ?_) (fun c_6 => ?_)
  · replace hf := if_p c_6 hf
    refine lv_iload_n hx hb dX7_bestShare_98 rfl (lv_at hl 2 rfl) ?_
    refine lv_if_ne (tgt := 106) hx hb dX7_bestShare_99 (by decide) (fun c_7 => ?_) (fun c_7 => ?_)
    · replace hf := if_n c_7 hf
      refine lv_iload hx hb dX7_bestShare_106 (lv_at hl 4 rfl) ?_
      exact rtI C hS hf dX7_bestShare_108
    · replace hf := if_p c_7 hf
      refine lv_iload_n hx hb dX7_bestShare_102 rfl (lv_at hl 3 rfl) ?_
      refine lv_goto (tgt := 108) hx hb dX7_bestShare_103 (by decide) ?_
      exact rtI C hS hf dX7_bestShare_108
  · replace hf := if_n c_6 hf
    refine lv_aload_n hx hb dX7_bestShare_34 rfl (lv_at hl 0 rfl) ?_
    refine gf6_4 C hS (rfl) g_230 dX7_bestShare_35 ?_
    refine lv_aload_n hx hb dX7_bestShare_38 rfl (lv_at hl 0 rfl) ?_
    refine gf6_2 C hS (rfl) g_228 dX7_bestShare_39 ?_
    obtain ⟨r_8, x_9, qr_8, hf⟩ := bd_out hf
    refine rvV (As := [.ref (G.1 + 4)]) (rest := []) C hS (rfl) rfl KX4_become (cX4_become_ (rfl) (rfl) qr_8) g_430 ⟨rfl, rfl⟩ ⟨(Nat.le_of_ble_eq_true rfl), (Nat.le_of_ble_eq_true rfl)⟩ hl.1 rfl rfl (Nat.le_of_ble_eq_true rfl) ⟨Nat.zero_le _, Nat.zero_le _⟩ dX7_bestShare_42 (fun H locs hS => ?_)
    refine lv_aload_n hx hb dX7_bestShare_45 rfl (lv_at hl 0 rfl) ?_
    refine gf6_4 C hS (rfl) g_230 dX7_bestShare_46 ?_
    refine lv_iload hx hb dX7_bestShare_49 (lv_at hl 5 rfl) ?_
    obtain ⟨x_10, ex_10, hf⟩ := st_out hf
    refine pf3_4 C hS (rfl) g_109 ex_10 dX7_bestShare_51 (fun H locs hS => ?_)
    refine lv_aload_n hx hb dX7_bestShare_54 rfl (lv_at hl 0 rfl) ?_
    refine gf6_4 C hS (rfl) g_230 dX7_bestShare_55 ?_
    refine lv_iload_n hx hb dX7_bestShare_58 rfl (lv_at hl 1 rfl) ?_
    obtain ⟨r_11, x_12, qr_11, hf⟩ := bd_out hf
    refine rvI (As := [.int u1]) (rest := []) C hS (rfl) rfl KX4_passMinutes (cX4_passMinutes_ (rfl) qr_11) g_379 ⟨rfl, rfl⟩ ⟨(Nat.le_of_ble_eq_true rfl), (Nat.le_of_ble_eq_true rfl)⟩ hl.1 rfl rfl (Nat.le_of_ble_eq_true rfl) ⟨Nat.zero_le _, Nat.zero_le _⟩ dX7_bestShare_59 (fun H locs hS => ?_)
    refine lv_pop hx hb dX7_bestShare_62 rfl ?_
    refine lv_iload hx hb dX7_bestShare_63 (lv_at hl 5 rfl) ?_
    refine lv_if_eq (tgt := 80) hx hb dX7_bestShare_65 (by decide) (fun c_13 => ?_) (fun c_13 => ?_)
    · replace hf := if_p c_13 hf
      refine lv_iload hx hb dX7_bestShare_80 (lv_at hl 5 rfl) ?_
      refine lv_istore_n (lv' := [(3, .int u5), (0, .ref (G.1 + 0)), (1, .int u1), (2, .int u2), (4, .int u4), (5, .int u5)]) hx hb dX7_bestShare_82 rfl hl (by decide) rfl (fun ls hl => ?_)
      refine lv_aload_n hx hb dX7_bestShare_83 rfl (lv_at hl 1 rfl) ?_
      refine gf6_4 C hS (rfl) g_230 dX7_bestShare_84 ?_
      refine gf3_5 C hS (rfl) g_111 dX7_bestShare_87 ?_
      obtain ⟨v_14, ev_14, hf⟩ := st_out hf
      refine topI ev_14 ?_
      refine lv_istore (lv' := [(4, .int v_14), (3, .int u5), (0, .ref (G.1 + 0)), (1, .int u1), (2, .int u2), (5, .int u5)]) hx hb dX7_bestShare_90 hl (by decide) rfl (fun ls hl => ?_)
      obtain ⟨v_15, ev_15, hf⟩ := st_out hf
      refine lv_iinc (v := v_15) (lv' := [(5, .int v_15), (4, .int v_14), (3, .int u5), (0, .ref (G.1 + 0)), (1, .int u1), (2, .int u2)]) hx hb dX7_bestShare_92 hl (k := 5) rfl (by rw [ev_15]; rfl) (by decide) rfl (fun ls hl => ?_)
      refine lv_goto (tgt := 27) hx hb dX7_bestShare_95 (by decide) ?_
      exact hk27 u1 u2 u5 v_14 v_15 x_12 hf _ _ _ hS (lv_sub hl [3, 4, 5, 2, 1, 0] rfl)
    · replace hf := if_n c_13 hf
      refine lv_aload_n hx hb dX7_bestShare_68 rfl (lv_at hl 0 rfl) ?_
      refine gf6_4 C hS (rfl) g_230 dX7_bestShare_69 ?_
      refine gf3_5 C hS (rfl) g_111 dX7_bestShare_72 ?_
      refine lv_iload hx hb dX7_bestShare_75 (lv_at hl 4 rfl) ?_
      refine lv_icmp_le (tgt := 92) hx hb dX7_bestShare_77 (by decide) (fun c_16 => ?_) (fun c_16 => ?_)
      · replace hf := if_p c_16 hf
        obtain ⟨v_17, ev_17, hf⟩ := st_out hf
        refine lv_iinc (v := v_17) (lv' := [(5, .int v_17), (0, .ref (G.1 + 0)), (1, .int u1), (2, .int u2), (3, .int u3), (4, .int u4)]) hx hb dX7_bestShare_92 hl (k := 5) rfl (by rw [ev_17]; rfl) (by decide) rfl (fun ls hl => ?_)
        refine lv_goto (tgt := 27) hx hb dX7_bestShare_95 (by decide) ?_
        exact hk27 u1 u2 u3 u4 v_17 x_12 hf _ _ _ hS (lv_sub hl [1, 2, 3, 4, 5, 0] rfl)
      · replace hf := if_n c_16 hf
        refine lv_iload hx hb dX7_bestShare_80 (lv_at hl 5 rfl) ?_
        refine lv_istore_n (lv' := [(3, .int u5), (0, .ref (G.1 + 0)), (1, .int u1), (2, .int u2), (4, .int u4), (5, .int u5)]) hx hb dX7_bestShare_82 rfl hl (by decide) rfl (fun ls hl => ?_)
        refine lv_aload_n hx hb dX7_bestShare_83 rfl (lv_at hl 1 rfl) ?_
        refine gf6_4 C hS (rfl) g_230 dX7_bestShare_84 ?_
        refine gf3_5 C hS (rfl) g_111 dX7_bestShare_87 ?_
        obtain ⟨v_18, ev_18, hf⟩ := st_out hf
        refine topI ev_18 ?_
        refine lv_istore (lv' := [(4, .int v_18), (3, .int u5), (0, .ref (G.1 + 0)), (1, .int u1), (2, .int u2), (5, .int u5)]) hx hb dX7_bestShare_90 hl (by decide) rfl (fun ls hl => ?_)
        obtain ⟨v_19, ev_19, hf⟩ := st_out hf
        refine lv_iinc (v := v_19) (lv' := [(5, .int v_19), (4, .int v_18), (3, .int u5), (0, .ref (G.1 + 0)), (1, .int u1), (2, .int u2)]) hx hb dX7_bestShare_92 hl (k := 5) rfl (by rw [ev_19]; rfl) (by decide) rfl (fun ls hl => ?_)
        refine lv_goto (tgt := 27) hx hb dX7_bestShare_95 (by decide) ?_
        exact hk27 u1 u2 u5 v_18 v_19 x_12 hf _ _ _ hS (lv_sub hl [3, 4, 5, 2, 1, 0] rfl)
theorem wlX7_bestShare_h27 {p : Program} {l : Launch} {e : Env} {s : State} {m : MethodId} {args : Array Value} {below : List Frame} {meth : Method} {c : Code} {G : GT} {r : Int32} {z : XS} (C : CX G p s m args meth c cX7_bestShare 6 (some .int) RX7) (n : Nat) : ∀ (u1 : Int32) (u2 : Int32) (u3 : Int32) (u4 : Int32) (u5 : Int32) (x : XS), lX7_bestShare_h27 n u1 u2 u3 u4 u5 x = some (r, z) → ∀ (H : Heap) (locs : List Loc) (ls : Array Slot), SR G x H locs → lv_has ls 6 [(0, .ref (G.1 + 0)), (1, .int u1), (2, .int u2), (3, .int u3), (4, .int u4), (5, .int u5)] → W p l e rmX7_bestShare s m args below meth c H locs 0 0 (MQ below (QC G (some (.int r)) z) args s 0 0 (AB G)) (F0 m 27 ls []) := by
  induction n with
  | zero => intro u1 u2 u3 u4 u5 x hf H locs ls hS hl; exact absurd hf (by intro q; cases q)
  | succ n ih => exact wbX7_bestShare_h27 C ih
theorem wX7_bestShare_h27 {p : Program} {l : Launch} {e : Env} {s : State} {m : MethodId} {args : Array Value} {below : List Frame} {meth : Method} {c : Code} {G : GT} {r : Int32} {z : XS} (C : CX G p s m args meth c cX7_bestShare 6 (some .int) RX7) : ∀ (u1 : Int32) (u2 : Int32) (u3 : Int32) (u4 : Int32) (u5 : Int32) (x : XS), fX7_bestShare_h27 u1 u2 u3 u4 u5 x = some (r, z) → ∀ (H : Heap) (locs : List Loc) (ls : Array Slot), SR G x H locs → lv_has ls 6 [(0, .ref (G.1 + 0)), (1, .int u1), (2, .int u2), (3, .int u3), (4, .int u4), (5, .int u5)] → W p l e rmX7_bestShare s m args below meth c H locs 0 0 (MQ below (QC G (some (.int r)) z) args s 0 0 (AB G)) (F0 m 27 ls []) := wlX7_bestShare_h27 C FU
set_option maxRecDepth 100000 in
set_option maxHeartbeats 4000000 in
theorem cX7_bestShare_ {G : GT} {l : Launch} {v1 : Int32} {v2 : Int32} {x z : XS} {r : Int32} (hf : fX7_bestShare v1 v2 x = some (r, z)) : Ct G l yX7_bestShare (.code yX7_bestShare cX7_bestShare 6 (some .int)) rmX7_bestShare [.ref (G.1 + 0), .int v1, .int v2] x (some (.int r)) z := by
  refine Ct.of (by decide +kernel) (Nat.le_of_ble_eq_true rfl) ?_
  intro p e s m args below meth c C ls hl hS
  have C : CX G p s m args meth c cX7_bestShare 6 (some .int) RX7 := C
  have hl : lv_has ls 6 [(0, .ref (G.1 + 0)), (1, .int v1), (2, .int v2)] := hl
  have hx := C.1
  have hb := C.2.1
  have hown := C.2.2.2.2.2.1
  have hw := C.2.2.2.2.2.2.1
  unfold fX7_bestShare at hf
  refine lv_iload_n hx hb dX7_bestShare_0 rfl (lv_at hl 1 rfl) ?_
  obtain ⟨r_1, x_2, qr_1, hf⟩ := bd_out hf
  refine rsI (As := [.int v1]) (rest := []) C hS KX7_mayBeThought (cX7_mayBeThought_ qr_1) g_442 ⟨rfl, rfl⟩ ⟨(Nat.le_of_ble_eq_true rfl), (Nat.le_of_ble_eq_true rfl)⟩ hl.1 rfl rfl (Nat.le_of_ble_eq_true rfl) ⟨Nat.zero_le _, Nat.zero_le _⟩ dX7_bestShare_1 (fun H locs hS => ?_)
  refine lv_if_eq (tgt := 16) hx hb dX7_bestShare_4 (by decide) (fun c_3 => ?_) (fun c_3 => ?_)
  · replace hf := if_p c_3 hf
    refine lv_ldc (v := (-1000000001)) hx hb hown (hw _ g_267) dX7_bestShare_16 ?_
    exact rtI C hS hf dX7_bestShare_18
  · replace hf := if_n c_3 hf
    refine lv_iload_n hx hb dX7_bestShare_7 rfl (lv_at hl 2 rfl) ?_
    refine lv_if_lt (tgt := 16) hx hb dX7_bestShare_8 (by decide) (fun c_4 => ?_) (fun c_4 => ?_)
    · replace hf := if_p c_4 hf
      refine lv_ldc (v := (-1000000001)) hx hb hown (hw _ g_267) dX7_bestShare_16 ?_
      exact rtI C hS hf dX7_bestShare_18
    · replace hf := if_n c_4 hf
      refine lv_iload_n hx hb dX7_bestShare_11 rfl (lv_at hl 2 rfl) ?_
      refine lv_iconst (v := 1) hx hb dX7_bestShare_12 (by decide) ?_
      refine lv_icmp_le (tgt := 19) hx hb dX7_bestShare_13 (by decide) (fun c_5 => ?_) (fun c_5 => ?_)
      · replace hf := if_p c_5 hf
        refine lv_iconst (v := 0) hx hb dX7_bestShare_19 (by decide) ?_
        refine lv_istore_n (lv' := [(3, .int 0), (0, .ref (G.1 + 0)), (1, .int v1), (2, .int v2)]) hx hb dX7_bestShare_20 rfl hl (by decide) rfl (fun ls hl => ?_)
        refine lv_iconst (v := 0) hx hb dX7_bestShare_21 (by decide) ?_
        refine lv_istore (lv' := [(4, .int 0), (3, .int 0), (0, .ref (G.1 + 0)), (1, .int v1), (2, .int v2)]) hx hb dX7_bestShare_22 hl (by decide) rfl (fun ls hl => ?_)
        refine lv_iconst (v := 0) hx hb dX7_bestShare_24 (by decide) ?_
        refine lv_istore (lv' := [(5, .int 0), (4, .int 0), (3, .int 0), (0, .ref (G.1 + 0)), (1, .int v1), (2, .int v2)]) hx hb dX7_bestShare_25 hl (by decide) rfl (fun ls hl => ?_)
        exact wX7_bestShare_h27  C v1 v2 0 0 0 x_2 hf _ _ _ hS (lv_sub hl [3, 4, 5, 2, 1, 0] rfl)
      · replace hf := if_n c_5 hf
        refine lv_ldc (v := (-1000000001)) hx hb hown (hw _ g_267) dX7_bestShare_16 ?_
        exact rtI C hS hf dX7_bestShare_18
abbrev rmX7_sentAway : Room := { frames := 6, cells := 0, slots := 0, locals := 183 }
set_option maxRecDepth 100000 in
set_option maxHeartbeats 4000000 in
theorem wbX7_sentAway_h40 {p : Program} {l : Launch} {e : Env} {s : State} {m : MethodId} {args : Array Value} {below : List Frame} {meth : Method} {c : Code} {G : GT} {r : Int32} {z : XS} (C : CX G p s m args meth c cX7_sentAway 7 (some .int) RX7) {k40 : Int32 → Int32 → Int32 → Int32 → Int32 → XS → Option (Int32 × XS)} (hk40 : ∀ (u1 : Int32) (u2 : Int32) (u3 : Int32) (u4 : Int32) (u5 : Int32) (x : XS), k40 u1 u2 u3 u4 u5 x = some (r, z) → ∀ (H : Heap) (locs : List Loc) (ls : Array Slot), SR G x H locs → lv_has ls 7 [(0, .ref (G.1 + 0)), (1, .int u1), (2, .int u2), (3, .int u3), (4, .int u4), (5, .int u5)] → W p l e rmX7_sentAway s m args below meth c H locs 0 0 (MQ below (QC G (some (.int r)) z) args s 0 0 (AB G)) (F0 m 40 ls [])) : ∀ (u1 : Int32) (u2 : Int32) (u3 : Int32) (u4 : Int32) (u5 : Int32) (x : XS), bX7_sentAway_h40 k40 u1 u2 u3 u4 u5 x = some (r, z) → ∀ (H : Heap) (locs : List Loc) (ls : Array Slot), SR G x H locs → lv_has ls 7 [(0, .ref (G.1 + 0)), (1, .int u1), (2, .int u2), (3, .int u3), (4, .int u4), (5, .int u5)] → W p l e rmX7_sentAway s m args below meth c H locs 0 0 (MQ below (QC G (some (.int r)) z) args s 0 0 (AB G)) (F0 m 40 ls []) := by
  intro u1 u2 u3 u4 u5 x hf H locs ls hS hl
  have hx := C.1
  have hb := C.2.1
  have hown := C.2.2.2.2.2.1
  have hw := C.2.2.2.2.2.2.1
  unfold bX7_sentAway_h40 at hf
  refine lv_iload hx hb dX7_sentAway_40 (lv_at hl 5 rfl) ?_
  refine lv_aload_n hx hb dX7_sentAway_42 rfl (lv_at hl 0 rfl) ?_
  refine gf6_2 C hS (rfl) g_228 dX7_sentAway_43 ?_
  refine gf3_2 C hS (rfl) g_105 dX7_sentAway_46 ?_
  refine lv_icmp_ge (tgt := 115) hx hb dX7_sentAway_49 (by decide) (fun c_7 => ?_) (fun c_7 => ?_)
  · replace hf := if_p c_7 hf
    refine lv_iload_n hx hb dX7_sentAway_115 rfl (lv_at hl 2 rfl) ?_
    refine lv_if_ne (tgt := 123) hx hb dX7_sentAway_116 (by decide) (fun c_8 => ?_) (fun c_8 => ?_)
    · replace hf := if_n c_8 hf
      refine lv_iload hx hb dX7_sentAway_123 (lv_at hl 4 rfl) ?_
      exact rtI C hS hf dX7_sentAway_125
    · replace hf := if_p c_8 hf
      refine lv_iload_n hx hb dX7_sentAway_119 rfl (lv_at hl 3 rfl) ?_
      refine lv_goto (tgt := 125) hx hb dX7_sentAway_120 (by decide) ?_
      exact rtI C hS hf dX7_sentAway_125
  · replace hf := if_n c_7 hf
    refine lv_aload_n hx hb dX7_sentAway_52 rfl (lv_at hl 0 rfl) ?_
    refine gf6_4 C hS (rfl) g_230 dX7_sentAway_53 ?_
    refine lv_aload_n hx hb dX7_sentAway_56 rfl (lv_at hl 0 rfl) ?_
    refine gf6_2 C hS (rfl) g_228 dX7_sentAway_57 ?_
    obtain ⟨r_9, x_10, qr_9, hf⟩ := bd_out hf
    refine rvV (As := [.ref (G.1 + 4)]) (rest := []) C hS (rfl) rfl KX4_become (cX4_become_ (rfl) (rfl) qr_9) g_430 ⟨rfl, rfl⟩ ⟨(Nat.le_of_ble_eq_true rfl), (Nat.le_of_ble_eq_true rfl)⟩ hl.1 rfl rfl (Nat.le_of_ble_eq_true rfl) ⟨Nat.zero_le _, Nat.zero_le _⟩ dX7_sentAway_60 (fun H locs hS => ?_)
    refine lv_aload_n hx hb dX7_sentAway_63 rfl (lv_at hl 0 rfl) ?_
    refine gf6_4 C hS (rfl) g_230 dX7_sentAway_64 ?_
    refine lv_iload hx hb dX7_sentAway_67 (lv_at hl 5 rfl) ?_
    obtain ⟨x_11, ex_11, hf⟩ := st_out hf
    refine pf3_11 C hS (rfl) g_123 ex_11 dX7_sentAway_69 (fun H locs hS => ?_)
    refine lv_aload_n hx hb dX7_sentAway_72 rfl (lv_at hl 0 rfl) ?_
    refine gf6_4 C hS (rfl) g_230 dX7_sentAway_73 ?_
    refine lv_iload_n hx hb dX7_sentAway_76 rfl (lv_at hl 1 rfl) ?_
    obtain ⟨r_12, x_13, qr_12, hf⟩ := bd_out hf
    refine rvI (As := [.int u1]) (rest := []) C hS (rfl) rfl KX4_passMinutes (cX4_passMinutes_ (rfl) qr_12) g_379 ⟨rfl, rfl⟩ ⟨(Nat.le_of_ble_eq_true rfl), (Nat.le_of_ble_eq_true rfl)⟩ hl.1 rfl rfl (Nat.le_of_ble_eq_true rfl) ⟨Nat.zero_le _, Nat.zero_le _⟩ dX7_sentAway_77 (fun H locs hS => ?_)
    refine lv_pop hx hb dX7_sentAway_80 rfl ?_
    refine lv_aload_n hx hb dX7_sentAway_81 rfl (lv_at hl 0 rfl) ?_
    refine gf6_4 C hS (rfl) g_230 dX7_sentAway_82 ?_
    obtain ⟨r_14, x_15, qr_14, hf⟩ := bd_out hf
    refine rvI (As := []) (rest := []) C hS (rfl) rfl KX4_purses (cX4_purses_ (rfl) qr_14) g_408 ⟨rfl, rfl⟩ ⟨(Nat.le_of_ble_eq_true rfl), (Nat.le_of_ble_eq_true rfl)⟩ hl.1 rfl rfl (Nat.le_of_ble_eq_true rfl) ⟨Nat.zero_le _, Nat.zero_le _⟩ dX7_sentAway_85 (fun H locs hS => ?_)
    refine lv_istore (lv' := [(6, .int r_14), (0, .ref (G.1 + 0)), (1, .int u1), (2, .int u2), (3, .int u3), (4, .int u4), (5, .int u5)]) hx hb dX7_sentAway_88 hl (by decide) rfl (fun ls hl => ?_)
    refine lv_iload hx hb dX7_sentAway_90 (lv_at hl 6 rfl) ?_
    refine lv_if_eq (tgt := 102) hx hb dX7_sentAway_92 (by decide) (fun c_16 => ?_) (fun c_16 => ?_)
    · replace hf := if_p c_16 hf
      refine lv_iload hx hb dX7_sentAway_102 (lv_at hl 6 rfl) ?_
      refine lv_istore_n (lv' := [(3, .int u5), (6, .int r_14), (0, .ref (G.1 + 0)), (1, .int u1), (2, .int u2), (4, .int u4), (5, .int u5)]) hx hb dX7_sentAway_104 rfl hl (by decide) rfl (fun ls hl => ?_)
      refine lv_iload hx hb dX7_sentAway_105 (lv_at hl 1 rfl) ?_
      refine lv_istore (lv' := [(4, .int r_14), (3, .int u5), (6, .int r_14), (0, .ref (G.1 + 0)), (1, .int u1), (2, .int u2), (5, .int u5)]) hx hb dX7_sentAway_107 hl (by decide) rfl (fun ls hl => ?_)
      obtain ⟨v_17, ev_17, hf⟩ := st_out hf
      refine lv_iinc (v := v_17) (lv' := [(5, .int v_17), (4, .int r_14), (3, .int u5), (6, .int r_14), (0, .ref (G.1 + 0)), (1, .int u1), (2, .int u2)]) hx hb dX7_sentAway_109 hl (k := 6) rfl (by rw [ev_17]; rfl) (by decide) rfl (fun ls hl => ?_)
      refine lv_goto (tgt := 40) hx hb dX7_sentAway_112 (by decide) ?_
      exact hk40 u1 u2 u5 r_14 v_17 x_15 hf _ _ _ hS (lv_sub hl [4, 5, 6, 2, 1, 0] rfl)
    · replace hf := if_n c_16 hf
      refine lv_iload hx hb dX7_sentAway_95 (lv_at hl 0 rfl) ?_
      refine lv_iload hx hb dX7_sentAway_97 (lv_at hl 5 rfl) ?_
      refine lv_icmp_le (tgt := 109) hx hb dX7_sentAway_99 (by decide) (fun c_18 => ?_) (fun c_18 => ?_)
      · replace hf := if_p c_18 hf
        obtain ⟨v_19, ev_19, hf⟩ := st_out hf
        refine lv_iinc (v := v_19) (lv' := [(5, .int v_19), (6, .int r_14), (0, .ref (G.1 + 0)), (1, .int u1), (2, .int u2), (3, .int u3), (4, .int u4)]) hx hb dX7_sentAway_109 hl (k := 6) rfl (by rw [ev_19]; rfl) (by decide) rfl (fun ls hl => ?_)
        refine lv_goto (tgt := 40) hx hb dX7_sentAway_112 (by decide) ?_
        exact hk40 u1 u2 u3 u4 v_19 x_15 hf _ _ _ hS (lv_sub hl [2, 3, 4, 5, 6, 0] rfl)
      · replace hf := if_n c_18 hf
        refine lv_iload hx hb dX7_sentAway_102 (lv_at hl 6 rfl) ?_
        refine lv_istore_n (lv' := [(3, .int u5), (6, .int r_14), (0, .ref (G.1 + 0)), (1, .int u1), (2, .int u2), (4, .int u4), (5, .int u5)]) hx hb dX7_sentAway_104 rfl hl (by decide) rfl (fun ls hl => ?_)
        refine lv_iload hx hb dX7_sentAway_105 (lv_at hl 1 rfl) ?_
        refine lv_istore (lv' := [(4, .int r_14), (3, .int u5), (6, .int r_14), (0, .ref (G.1 + 0)), (1, .int u1), (2, .int u2), (5, .int u5)]) hx hb dX7_sentAway_107 hl (by decide) rfl (fun ls hl => ?_)
        obtain ⟨v_20, ev_20, hf⟩ := st_out hf
        refine lv_iinc (v := v_20) (lv' := [(5, .int v_20), (4, .int r_14), (3, .int u5), (6, .int r_14), (0, .ref (G.1 + 0)), (1, .int u1), (2, .int u2)]) hx hb dX7_sentAway_109 hl (k := 6) rfl (by rw [ev_20]; rfl) (by decide) rfl (fun ls hl => ?_)
        refine lv_goto (tgt := 40) hx hb dX7_sentAway_112 (by decide) ?_
        exact hk40 u1 u2 u5 r_14 v_20 x_15 hf _ _ _ hS (lv_sub hl [4, 5, 6, 2, 1, 0] rfl)
theorem wlX7_sentAway_h40 {p : Program} {l : Launch} {e : Env} {s : State} {m : MethodId} {args : Array Value} {below : List Frame} {meth : Method} {c : Code} {G : GT} {r : Int32} {z : XS} (C : CX G p s m args meth c cX7_sentAway 7 (some .int) RX7) (n : Nat) : ∀ (u1 : Int32) (u2 : Int32) (u3 : Int32) (u4 : Int32) (u5 : Int32) (x : XS), lX7_sentAway_h40 n u1 u2 u3 u4 u5 x = some (r, z) → ∀ (H : Heap) (locs : List Loc) (ls : Array Slot), SR G x H locs → lv_has ls 7 [(0, .ref (G.1 + 0)), (1, .int u1), (2, .int u2), (3, .int u3), (4, .int u4), (5, .int u5)] → W p l e rmX7_sentAway s m args below meth c H locs 0 0 (MQ below (QC G (some (.int r)) z) args s 0 0 (AB G)) (F0 m 40 ls []) := by
  induction n with
  | zero => intro u1 u2 u3 u4 u5 x hf H locs ls hS hl; exact absurd hf (by intro q; cases q)
  | succ n ih => exact wbX7_sentAway_h40 C ih
theorem wX7_sentAway_h40 {p : Program} {l : Launch} {e : Env} {s : State} {m : MethodId} {args : Array Value} {below : List Frame} {meth : Method} {c : Code} {G : GT} {r : Int32} {z : XS} (C : CX G p s m args meth c cX7_sentAway 7 (some .int) RX7) : ∀ (u1 : Int32) (u2 : Int32) (u3 : Int32) (u4 : Int32) (u5 : Int32) (x : XS), fX7_sentAway_h40 u1 u2 u3 u4 u5 x = some (r, z) → ∀ (H : Heap) (locs : List Loc) (ls : Array Slot), SR G x H locs → lv_has ls 7 [(0, .ref (G.1 + 0)), (1, .int u1), (2, .int u2), (3, .int u3), (4, .int u4), (5, .int u5)] → W p l e rmX7_sentAway s m args below meth c H locs 0 0 (MQ below (QC G (some (.int r)) z) args s 0 0 (AB G)) (F0 m 40 ls []) := wlX7_sentAway_h40 C FU
set_option maxRecDepth 100000 in
set_option maxHeartbeats 4000000 in
theorem cX7_sentAway_ {G : GT} {l : Launch} {v1 : Int32} {v2 : Int32} {x z : XS} {r : Int32} (hf : fX7_sentAway v1 v2 x = some (r, z)) : Ct G l yX7_sentAway (.code yX7_sentAway cX7_sentAway 7 (some .int)) rmX7_sentAway [.ref (G.1 + 0), .int v1, .int v2] x (some (.int r)) z := by
  refine Ct.of (by decide +kernel) (Nat.le_of_ble_eq_true rfl) ?_
  intro p e s m args below meth c C ls hl hS
  have C : CX G p s m args meth c cX7_sentAway 7 (some .int) RX7 := C
  have hl : lv_has ls 7 [(0, .ref (G.1 + 0)), (1, .int v1), (2, .int v2)] := hl
  have hx := C.1
  have hb := C.2.1
  have hown := C.2.2.2.2.2.1
  have hw := C.2.2.2.2.2.2.1
  unfold fX7_sentAway at hf
  refine lv_iload_n hx hb dX7_sentAway_0 rfl (lv_at hl 1 rfl) ?_
  obtain ⟨r_1, x_2, qr_1, hf⟩ := bd_out hf
  refine rsI (As := [.int v1]) (rest := []) C hS KX7_mayBeThought (cX7_mayBeThought_ qr_1) g_442 ⟨rfl, rfl⟩ ⟨(Nat.le_of_ble_eq_true rfl), (Nat.le_of_ble_eq_true rfl)⟩ hl.1 rfl rfl (Nat.le_of_ble_eq_true rfl) ⟨Nat.zero_le _, Nat.zero_le _⟩ dX7_sentAway_1 (fun H locs hS => ?_)
  refine lv_if_eq (tgt := 16) hx hb dX7_sentAway_4 (by decide) (fun c_3 => ?_) (fun c_3 => ?_)
  · replace hf := if_p c_3 hf
    refine lv_ldc (v := (-1000000001)) hx hb hown (hw _ g_267) dX7_sentAway_16 ?_
    exact rtI C hS hf dX7_sentAway_18
  · replace hf := if_n c_3 hf
    refine lv_iload_n hx hb dX7_sentAway_7 rfl (lv_at hl 2 rfl) ?_
    refine lv_if_lt (tgt := 16) hx hb dX7_sentAway_8 (by decide) (fun c_4 => ?_) (fun c_4 => ?_)
    · replace hf := if_p c_4 hf
      refine lv_ldc (v := (-1000000001)) hx hb hown (hw _ g_267) dX7_sentAway_16 ?_
      exact rtI C hS hf dX7_sentAway_18
    · replace hf := if_n c_4 hf
      refine lv_iload_n hx hb dX7_sentAway_11 rfl (lv_at hl 2 rfl) ?_
      refine lv_iconst (v := 1) hx hb dX7_sentAway_12 (by decide) ?_
      refine lv_icmp_le (tgt := 19) hx hb dX7_sentAway_13 (by decide) (fun c_5 => ?_) (fun c_5 => ?_)
      · replace hf := if_p c_5 hf
        refine lv_aload_n hx hb dX7_sentAway_19 rfl (lv_at hl 0 rfl) ?_
        refine gf6_2 C hS (rfl) g_228 dX7_sentAway_20 ?_
        refine gf3_2 C hS (rfl) g_105 dX7_sentAway_23 ?_
        refine lv_if_ne (tgt := 32) hx hb dX7_sentAway_26 (by decide) (fun c_6 => ?_) (fun c_6 => ?_)
        · replace hf := if_n c_6 hf
          refine lv_iconst (v := 0) hx hb dX7_sentAway_32 (by decide) ?_
          refine lv_istore_n (lv' := [(3, .int 0), (0, .ref (G.1 + 0)), (1, .int v1), (2, .int v2)]) hx hb dX7_sentAway_33 rfl hl (by decide) rfl (fun ls hl => ?_)
          refine lv_iconst (v := 0) hx hb dX7_sentAway_34 (by decide) ?_
          refine lv_istore (lv' := [(4, .int 0), (3, .int 0), (0, .ref (G.1 + 0)), (1, .int v1), (2, .int v2)]) hx hb dX7_sentAway_35 hl (by decide) rfl (fun ls hl => ?_)
          refine lv_iconst (v := 0) hx hb dX7_sentAway_37 (by decide) ?_
          refine lv_istore (lv' := [(5, .int 0), (4, .int 0), (3, .int 0), (0, .ref (G.1 + 0)), (1, .int v1), (2, .int v2)]) hx hb dX7_sentAway_38 hl (by decide) rfl (fun ls hl => ?_)
          exact wX7_sentAway_h40  C v1 v2 0 0 0 x_2 hf _ _ _ hS (lv_sub hl [3, 4, 5, 2, 1, 0] rfl)
        · replace hf := if_p c_6 hf
          refine lv_ldc (v := (-1000000005)) hx hb hown (hw _ g_425) dX7_sentAway_29 ?_
          exact rtI C hS hf dX7_sentAway_31
      · replace hf := if_n c_5 hf
        refine lv_ldc (v := (-1000000001)) hx hb hown (hw _ g_267) dX7_sentAway_16 ?_
        exact rtI C hS hf dX7_sentAway_18
abbrev rmX7_dry : Room := { frames := 6, cells := 0, slots := 0, locals := 183 }
set_option maxRecDepth 100000 in
set_option maxHeartbeats 4000000 in
theorem cX7_dry_ {G : GT} {l : Launch} {v1 : Int32} {x z : XS} {r : Int32} (hf : fX7_dry v1 x = some (r, z)) : Ct G l yX7_dry (.code yX7_dry cX7_dry 3 (some .int)) rmX7_dry [.ref (G.1 + 0), .int v1] x (some (.int r)) z := by
  refine Ct.of (by decide +kernel) (Nat.le_of_ble_eq_true rfl) ?_
  intro p e s m args below meth c C ls hl hS
  have C : CX G p s m args meth c cX7_dry 3 (some .int) RX7 := C
  have hl : lv_has ls 3 [(0, .ref (G.1 + 0)), (1, .int v1)] := hl
  have hx := C.1
  have hb := C.2.1
  have hown := C.2.2.2.2.2.1
  have hw := C.2.2.2.2.2.2.1
  unfold fX7_dry at hf
  refine lv_iload_n hx hb dX7_dry_0 rfl (lv_at hl 1 rfl) ?_
  obtain ⟨r_1, x_2, qr_1, hf⟩ := bd_out hf
  refine rsI (As := [.int v1]) (rest := []) C hS KX7_mayBeThought (cX7_mayBeThought_ qr_1) g_442 ⟨rfl, rfl⟩ ⟨(Nat.le_of_ble_eq_true rfl), (Nat.le_of_ble_eq_true rfl)⟩ hl.1 rfl rfl (Nat.le_of_ble_eq_true rfl) ⟨Nat.zero_le _, Nat.zero_le _⟩ dX7_dry_1 (fun H locs hS => ?_)
  refine lv_if_ne (tgt := 10) hx hb dX7_dry_4 (by decide) (fun c_3 => ?_) (fun c_3 => ?_)
  · replace hf := if_n c_3 hf
    refine lv_aload_n hx hb dX7_dry_10 rfl (lv_at hl 0 rfl) ?_
    refine gf6_4 C hS (rfl) g_230 dX7_dry_11 ?_
    refine lv_aload_n hx hb dX7_dry_14 rfl (lv_at hl 0 rfl) ?_
    refine gf6_2 C hS (rfl) g_228 dX7_dry_15 ?_
    obtain ⟨r_4, x_5, qr_4, hf⟩ := bd_out hf
    refine rvV (As := [.ref (G.1 + 4)]) (rest := []) C hS (rfl) rfl KX4_become (cX4_become_ (rfl) (rfl) qr_4) g_430 ⟨rfl, rfl⟩ ⟨(Nat.le_of_ble_eq_true rfl), (Nat.le_of_ble_eq_true rfl)⟩ hl.1 rfl rfl (Nat.le_of_ble_eq_true rfl) ⟨Nat.zero_le _, Nat.zero_le _⟩ dX7_dry_18 (fun H locs hS => ?_)
    refine lv_aload_n hx hb dX7_dry_21 rfl (lv_at hl 0 rfl) ?_
    refine gf6_4 C hS (rfl) g_230 dX7_dry_22 ?_
    refine lv_iload_n hx hb dX7_dry_25 rfl (lv_at hl 1 rfl) ?_
    obtain ⟨r_6, x_7, qr_6, hf⟩ := bd_out hf
    refine rvI (As := [.int v1]) (rest := []) C hS (rfl) rfl KX4_passMinutes (cX4_passMinutes_ (rfl) qr_6) g_379 ⟨rfl, rfl⟩ ⟨(Nat.le_of_ble_eq_true rfl), (Nat.le_of_ble_eq_true rfl)⟩ hl.1 rfl rfl (Nat.le_of_ble_eq_true rfl) ⟨Nat.zero_le _, Nat.zero_le _⟩ dX7_dry_26 (fun H locs hS => ?_)
    refine lv_pop hx hb dX7_dry_29 rfl ?_
    refine lv_aload_n hx hb dX7_dry_30 rfl (lv_at hl 0 rfl) ?_
    refine gf6_4 C hS (rfl) g_230 dX7_dry_31 ?_
    obtain ⟨r_8, x_9, qr_8, hf⟩ := bd_out hf
    refine rvI (As := []) (rest := []) C hS (rfl) rfl KX4_purses (cX4_purses_ (rfl) qr_8) g_408 ⟨rfl, rfl⟩ ⟨(Nat.le_of_ble_eq_true rfl), (Nat.le_of_ble_eq_true rfl)⟩ hl.1 rfl rfl (Nat.le_of_ble_eq_true rfl) ⟨Nat.zero_le _, Nat.zero_le _⟩ dX7_dry_34 (fun H locs hS => ?_)
    refine lv_istore_n (lv' := [(2, .int r_8), (0, .ref (G.1 + 0)), (1, .int v1)]) hx hb dX7_dry_37 rfl hl (by decide) rfl (fun ls hl => ?_)
    refine lv_aload_n hx hb dX7_dry_38 rfl (lv_at hl 1 rfl) ?_
    refine gf6_4 C hS (rfl) g_230 dX7_dry_39 ?_
    refine lv_aload_n hx hb dX7_dry_42 rfl (lv_at hl 1 rfl) ?_
    refine gf6_2 C hS (rfl) g_228 dX7_dry_43 ?_
    obtain ⟨r_10, x_11, qr_10, hf⟩ := bd_out hf
    refine rvV (As := [.ref (G.1 + 4)]) (rest := []) C hS (rfl) rfl KX4_become (cX4_become_ (rfl) (rfl) qr_10) g_430 ⟨rfl, rfl⟩ ⟨(Nat.le_of_ble_eq_true rfl), (Nat.le_of_ble_eq_true rfl)⟩ hl.1 rfl rfl (Nat.le_of_ble_eq_true rfl) ⟨Nat.zero_le _, Nat.zero_le _⟩ dX7_dry_46 (fun H locs hS => ?_)
    refine lv_aload_n hx hb dX7_dry_49 rfl (lv_at hl 1 rfl) ?_
    refine gf6_4 C hS (rfl) g_230 dX7_dry_50 ?_
    refine lv_iconst (v := 0) hx hb dX7_dry_53 (by decide) ?_
    obtain ⟨x_12, ex_12, hf⟩ := st_out hf
    refine pf3_10 C hS (rfl) g_121 rfl ex_12 dX7_dry_54 (fun H locs hS => ?_)
    refine lv_aload_n hx hb dX7_dry_57 rfl (lv_at hl 1 rfl) ?_
    refine gf6_4 C hS (rfl) g_230 dX7_dry_58 ?_
    refine lv_iconst (v := 0) hx hb dX7_dry_61 (by decide) ?_
    obtain ⟨x_13, ex_13, hf⟩ := st_out hf
    refine pf3_6 C hS (rfl) g_113 ex_13 dX7_dry_62 (fun H locs hS => ?_)
    refine lv_aload_n hx hb dX7_dry_65 rfl (lv_at hl 1 rfl) ?_
    refine gf6_4 C hS (rfl) g_230 dX7_dry_66 ?_
    refine lv_iload_n hx hb dX7_dry_69 rfl (lv_at hl 2 rfl) ?_
    obtain ⟨r_14, x_15, qr_14, hf⟩ := bd_out hf
    refine rvI (As := [.int v1]) (rest := []) C hS (rfl) rfl KX4_passMinutes (cX4_passMinutes_ (rfl) qr_14) g_379 ⟨rfl, rfl⟩ ⟨(Nat.le_of_ble_eq_true rfl), (Nat.le_of_ble_eq_true rfl)⟩ hl.1 rfl rfl (Nat.le_of_ble_eq_true rfl) ⟨Nat.zero_le _, Nat.zero_le _⟩ dX7_dry_70 (fun H locs hS => ?_)
    refine lv_pop hx hb dX7_dry_73 rfl ?_
    refine lv_aload_n hx hb dX7_dry_74 rfl (lv_at hl 1 rfl) ?_
    refine gf6_4 C hS (rfl) g_230 dX7_dry_75 ?_
    obtain ⟨r_16, x_17, qr_16, hf⟩ := bd_out hf
    refine rvI (As := []) (rest := []) C hS (rfl) rfl KX4_purses (cX4_purses_ (rfl) qr_16) g_408 ⟨rfl, rfl⟩ ⟨(Nat.le_of_ble_eq_true rfl), (Nat.le_of_ble_eq_true rfl)⟩ hl.1 rfl rfl (Nat.le_of_ble_eq_true rfl) ⟨Nat.zero_le _, Nat.zero_le _⟩ dX7_dry_78 (fun H locs hS => ?_)
    refine lv_iload_n hx hb dX7_dry_81 rfl (lv_at hl 0 rfl) ?_
    refine lv_isub hx hb dX7_dry_82 ?_
    exact rtI C hS hf dX7_dry_83
  · replace hf := if_p c_3 hf
    refine lv_ldc (v := (-1000000001)) hx hb hown (hw _ g_267) dX7_dry_7 ?_
    exact rtI C hS hf dX7_dry_9
abbrev rmX7_isSheet : Room := { frames := 0, cells := 0, slots := 0, locals := 0 }
set_option maxRecDepth 100000 in
set_option maxHeartbeats 4000000 in
theorem cX7_isSheet_ {G : GT} {l : Launch} {v0 : Int32} {x z : XS} {r : Int32} (hf : fX7_isSheet v0 x = some (r, z)) : Ct G l yX7_isSheet (.code yX7_isSheet cX7_isSheet 1 (some .boolean)) rmX7_isSheet [.int v0] x (some (.int r)) z := by
  refine Ct.of (by decide +kernel) (Nat.le_of_ble_eq_true rfl) ?_
  intro p e s m args below meth c C ls hl hS
  have C : CX G p s m args meth c cX7_isSheet 1 (some .boolean) RX7 := C
  have hl : lv_has ls 1 [(0, .int v0)] := hl
  have hx := C.1
  have hb := C.2.1
  have hown := C.2.2.2.2.2.1
  have hw := C.2.2.2.2.2.2.1
  unfold fX7_isSheet at hf
  refine lv_iload_n hx hb dX7_isSheet_0 rfl (lv_at hl 0 rfl) ?_
  refine lv_if_lt (tgt := 13) hx hb dX7_isSheet_1 (by decide) (fun c_1 => ?_) (fun c_1 => ?_)
  · replace hf := if_p c_1 hf
    refine lv_iconst (v := 0) hx hb dX7_isSheet_13 (by decide) ?_
    exact rtZ C hS rfl hf dX7_isSheet_14
  · replace hf := if_n c_1 hf
    refine lv_iload_n hx hb dX7_isSheet_4 rfl (lv_at hl 0 rfl) ?_
    refine lv_iconst (v := 4) hx hb dX7_isSheet_5 (by decide) ?_
    refine lv_icmp_ge (tgt := 13) hx hb dX7_isSheet_6 (by decide) (fun c_2 => ?_) (fun c_2 => ?_)
    · replace hf := if_p c_2 hf
      refine lv_iconst (v := 0) hx hb dX7_isSheet_13 (by decide) ?_
      exact rtZ C hS rfl hf dX7_isSheet_14
    · replace hf := if_n c_2 hf
      refine lv_iconst (v := 1) hx hb dX7_isSheet_9 (by decide) ?_
      refine lv_goto (tgt := 14) hx hb dX7_isSheet_10 (by decide) ?_
      exact rtZ C hS rfl hf dX7_isSheet_14
abbrev rmX7_differences : Room := { frames := 3, cells := 0, slots := 0, locals := 109 }
set_option maxRecDepth 100000 in
set_option maxHeartbeats 4000000 in
theorem wbX7_differences_h5 {p : Program} {l : Launch} {e : Env} {s : State} {m : MethodId} {args : Array Value} {below : List Frame} {meth : Method} {c : Code} {G : GT} {a1 : Nat} {a2 : Nat} {r : Int32} {z : XS} (ha1 : tg a1 = 0) (ha2 : tg a2 = 1) (C : CX G p s m args meth c cX7_differences 5 (some .int) RX7) {k5 : Int32 → Int32 → XS → Option (Int32 × XS)} (hk5 : ∀ (u3 : Int32) (u4 : Int32) (x : XS), k5 u3 u4 x = some (r, z) → ∀ (H : Heap) (locs : List Loc) (ls : Array Slot), SR G x H locs → lv_has ls 5 [(0, .ref (G.1 + 0)), (1, .ref (G.1 + a1)), (2, .ref (G.1 + a2)), (3, .int u3), (4, .int u4)] → W p l e rmX7_differences s m args below meth c H locs 0 0 (MQ below (QC G (some (.int r)) z) args s 0 0 (AB G)) (F0 m 5 ls [])) : ∀ (u3 : Int32) (u4 : Int32) (x : XS), bX7_differences_h5 a1 a2 k5 u3 u4 x = some (r, z) → ∀ (H : Heap) (locs : List Loc) (ls : Array Slot), SR G x H locs → lv_has ls 5 [(0, .ref (G.1 + 0)), (1, .ref (G.1 + a1)), (2, .ref (G.1 + a2)), (3, .int u3), (4, .int u4)] → W p l e rmX7_differences s m args below meth c H locs 0 0 (MQ below (QC G (some (.int r)) z) args s 0 0 (AB G)) (F0 m 5 ls []) := by
  intro u3 u4 x hf H locs ls hS hl
  have hx := C.1
  have hb := C.2.1
  have hown := C.2.2.2.2.2.1
  have hw := C.2.2.2.2.2.2.1
  unfold bX7_differences_h5 at hf
  refine lv_iload hx hb dX7_differences_5 (lv_at hl 4 rfl) ?_
  refine lv_aload_n hx hb dX7_differences_7 rfl (lv_at hl 2 rfl) ?_
  refine gf1_1 C hS ha2 g_190 dX7_differences_8 ?_
  refine lv_icmp_ge (tgt := 54) hx hb dX7_differences_11 (by decide) (fun c_1 => ?_) (fun c_1 => ?_)
  · replace hf := if_p c_1 hf
    refine lv_iload_n hx hb dX7_differences_54 rfl (lv_at hl 3 rfl) ?_
    exact rtI C hS hf dX7_differences_55
  · replace hf := if_n c_1 hf
    refine lv_aload_n hx hb dX7_differences_14 rfl (lv_at hl 2 rfl) ?_
    refine lv_iload hx hb dX7_differences_15 (lv_at hl 4 rfl) ?_
    obtain ⟨r_2, x_3, qr_2, hf⟩ := bd_out hf
    refine rvI (As := [.int u4]) (rest := []) C hS ha2 rfl KX2_hasNumber (cX2_hasNumber_ ha2 qr_2) g_473 ⟨rfl, rfl⟩ ⟨(Nat.le_of_ble_eq_true rfl), (Nat.le_of_ble_eq_true rfl)⟩ hl.1 rfl rfl (Nat.le_of_ble_eq_true rfl) ⟨Nat.zero_le _, Nat.zero_le _⟩ dX7_differences_17 (fun H locs hS => ?_)
    refine lv_if_eq (tgt := 48) hx hb dX7_differences_20 (by decide) (fun c_4 => ?_) (fun c_4 => ?_)
    · replace hf := if_p c_4 hf
      obtain ⟨v_5, ev_5, hf⟩ := st_out hf
      refine lv_iinc (v := v_5) (lv' := [(4, .int v_5), (0, .ref (G.1 + 0)), (1, .ref (G.1 + a1)), (2, .ref (G.1 + a2)), (3, .int u3)]) hx hb dX7_differences_48 hl (k := 4) rfl (by rw [ev_5]; rfl) (by decide) rfl (fun ls hl => ?_)
      refine lv_goto (tgt := 5) hx hb dX7_differences_51 (by decide) ?_
      exact hk5 u3 v_5 x_3 hf _ _ _ hS (lv_sub hl [1, 2, 3, 4, 0] rfl)
    · replace hf := if_n c_4 hf
      refine lv_iload_n hx hb dX7_differences_23 rfl (lv_at hl 3 rfl) ?_
      refine lv_aload_n hx hb dX7_differences_24 rfl (lv_at hl 0 rfl) ?_
      refine gf6_2 C hS (rfl) g_228 dX7_differences_25 ?_
      refine lv_aload_n hx hb dX7_differences_28 rfl (lv_at hl 1 rfl) ?_
      refine lv_iload hx hb dX7_differences_29 (lv_at hl 4 rfl) ?_
      refine lv_iconst (v := 0) hx hb dX7_differences_31 (by decide) ?_
      obtain ⟨r_6, x_7, qr_6, hf⟩ := bd_out hf
      refine rvI (As := [.ref (G.1 + a1), .int u4, .int 0]) (rest := [.int u3]) C hS (rfl) rfl KX4_shineOf (cX4_shineOf_ (rfl) ha1 qr_6) g_305 ⟨rfl, rfl⟩ ⟨(Nat.le_of_ble_eq_true rfl), (Nat.le_of_ble_eq_true rfl)⟩ hl.1 rfl rfl (Nat.le_of_ble_eq_true rfl) ⟨Nat.zero_le _, Nat.zero_le _⟩ dX7_differences_32 (fun H locs hS => ?_)
      refine lv_aload_n hx hb dX7_differences_35 rfl (lv_at hl 2 rfl) ?_
      refine gf1_2 C hS ha2 g_192 dX7_differences_36 ?_
      refine lv_iload hx hb dX7_differences_39 (lv_at hl 4 rfl) ?_
      obtain ⟨gg_8, hf⟩ := gd_out hf
      refine alI C hS (sh_p ha2) (sh_n ha2) gg_8 dX7_differences_41 ?_
      refine lv_isub hx hb dX7_differences_42 ?_
      refine va_mabs hx hb (C.2.2.1.trans hl.1.symm) hown (hw _ g_482) (hw _ g_398) (hw _ g_10) (hw _ g_399) (Nat.le_of_ble_eq_true rfl) (Nat.le_of_ble_eq_true rfl) (Nat.zero_le _) (Nat.zero_le _) dX7_differences_43 ?_
      obtain ⟨v_9, ev_9, hf⟩ := st_out hf
      refine topI ev_9 ?_
      refine lv_iadd hx hb dX7_differences_46 ?_
      obtain ⟨v_10, ev_10, hf⟩ := st_out hf
      refine topI ev_10 ?_
      refine lv_istore_n (lv' := [(3, .int v_10), (0, .ref (G.1 + 0)), (1, .ref (G.1 + a1)), (2, .ref (G.1 + a2)), (4, .int u4)]) hx hb dX7_differences_47 rfl hl (by decide) rfl (fun ls hl => ?_)
      obtain ⟨v_11, ev_11, hf⟩ := st_out hf
      refine lv_iinc (v := v_11) (lv' := [(4, .int v_11), (3, .int v_10), (0, .ref (G.1 + 0)), (1, .ref (G.1 + a1)), (2, .ref (G.1 + a2))]) hx hb dX7_differences_48 hl (k := 4) rfl (by rw [ev_11]; rfl) (by decide) rfl (fun ls hl => ?_)
      refine lv_goto (tgt := 5) hx hb dX7_differences_51 (by decide) ?_
      exact hk5 v_10 v_11 x_7 hf _ _ _ hS (lv_sub hl [2, 3, 4, 1, 0] rfl)
theorem wlX7_differences_h5 {p : Program} {l : Launch} {e : Env} {s : State} {m : MethodId} {args : Array Value} {below : List Frame} {meth : Method} {c : Code} {G : GT} {a1 : Nat} {a2 : Nat} {r : Int32} {z : XS} (ha1 : tg a1 = 0) (ha2 : tg a2 = 1) (C : CX G p s m args meth c cX7_differences 5 (some .int) RX7) (n : Nat) : ∀ (u3 : Int32) (u4 : Int32) (x : XS), lX7_differences_h5 a1 a2 n u3 u4 x = some (r, z) → ∀ (H : Heap) (locs : List Loc) (ls : Array Slot), SR G x H locs → lv_has ls 5 [(0, .ref (G.1 + 0)), (1, .ref (G.1 + a1)), (2, .ref (G.1 + a2)), (3, .int u3), (4, .int u4)] → W p l e rmX7_differences s m args below meth c H locs 0 0 (MQ below (QC G (some (.int r)) z) args s 0 0 (AB G)) (F0 m 5 ls []) := by
  induction n with
  | zero => intro u3 u4 x hf H locs ls hS hl; exact absurd hf (by intro q; cases q)
  | succ n ih => exact wbX7_differences_h5 ha1 ha2 C ih
theorem wX7_differences_h5 {p : Program} {l : Launch} {e : Env} {s : State} {m : MethodId} {args : Array Value} {below : List Frame} {meth : Method} {c : Code} {G : GT} {a1 : Nat} {a2 : Nat} {r : Int32} {z : XS} (ha1 : tg a1 = 0) (ha2 : tg a2 = 1) (C : CX G p s m args meth c cX7_differences 5 (some .int) RX7) : ∀ (u3 : Int32) (u4 : Int32) (x : XS), fX7_differences_h5 a1 a2 u3 u4 x = some (r, z) → ∀ (H : Heap) (locs : List Loc) (ls : Array Slot), SR G x H locs → lv_has ls 5 [(0, .ref (G.1 + 0)), (1, .ref (G.1 + a1)), (2, .ref (G.1 + a2)), (3, .int u3), (4, .int u4)] → W p l e rmX7_differences s m args below meth c H locs 0 0 (MQ below (QC G (some (.int r)) z) args s 0 0 (AB G)) (F0 m 5 ls []) := wlX7_differences_h5 ha1 ha2 C FU
set_option maxRecDepth 100000 in
set_option maxHeartbeats 4000000 in
theorem cX7_differences_ {G : GT} {l : Launch} {a1 : Nat} {a2 : Nat} (ha1 : tg a1 = 0) (ha2 : tg a2 = 1) {x z : XS} {r : Int32} (hf : fX7_differences a1 a2 x = some (r, z)) : Ct G l yX7_differences (.code yX7_differences cX7_differences 5 (some .int)) rmX7_differences [.ref (G.1 + 0), .ref (G.1 + a1), .ref (G.1 + a2)] x (some (.int r)) z := by
  refine Ct.of (by decide +kernel) (Nat.le_of_ble_eq_true rfl) ?_
  intro p e s m args below meth c C ls hl hS
  have C : CX G p s m args meth c cX7_differences 5 (some .int) RX7 := C
  have hl : lv_has ls 5 [(0, .ref (G.1 + 0)), (1, .ref (G.1 + a1)), (2, .ref (G.1 + a2))] := hl
  have hx := C.1
  have hb := C.2.1
  have hown := C.2.2.2.2.2.1
  have hw := C.2.2.2.2.2.2.1
  unfold fX7_differences at hf
  refine lv_iconst (v := 0) hx hb dX7_differences_0 (by decide) ?_
  refine lv_istore_n (lv' := [(3, .int 0), (0, .ref (G.1 + 0)), (1, .ref (G.1 + a1)), (2, .ref (G.1 + a2))]) hx hb dX7_differences_1 rfl hl (by decide) rfl (fun ls hl => ?_)
  refine lv_iconst (v := 0) hx hb dX7_differences_2 (by decide) ?_
  refine lv_istore (lv' := [(4, .int 0), (3, .int 0), (0, .ref (G.1 + 0)), (1, .ref (G.1 + a1)), (2, .ref (G.1 + a2))]) hx hb dX7_differences_3 hl (by decide) rfl (fun ls hl => ?_)
  exact wX7_differences_h5  ha1 ha2 C 0 0 x hf _ _ _ hS (lv_sub hl [2, 3, 4, 1, 0] rfl)
abbrev rmX7_shone : Room := { frames := 4, cells := 0, slots := 0, locals := 133 }
set_option maxRecDepth 100000 in
set_option maxHeartbeats 4000000 in
theorem wbX7_shone_h55 {p : Program} {l : Launch} {e : Env} {s : State} {m : MethodId} {args : Array Value} {below : List Frame} {meth : Method} {c : Code} {G : GT} {r : Int32} {z : XS} (C : CX G p s m args meth c cX7_shone 7 (some .int) RX7) {k55 : Int32 → Int32 → Int32 → Int32 → Int32 → XS → Option (Int32 × XS)} (hk55 : ∀ (u1 : Int32) (u2 : Int32) (u3 : Int32) (u4 : Int32) (u5 : Int32) (x : XS), k55 u1 u2 u3 u4 u5 x = some (r, z) → ∀ (H : Heap) (locs : List Loc) (ls : Array Slot), SR G x H locs → lv_has ls 7 [(0, .ref (G.1 + 0)), (1, .int u1), (2, .int u2), (3, .int u3), (4, .int u4), (5, .int u5)] → W p l e rmX7_shone s m args below meth c H locs 0 0 (MQ below (QC G (some (.int r)) z) args s 0 0 (AB G)) (F0 m 55 ls [])) : ∀ (u1 : Int32) (u2 : Int32) (u3 : Int32) (u4 : Int32) (u5 : Int32) (x : XS), bX7_shone_h55 k55 u1 u2 u3 u4 u5 x = some (r, z) → ∀ (H : Heap) (locs : List Loc) (ls : Array Slot), SR G x H locs → lv_has ls 7 [(0, .ref (G.1 + 0)), (1, .int u1), (2, .int u2), (3, .int u3), (4, .int u4), (5, .int u5)] → W p l e rmX7_shone s m args below meth c H locs 0 0 (MQ below (QC G (some (.int r)) z) args s 0 0 (AB G)) (F0 m 55 ls []) := by
  intro u1 u2 u3 u4 u5 x hf H locs ls hS hl
  have hx := C.1
  have hb := C.2.1
  have hown := C.2.2.2.2.2.1
  have hw := C.2.2.2.2.2.2.1
  unfold bX7_shone_h55 at hf
  refine lv_iload hx hb dX7_shone_55 (lv_at hl 5 rfl) ?_
  refine lv_aload_n hx hb dX7_shone_57 rfl (lv_at hl 0 rfl) ?_
  refine gf6_2 C hS (rfl) g_228 dX7_shone_58 ?_
  refine gf3_2 C hS (rfl) g_105 dX7_shone_61 ?_
  refine lv_icmp_ge (tgt := 114) hx hb dX7_shone_64 (by decide) (fun c_11 => ?_) (fun c_11 => ?_)
  · replace hf := if_p c_11 hf
    refine lv_iload_n hx hb dX7_shone_114 rfl (lv_at hl 2 rfl) ?_
    refine lv_if_ne (tgt := 122) hx hb dX7_shone_115 (by decide) (fun c_12 => ?_) (fun c_12 => ?_)
    · replace hf := if_n c_12 hf
      refine lv_iload hx hb dX7_shone_122 (lv_at hl 4 rfl) ?_
      exact rtI C hS hf dX7_shone_124
    · replace hf := if_p c_12 hf
      refine lv_iload_n hx hb dX7_shone_118 rfl (lv_at hl 3 rfl) ?_
      refine lv_goto (tgt := 124) hx hb dX7_shone_119 (by decide) ?_
      exact rtI C hS hf dX7_shone_124
  · replace hf := if_n c_11 hf
    refine lv_aload_n hx hb dX7_shone_67 rfl (lv_at hl 0 rfl) ?_
    refine lv_aload_n hx hb dX7_shone_68 rfl (lv_at hl 0 rfl) ?_
    refine gf6_2 C hS (rfl) g_228 dX7_shone_69 ?_
    refine gf3_0 C hS (rfl) g_102 dX7_shone_72 ?_
    refine lv_iload hx hb dX7_shone_75 (lv_at hl 5 rfl) ?_
    obtain ⟨gg_13, hf⟩ := gd_out hf
    refine alV C hS (rfl) (by decide) (by decide) 4 rfl rfl gg_13 (v := .ref (G.1 + (7 + (ix u5)))) (vwR (rfl) (by decide) rfl) dX7_shone_77 ?_
    refine lv_aload_n hx hb dX7_shone_78 rfl (lv_at hl 0 rfl) ?_
    refine gf6_5 C hS (rfl) g_231 dX7_shone_79 ?_
    refine lv_iload_n hx hb dX7_shone_82 rfl (lv_at hl 1 rfl) ?_
    obtain ⟨gg_14, hf⟩ := gd_out hf
    refine alV C hS (rfl) (by decide) (by decide) 5 rfl rfl gg_14 (v := .ref (G.1 + (71 + 2 * (ix u1)))) (vwR (rfl) (by decide) rfl) dX7_shone_83 ?_
    obtain ⟨r_15, x_16, qr_15, hf⟩ := bd_out hf
    refine rvI (As := [.ref (G.1 + (7 + (ix u5))), .ref (G.1 + (71 + 2 * (ix u1)))]) (rest := []) C hS (rfl) rfl KX7_differences (cX7_differences_ (el12 (a := 5) rfl gg_13) (el13 gg_14) qr_15) g_469 ⟨rfl, rfl⟩ ⟨(Nat.le_of_ble_eq_true rfl), (Nat.le_of_ble_eq_true rfl)⟩ hl.1 rfl rfl (Nat.le_of_ble_eq_true rfl) ⟨Nat.zero_le _, Nat.zero_le _⟩ dX7_shone_84 (fun H locs hS => ?_)
    refine lv_istore (lv' := [(6, .int r_15), (0, .ref (G.1 + 0)), (1, .int u1), (2, .int u2), (3, .int u3), (4, .int u4), (5, .int u5)]) hx hb dX7_shone_87 hl (by decide) rfl (fun ls hl => ?_)
    refine lv_iload hx hb dX7_shone_89 (lv_at hl 6 rfl) ?_
    refine lv_if_eq (tgt := 101) hx hb dX7_shone_91 (by decide) (fun c_17 => ?_) (fun c_17 => ?_)
    · replace hf := if_p c_17 hf
      refine lv_iload hx hb dX7_shone_101 (lv_at hl 6 rfl) ?_
      refine lv_istore_n (lv' := [(3, .int u5), (6, .int r_15), (0, .ref (G.1 + 0)), (1, .int u1), (2, .int u2), (4, .int u4), (5, .int u5)]) hx hb dX7_shone_103 rfl hl (by decide) rfl (fun ls hl => ?_)
      refine lv_iload hx hb dX7_shone_104 (lv_at hl 1 rfl) ?_
      refine lv_istore (lv' := [(4, .int r_15), (3, .int u5), (6, .int r_15), (0, .ref (G.1 + 0)), (1, .int u1), (2, .int u2), (5, .int u5)]) hx hb dX7_shone_106 hl (by decide) rfl (fun ls hl => ?_)
      obtain ⟨v_18, ev_18, hf⟩ := st_out hf
      refine lv_iinc (v := v_18) (lv' := [(5, .int v_18), (4, .int r_15), (3, .int u5), (6, .int r_15), (0, .ref (G.1 + 0)), (1, .int u1), (2, .int u2)]) hx hb dX7_shone_108 hl (k := 6) rfl (by rw [ev_18]; rfl) (by decide) rfl (fun ls hl => ?_)
      refine lv_goto (tgt := 55) hx hb dX7_shone_111 (by decide) ?_
      exact hk55 u1 u2 u5 r_15 v_18 x_16 hf _ _ _ hS (lv_sub hl [4, 5, 6, 2, 1, 0] rfl)
    · replace hf := if_n c_17 hf
      refine lv_iload hx hb dX7_shone_94 (lv_at hl 0 rfl) ?_
      refine lv_iload hx hb dX7_shone_96 (lv_at hl 5 rfl) ?_
      refine lv_icmp_ge (tgt := 108) hx hb dX7_shone_98 (by decide) (fun c_19 => ?_) (fun c_19 => ?_)
      · replace hf := if_p c_19 hf
        obtain ⟨v_20, ev_20, hf⟩ := st_out hf
        refine lv_iinc (v := v_20) (lv' := [(5, .int v_20), (6, .int r_15), (0, .ref (G.1 + 0)), (1, .int u1), (2, .int u2), (3, .int u3), (4, .int u4)]) hx hb dX7_shone_108 hl (k := 6) rfl (by rw [ev_20]; rfl) (by decide) rfl (fun ls hl => ?_)
        refine lv_goto (tgt := 55) hx hb dX7_shone_111 (by decide) ?_
        exact hk55 u1 u2 u3 u4 v_20 x_16 hf _ _ _ hS (lv_sub hl [2, 3, 4, 5, 6, 0] rfl)
      · replace hf := if_n c_19 hf
        refine lv_iload hx hb dX7_shone_101 (lv_at hl 6 rfl) ?_
        refine lv_istore_n (lv' := [(3, .int u5), (6, .int r_15), (0, .ref (G.1 + 0)), (1, .int u1), (2, .int u2), (4, .int u4), (5, .int u5)]) hx hb dX7_shone_103 rfl hl (by decide) rfl (fun ls hl => ?_)
        refine lv_iload hx hb dX7_shone_104 (lv_at hl 1 rfl) ?_
        refine lv_istore (lv' := [(4, .int r_15), (3, .int u5), (6, .int r_15), (0, .ref (G.1 + 0)), (1, .int u1), (2, .int u2), (5, .int u5)]) hx hb dX7_shone_106 hl (by decide) rfl (fun ls hl => ?_)
        obtain ⟨v_21, ev_21, hf⟩ := st_out hf
        refine lv_iinc (v := v_21) (lv' := [(5, .int v_21), (4, .int r_15), (3, .int u5), (6, .int r_15), (0, .ref (G.1 + 0)), (1, .int u1), (2, .int u2)]) hx hb dX7_shone_108 hl (k := 6) rfl (by rw [ev_21]; rfl) (by decide) rfl (fun ls hl => ?_)
        refine lv_goto (tgt := 55) hx hb dX7_shone_111 (by decide) ?_
        exact hk55 u1 u2 u5 r_15 v_21 x_16 hf _ _ _ hS (lv_sub hl [4, 5, 6, 2, 1, 0] rfl)
theorem wlX7_shone_h55 {p : Program} {l : Launch} {e : Env} {s : State} {m : MethodId} {args : Array Value} {below : List Frame} {meth : Method} {c : Code} {G : GT} {r : Int32} {z : XS} (C : CX G p s m args meth c cX7_shone 7 (some .int) RX7) (n : Nat) : ∀ (u1 : Int32) (u2 : Int32) (u3 : Int32) (u4 : Int32) (u5 : Int32) (x : XS), lX7_shone_h55 n u1 u2 u3 u4 u5 x = some (r, z) → ∀ (H : Heap) (locs : List Loc) (ls : Array Slot), SR G x H locs → lv_has ls 7 [(0, .ref (G.1 + 0)), (1, .int u1), (2, .int u2), (3, .int u3), (4, .int u4), (5, .int u5)] → W p l e rmX7_shone s m args below meth c H locs 0 0 (MQ below (QC G (some (.int r)) z) args s 0 0 (AB G)) (F0 m 55 ls []) := by
  induction n with
  | zero => intro u1 u2 u3 u4 u5 x hf H locs ls hS hl; exact absurd hf (by intro q; cases q)
  | succ n ih => exact wbX7_shone_h55 C ih
theorem wX7_shone_h55 {p : Program} {l : Launch} {e : Env} {s : State} {m : MethodId} {args : Array Value} {below : List Frame} {meth : Method} {c : Code} {G : GT} {r : Int32} {z : XS} (C : CX G p s m args meth c cX7_shone 7 (some .int) RX7) : ∀ (u1 : Int32) (u2 : Int32) (u3 : Int32) (u4 : Int32) (u5 : Int32) (x : XS), fX7_shone_h55 u1 u2 u3 u4 u5 x = some (r, z) → ∀ (H : Heap) (locs : List Loc) (ls : Array Slot), SR G x H locs → lv_has ls 7 [(0, .ref (G.1 + 0)), (1, .int u1), (2, .int u2), (3, .int u3), (4, .int u4), (5, .int u5)] → W p l e rmX7_shone s m args below meth c H locs 0 0 (MQ below (QC G (some (.int r)) z) args s 0 0 (AB G)) (F0 m 55 ls []) := wlX7_shone_h55 C FU
set_option maxRecDepth 100000 in
set_option maxHeartbeats 4000000 in
theorem cX7_shone_ {G : GT} {l : Launch} {v1 : Int32} {v2 : Int32} {x z : XS} {r : Int32} (hf : fX7_shone v1 v2 x = some (r, z)) : Ct G l yX7_shone (.code yX7_shone cX7_shone 7 (some .int)) rmX7_shone [.ref (G.1 + 0), .int v1, .int v2] x (some (.int r)) z := by
  refine Ct.of (by decide +kernel) (Nat.le_of_ble_eq_true rfl) ?_
  intro p e s m args below meth c C ls hl hS
  have C : CX G p s m args meth c cX7_shone 7 (some .int) RX7 := C
  have hl : lv_has ls 7 [(0, .ref (G.1 + 0)), (1, .int v1), (2, .int v2)] := hl
  have hx := C.1
  have hb := C.2.1
  have hown := C.2.2.2.2.2.1
  have hw := C.2.2.2.2.2.2.1
  unfold fX7_shone at hf
  refine lv_iload_n hx hb dX7_shone_0 rfl (lv_at hl 1 rfl) ?_
  obtain ⟨r_1, x_2, qr_1, hf⟩ := bd_out hf
  refine rsI (As := [.int v1]) (rest := []) C hS KX7_isSheet (cX7_isSheet_ qr_1) g_461 ⟨rfl, rfl⟩ ⟨(Nat.le_of_ble_eq_true rfl), (Nat.le_of_ble_eq_true rfl)⟩ hl.1 rfl rfl (Nat.le_of_ble_eq_true rfl) ⟨Nat.zero_le _, Nat.zero_le _⟩ dX7_shone_1 (fun H locs hS => ?_)
  refine lv_if_eq (tgt := 16) hx hb dX7_shone_4 (by decide) (fun c_3 => ?_) (fun c_3 => ?_)
  · replace hf := if_p c_3 hf
    refine lv_ldc (v := (-1000000001)) hx hb hown (hw _ g_267) dX7_shone_16 ?_
    exact rtI C hS hf dX7_shone_18
  · replace hf := if_n c_3 hf
    refine lv_iload_n hx hb dX7_shone_7 rfl (lv_at hl 2 rfl) ?_
    refine lv_if_lt (tgt := 16) hx hb dX7_shone_8 (by decide) (fun c_4 => ?_) (fun c_4 => ?_)
    · replace hf := if_p c_4 hf
      refine lv_ldc (v := (-1000000001)) hx hb hown (hw _ g_267) dX7_shone_16 ?_
      exact rtI C hS hf dX7_shone_18
    · replace hf := if_n c_4 hf
      refine lv_iload_n hx hb dX7_shone_11 rfl (lv_at hl 2 rfl) ?_
      refine lv_iconst (v := 1) hx hb dX7_shone_12 (by decide) ?_
      refine lv_icmp_le (tgt := 19) hx hb dX7_shone_13 (by decide) (fun c_5 => ?_) (fun c_5 => ?_)
      · replace hf := if_p c_5 hf
        refine lv_aload_n hx hb dX7_shone_19 rfl (lv_at hl 0 rfl) ?_
        refine gf6_5 C hS (rfl) g_231 dX7_shone_20 ?_
        refine lv_iload_n hx hb dX7_shone_23 rfl (lv_at hl 1 rfl) ?_
        obtain ⟨gg_6, hf⟩ := gd_out hf
        refine alV C hS (rfl) (by decide) (by decide) 5 rfl rfl gg_6 (v := .ref (G.1 + (71 + 2 * (ix v1)))) (vwR (rfl) (by decide) rfl) dX7_shone_24 ?_
        obtain ⟨r_7, x_8, qr_7, hf⟩ := bd_out hf
        refine rvI (As := []) (rest := []) C hS (el13 gg_6) rfl KX2_isMissing (cX2_isMissing_ (el13 gg_6) qr_7) g_464 ⟨rfl, rfl⟩ ⟨(Nat.le_of_ble_eq_true rfl), (Nat.le_of_ble_eq_true rfl)⟩ hl.1 rfl rfl (Nat.le_of_ble_eq_true rfl) ⟨Nat.zero_le _, Nat.zero_le _⟩ dX7_shone_25 (fun H locs hS => ?_)
        refine lv_if_eq (tgt := 34) hx hb dX7_shone_28 (by decide) (fun c_9 => ?_) (fun c_9 => ?_)
        · replace hf := if_p c_9 hf
          refine lv_aload_n hx hb dX7_shone_34 rfl (lv_at hl 0 rfl) ?_
          refine gf6_2 C hS (rfl) g_228 dX7_shone_35 ?_
          refine gf3_2 C hS (rfl) g_105 dX7_shone_38 ?_
          refine lv_if_ne (tgt := 47) hx hb dX7_shone_41 (by decide) (fun c_10 => ?_) (fun c_10 => ?_)
          · replace hf := if_n c_10 hf
            refine lv_iconst (v := 0) hx hb dX7_shone_47 (by decide) ?_
            refine lv_istore_n (lv' := [(3, .int 0), (0, .ref (G.1 + 0)), (1, .int v1), (2, .int v2)]) hx hb dX7_shone_48 rfl hl (by decide) rfl (fun ls hl => ?_)
            refine lv_iconst (v := 0) hx hb dX7_shone_49 (by decide) ?_
            refine lv_istore (lv' := [(4, .int 0), (3, .int 0), (0, .ref (G.1 + 0)), (1, .int v1), (2, .int v2)]) hx hb dX7_shone_50 hl (by decide) rfl (fun ls hl => ?_)
            refine lv_iconst (v := 0) hx hb dX7_shone_52 (by decide) ?_
            refine lv_istore (lv' := [(5, .int 0), (4, .int 0), (3, .int 0), (0, .ref (G.1 + 0)), (1, .int v1), (2, .int v2)]) hx hb dX7_shone_53 hl (by decide) rfl (fun ls hl => ?_)
            exact wX7_shone_h55  C v1 v2 0 0 0 x_8 hf _ _ _ hS (lv_sub hl [3, 4, 5, 2, 1, 0] rfl)
          · replace hf := if_p c_10 hf
            refine lv_ldc (v := (-1000000005)) hx hb hown (hw _ g_425) dX7_shone_44 ?_
            exact rtI C hS hf dX7_shone_46
        · replace hf := if_n c_9 hf
          refine lv_ldc (v := (-1000000011)) hx hb hown (hw _ g_468) dX7_shone_31 ?_
          exact rtI C hS hf dX7_shone_33
      · replace hf := if_n c_5 hf
        refine lv_ldc (v := (-1000000001)) hx hb hown (hw _ g_267) dX7_shone_16 ?_
        exact rtI C hS hf dX7_shone_18
abbrev rmX7_fee : Room := { frames := 2, cells := 0, slots := 0, locals := 48 }
set_option maxRecDepth 100000 in
set_option maxHeartbeats 4000000 in
theorem cX7_fee_ {G : GT} {l : Launch} {x z : XS} {r : Int32} (hf : fX7_fee x = some (r, z)) : Ct G l yX7_fee (.code yX7_fee cX7_fee 2 (some .int)) rmX7_fee [.ref (G.1 + 0)] x (some (.int r)) z := by
  refine Ct.of (by decide +kernel) (Nat.le_of_ble_eq_true rfl) ?_
  intro p e s m args below meth c C ls hl hS
  have C : CX G p s m args meth c cX7_fee 2 (some .int) RX7 := C
  have hl : lv_has ls 2 [(0, .ref (G.1 + 0))] := hl
  have hx := C.1
  have hb := C.2.1
  have hown := C.2.2.2.2.2.1
  have hw := C.2.2.2.2.2.2.1
  unfold fX7_fee at hf
  refine lv_aload_n hx hb dX7_fee_0 rfl (lv_at hl 0 rfl) ?_
  refine gf6_2 C hS (rfl) g_228 dX7_fee_1 ?_
  refine lv_iconst (v := 1) hx hb dX7_fee_4 (by decide) ?_
  obtain ⟨r_1, x_2, qr_1, hf⟩ := bd_out hf
  refine rvL (As := [.int 1]) (rest := []) C hS (rfl) rfl KX4_law (cX4_law_ (rfl) qr_1) g_487 ⟨rfl, rfl⟩ ⟨(Nat.le_of_ble_eq_true rfl), (Nat.le_of_ble_eq_true rfl)⟩ hl.1 rfl rfl (Nat.le_of_ble_eq_true rfl) ⟨Nat.zero_le _, Nat.zero_le _⟩ dX7_fee_5 (fun H locs hS => ?_)
  refine stL_n (lv' := [(1, lwv G.1 r_1), (0, .ref (G.1 + 0))]) hx hb dX7_fee_8 rfl hl (by decide) rfl (fun ls hl => ?_)
  refine ldL_n hx hb dX7_fee_9 rfl (lv_at hl 0 rfl) ?_
  refine nnulL hx hb dX7_fee_10 (tgt := 23) (by decide) (fun c_3 => ?_) (fun c_3 => ?_)
  · replace hf := if_n c_3 hf
    obtain ⟨glc_3, hf⟩ := gd_out hf
    rw [lwv_ref c_3] at hl
    refine lv_aload_n hx hb dX7_fee_23 rfl (lv_at hl 0 rfl) ?_
    refine lv_aload_n hx hb dX7_fee_24 rfl (lv_at hl 1 rfl) ?_
    refine gf6_2 C hS (rfl) g_228 dX7_fee_25 ?_
    refine gf3_7 C hS (rfl) g_115 dX7_fee_28 ?_
    refine lv_aload_n hx hb dX7_fee_31 rfl (lv_at hl 1 rfl) ?_
    refine gf6_2 C hS (rfl) g_228 dX7_fee_32 ?_
    refine gf3_5 C hS (rfl) g_111 dX7_fee_35 ?_
    refine lv_iconst (v := 0) hx hb dX7_fee_38 (by decide) ?_
    obtain ⟨r_4, x_5, qr_4, hf⟩ := bd_out hf
    refine rvI (As := [.int (x_2 4 7), .int (x_2 4 5), .int 0]) (rest := []) C hS (of_decide_eq_true glc_3) rfl KX6_value (cX6_value_ (of_decide_eq_true glc_3) qr_4) g_488 ⟨rfl, rfl⟩ ⟨(Nat.le_of_ble_eq_true rfl), (Nat.le_of_ble_eq_true rfl)⟩ hl.1 rfl rfl (Nat.le_of_ble_eq_true rfl) ⟨Nat.zero_le _, Nat.zero_le _⟩ dX7_fee_39 (fun H locs hS => ?_)
    exact rtI C hS hf dX7_fee_42
  · replace hf := if_p c_3 hf
    refine lv_aload_n hx hb dX7_fee_13 rfl (lv_at hl 1 rfl) ?_
    refine gf6_2 C hS (rfl) g_228 dX7_fee_14 ?_
    refine gf3_7 C hS (rfl) g_115 dX7_fee_17 ?_
    refine lv_goto (tgt := 42) hx hb dX7_fee_20 (by decide) ?_
    exact rtI C hS hf dX7_fee_42
abbrev rmX7_fine : Room := { frames := 2, cells := 0, slots := 0, locals := 48 }
set_option maxRecDepth 100000 in
set_option maxHeartbeats 4000000 in
theorem cX7_fine_ {G : GT} {l : Launch} {v1 : Int32} {x z : XS} {r : Int32} (hf : fX7_fine v1 x = some (r, z)) : Ct G l yX7_fine (.code yX7_fine cX7_fine 4 (some .int)) rmX7_fine [.ref (G.1 + 0), .int v1] x (some (.int r)) z := by
  refine Ct.of (by decide +kernel) (Nat.le_of_ble_eq_true rfl) ?_
  intro p e s m args below meth c C ls hl hS
  have C : CX G p s m args meth c cX7_fine 4 (some .int) RX7 := C
  have hl : lv_has ls 4 [(0, .ref (G.1 + 0)), (1, .int v1)] := hl
  have hx := C.1
  have hb := C.2.1
  have hown := C.2.2.2.2.2.1
  have hw := C.2.2.2.2.2.2.1
  unfold fX7_fine at hf
  refine lv_aload_n hx hb dX7_fine_0 rfl (lv_at hl 0 rfl) ?_
  refine lv_iload_n hx hb dX7_fine_1 rfl (lv_at hl 1 rfl) ?_
  obtain ⟨r_1, x_2, qr_1, hf⟩ := bd_out hf
  refine rvI (As := [.int v1]) (rest := []) C hS (rfl) rfl KX7_isBoy (cX7_isBoy_ qr_1) g_281 ⟨rfl, rfl⟩ ⟨(Nat.le_of_ble_eq_true rfl), (Nat.le_of_ble_eq_true rfl)⟩ hl.1 rfl rfl (Nat.le_of_ble_eq_true rfl) ⟨Nat.zero_le _, Nat.zero_le _⟩ dX7_fine_2 (fun H locs hS => ?_)
  refine lv_if_ne (tgt := 11) hx hb dX7_fine_5 (by decide) (fun c_3 => ?_) (fun c_3 => ?_)
  · replace hf := if_n c_3 hf
    refine lv_aload_n hx hb dX7_fine_11 rfl (lv_at hl 0 rfl) ?_
    refine gf6_2 C hS (rfl) g_228 dX7_fine_12 ?_
    refine gf3_0 C hS (rfl) g_102 dX7_fine_15 ?_
    refine lv_iload_n hx hb dX7_fine_18 rfl (lv_at hl 1 rfl) ?_
    obtain ⟨gg_4, hf⟩ := gd_out hf
    refine alV C hS (rfl) (by decide) (by decide) 4 rfl rfl gg_4 (v := .ref (G.1 + (7 + (ix v1)))) (vwR (rfl) (by decide) rfl) dX7_fine_19 ?_
    refine lv_astore_n (lv' := [(2, .ref (G.1 + (7 + (ix v1)))), (0, .ref (G.1 + 0)), (1, .int v1)]) hx hb dX7_fine_20 rfl hl (by decide) rfl (fun ls hl => ?_)
    refine lv_aload_n hx hb dX7_fine_21 rfl (lv_at hl 1 rfl) ?_
    refine gf6_2 C hS (rfl) g_228 dX7_fine_22 ?_
    refine lv_iconst (v := 2) hx hb dX7_fine_25 (by decide) ?_
    obtain ⟨r_5, x_6, qr_5, hf⟩ := bd_out hf
    refine rvL (As := [.int 2]) (rest := []) C hS (rfl) rfl KX4_law (cX4_law_ (rfl) qr_5) g_487 ⟨rfl, rfl⟩ ⟨(Nat.le_of_ble_eq_true rfl), (Nat.le_of_ble_eq_true rfl)⟩ hl.1 rfl rfl (Nat.le_of_ble_eq_true rfl) ⟨Nat.zero_le _, Nat.zero_le _⟩ dX7_fine_26 (fun H locs hS => ?_)
    refine stL_n (lv' := [(3, lwv G.1 r_5), (2, .ref (G.1 + (7 + (ix v1)))), (0, .ref (G.1 + 0)), (1, .int v1)]) hx hb dX7_fine_29 rfl hl (by decide) rfl (fun ls hl => ?_)
    refine ldL_n hx hb dX7_fine_30 rfl (lv_at hl 0 rfl) ?_
    refine nnulL hx hb dX7_fine_31 (tgt := 41) (by decide) (fun c_7 => ?_) (fun c_7 => ?_)
    · replace hf := if_n c_7 hf
      obtain ⟨glc_7, hf⟩ := gd_out hf
      rw [lwv_ref c_7] at hl
      refine lv_aload_n hx hb dX7_fine_41 rfl (lv_at hl 0 rfl) ?_
      refine lv_aload_n hx hb dX7_fine_42 rfl (lv_at hl 1 rfl) ?_
      refine gf0_4 C hS (el12 (a := 5) rfl gg_4) g_80 dX7_fine_43 ?_
      refine lv_aload_n hx hb dX7_fine_46 rfl (lv_at hl 1 rfl) ?_
      refine gf0_6 C hS (el12 (a := 5) rfl gg_4) g_85 dX7_fine_47 ?_
      refine lv_iconst (v := 0) hx hb dX7_fine_50 (by decide) ?_
      obtain ⟨r_8, x_9, qr_8, hf⟩ := bd_out hf
      refine rvI (As := [.int (x_6 (7 + (ix v1)) 4), .int (x_6 (7 + (ix v1)) 6), .int 0]) (rest := []) C hS (of_decide_eq_true glc_7) rfl KX6_value (cX6_value_ (of_decide_eq_true glc_7) qr_8) g_488 ⟨rfl, rfl⟩ ⟨(Nat.le_of_ble_eq_true rfl), (Nat.le_of_ble_eq_true rfl)⟩ hl.1 rfl rfl (Nat.le_of_ble_eq_true rfl) ⟨Nat.zero_le _, Nat.zero_le _⟩ dX7_fine_51 (fun H locs hS => ?_)
      exact rtI C hS hf dX7_fine_54
    · replace hf := if_p c_7 hf
      refine lv_aload_n hx hb dX7_fine_34 rfl (lv_at hl 1 rfl) ?_
      refine gf0_4 C hS (el12 (a := 5) rfl gg_4) g_80 dX7_fine_35 ?_
      refine lv_goto (tgt := 54) hx hb dX7_fine_38 (by decide) ?_
      exact rtI C hS hf dX7_fine_54
  · replace hf := if_p c_3 hf
    refine lv_ldc (v := (-1000000001)) hx hb hown (hw _ g_267) dX7_fine_8 ?_
    exact rtI C hS hf dX7_fine_10
abbrev rmX7_feed : Room := { frames := 1, cells := 0, slots := 0, locals := 22 }
set_option maxRecDepth 100000 in
set_option maxHeartbeats 4000000 in
theorem cX7_feed_ {G : GT} {l : Launch} {v1 : Int32} {v2 : Int32} {v3 : Int32} {x z : XS} {r : Int32} (hf : fX7_feed v1 v2 v3 x = some (r, z)) : Ct G l yX7_feed (.code yX7_feed cX7_feed 4 (some .int)) rmX7_feed [.ref (G.1 + 0), .int v1, .int v2, .int v3] x (some (.int r)) z := by
  refine Ct.of (by decide +kernel) (Nat.le_of_ble_eq_true rfl) ?_
  intro p e s m args below meth c C ls hl hS
  have C : CX G p s m args meth c cX7_feed 4 (some .int) RX7 := C
  have hl : lv_has ls 4 [(0, .ref (G.1 + 0)), (1, .int v1), (2, .int v2), (3, .int v3)] := hl
  have hx := C.1
  have hb := C.2.1
  have hown := C.2.2.2.2.2.1
  have hw := C.2.2.2.2.2.2.1
  unfold fX7_feed at hf
  refine lv_aload_n hx hb dX7_feed_0 rfl (lv_at hl 0 rfl) ?_
  refine gf6_1 C hS (rfl) g_227 dX7_feed_1 ?_
  refine gf4_0 C hS (rfl) g_34 dX7_feed_4 ?_
  refine lv_bipush (v := 12) hx hb dX7_feed_7 (by decide) ?_
  refine lv_iadd hx hb dX7_feed_9 ?_
  refine lv_bipush (v := 96) hx hb dX7_feed_10 (by decide) ?_
  refine lv_icmp_le (tgt := 18) hx hb dX7_feed_12 (by decide) (fun c_1 => ?_) (fun c_1 => ?_)
  · replace hf := if_p c_1 hf
    refine lv_aload_n hx hb dX7_feed_18 rfl (lv_at hl 0 rfl) ?_
    refine gf6_1 C hS (rfl) g_227 dX7_feed_19 ?_
    refine lv_iload_n hx hb dX7_feed_22 rfl (lv_at hl 1 rfl) ?_
    obtain ⟨r_2, x_3, qr_2, hf⟩ := bd_out hf
    refine rvV (As := [.int v1]) (rest := []) C hS (rfl) rfl KX5_addNumber (cX5_addNumber_ qr_2) g_497 ⟨rfl, rfl⟩ ⟨(Nat.le_of_ble_eq_true rfl), (Nat.le_of_ble_eq_true rfl)⟩ hl.1 rfl rfl (Nat.le_of_ble_eq_true rfl) ⟨Nat.zero_le _, Nat.zero_le _⟩ dX7_feed_23 (fun H locs hS => ?_)
    refine lv_aload_n hx hb dX7_feed_26 rfl (lv_at hl 0 rfl) ?_
    refine gf6_1 C hS (rfl) g_227 dX7_feed_27 ?_
    refine lv_iload_n hx hb dX7_feed_30 rfl (lv_at hl 2 rfl) ?_
    obtain ⟨r_4, x_5, qr_4, hf⟩ := bd_out hf
    refine rvV (As := [.int v2]) (rest := []) C hS (rfl) rfl KX5_addNumber (cX5_addNumber_ qr_4) g_497 ⟨rfl, rfl⟩ ⟨(Nat.le_of_ble_eq_true rfl), (Nat.le_of_ble_eq_true rfl)⟩ hl.1 rfl rfl (Nat.le_of_ble_eq_true rfl) ⟨Nat.zero_le _, Nat.zero_le _⟩ dX7_feed_31 (fun H locs hS => ?_)
    refine lv_aload_n hx hb dX7_feed_34 rfl (lv_at hl 0 rfl) ?_
    refine gf6_1 C hS (rfl) g_227 dX7_feed_35 ?_
    refine lv_iload_n hx hb dX7_feed_38 rfl (lv_at hl 3 rfl) ?_
    obtain ⟨r_6, x_7, qr_6, hf⟩ := bd_out hf
    refine rvV (As := [.int v3]) (rest := []) C hS (rfl) rfl KX5_addNumber (cX5_addNumber_ qr_6) g_497 ⟨rfl, rfl⟩ ⟨(Nat.le_of_ble_eq_true rfl), (Nat.le_of_ble_eq_true rfl)⟩ hl.1 rfl rfl (Nat.le_of_ble_eq_true rfl) ⟨Nat.zero_le _, Nat.zero_le _⟩ dX7_feed_39 (fun H locs hS => ?_)
    refine lv_aload_n hx hb dX7_feed_42 rfl (lv_at hl 0 rfl) ?_
    refine gf6_1 C hS (rfl) g_227 dX7_feed_43 ?_
    refine gf4_0 C hS (rfl) g_34 dX7_feed_46 ?_
    exact rtI C hS hf dX7_feed_49
  · replace hf := if_n c_1 hf
    refine lv_ldc (v := (-1000000003)) hx hb hown (hw _ g_268) dX7_feed_15 ?_
    exact rtI C hS hf dX7_feed_17
abbrev rmX7_trim : Room := { frames := 0, cells := 0, slots := 0, locals := 0 }
set_option maxRecDepth 100000 in
set_option maxHeartbeats 4000000 in
theorem cX7_trim_ {G : GT} {l : Launch} {v1 : Int32} {x z : XS} {r : Int32} (hf : fX7_trim v1 x = some (r, z)) : Ct G l yX7_trim (.code yX7_trim cX7_trim 2 (some .int)) rmX7_trim [.ref (G.1 + 0), .int v1] x (some (.int r)) z := by
  refine Ct.of (by decide +kernel) (Nat.le_of_ble_eq_true rfl) ?_
  intro p e s m args below meth c C ls hl hS
  have C : CX G p s m args meth c cX7_trim 2 (some .int) RX7 := C
  have hl : lv_has ls 2 [(0, .ref (G.1 + 0)), (1, .int v1)] := hl
  have hx := C.1
  have hb := C.2.1
  have hown := C.2.2.2.2.2.1
  have hw := C.2.2.2.2.2.2.1
  unfold fX7_trim at hf
  refine lv_iload_n hx hb dX7_trim_0 rfl (lv_at hl 1 rfl) ?_
  refine lv_if_lt (tgt := 15) hx hb dX7_trim_1 (by decide) (fun c_1 => ?_) (fun c_1 => ?_)
  · replace hf := if_p c_1 hf
    refine lv_ldc (v := (-1000000001)) hx hb hown (hw _ g_267) dX7_trim_15 ?_
    exact rtI C hS hf dX7_trim_17
  · replace hf := if_n c_1 hf
    refine lv_iload_n hx hb dX7_trim_4 rfl (lv_at hl 1 rfl) ?_
    refine lv_aload_n hx hb dX7_trim_5 rfl (lv_at hl 0 rfl) ?_
    refine gf6_1 C hS (rfl) g_227 dX7_trim_6 ?_
    refine gf4_0 C hS (rfl) g_34 dX7_trim_9 ?_
    refine lv_icmp_le (tgt := 18) hx hb dX7_trim_12 (by decide) (fun c_2 => ?_) (fun c_2 => ?_)
    · replace hf := if_p c_2 hf
      refine lv_aload_n hx hb dX7_trim_18 rfl (lv_at hl 0 rfl) ?_
      refine gf6_1 C hS (rfl) g_227 dX7_trim_19 ?_
      refine lv_iload_n hx hb dX7_trim_22 rfl (lv_at hl 1 rfl) ?_
      obtain ⟨x_3, ex_3, hf⟩ := st_out hf
      refine pf4_0 C hS (rfl) g_34 ex_3 dX7_trim_23 (fun H locs hS => ?_)
      refine lv_iload_n hx hb dX7_trim_26 rfl (lv_at hl 1 rfl) ?_
      exact rtI C hS hf dX7_trim_27
    · replace hf := if_n c_2 hf
      refine lv_ldc (v := (-1000000001)) hx hb hown (hw _ g_267) dX7_trim_15 ?_
      exact rtI C hS hf dX7_trim_17
abbrev rmX7_text : Room := { frames := 209, cells := 0, slots := 0, locals := 8449 }
set_option maxRecDepth 100000 in
set_option maxHeartbeats 4000000 in
theorem cX7_text_ {G : GT} {l : Launch} {x z : XS} {r : Int32} (hf : fX7_text x = some (r, z)) : Ct G l yX7_text (.code yX7_text cX7_text 3 (some .int)) rmX7_text [.ref (G.1 + 0)] x (some (.int r)) z := by
  refine Ct.of (by decide +kernel) (Nat.le_of_ble_eq_true rfl) ?_
  intro p e s m args below meth c C ls hl hS
  have C : CX G p s m args meth c cX7_text 3 (some .int) RX7 := C
  have hl : lv_has ls 3 [(0, .ref (G.1 + 0))] := hl
  have hx := C.1
  have hb := C.2.1
  have hown := C.2.2.2.2.2.1
  have hw := C.2.2.2.2.2.2.1
  unfold fX7_text at hf
  refine lv_aload_n hx hb dX7_text_0 rfl (lv_at hl 0 rfl) ?_
  refine gf6_0 C hS (rfl) g_226 dX7_text_1 ?_
  refine lv_aload_n hx hb dX7_text_4 rfl (lv_at hl 0 rfl) ?_
  refine gf6_2 C hS (rfl) g_228 dX7_text_5 ?_
  refine gf3_3 C hS (rfl) g_107 dX7_text_8 ?_
  refine lv_bipush (v := 14) hx hb dX7_text_11 (by decide) ?_
  refine va_mmin hx hb (C.2.2.1.trans hl.1.symm) hown (hw _ g_356) (hw _ g_324) (hw _ g_10) (hw _ g_325) (Nat.le_of_ble_eq_true rfl) (Nat.le_of_ble_eq_true rfl) (Nat.zero_le _) (Nat.zero_le _) dX7_text_13 ?_
  obtain ⟨v_1, ev_1, hf⟩ := st_out hf
  refine topI ev_1 ?_
  obtain ⟨gg_2, hf⟩ := gd_out hf
  refine alV C hS (rfl) (by decide) (by decide) 7 rfl rfl gg_2 (v := .ref (G.1 + (41 + 2 * (ix v_1)))) (vwR (rfl) (by decide) rfl) dX7_text_16 ?_
  refine lv_astore_n (lv' := [(1, .ref (G.1 + (41 + 2 * (ix v_1)))), (0, .ref (G.1 + 0))]) hx hb dX7_text_17 rfl hl (by decide) rfl (fun ls hl => ?_)
  refine lv_aload_n hx hb dX7_text_18 rfl (lv_at hl 1 rfl) ?_
  refine gf6_1 C hS (rfl) g_227 dX7_text_19 ?_
  refine lv_aload_n hx hb dX7_text_22 rfl (lv_at hl 0 rfl) ?_
  obtain ⟨r_3, x_4, qr_3, hf⟩ := bd_out hf
  refine rvI (As := [.ref (G.1 + (41 + 2 * (ix v_1)))]) (rest := []) C hS (rfl) rfl KX5_useUp (cX5_useUp_ (el15 gg_2) qr_3) g_509 ⟨rfl, rfl⟩ ⟨(Nat.le_of_ble_eq_true rfl), (Nat.le_of_ble_eq_true rfl)⟩ hl.1 rfl rfl (Nat.le_of_ble_eq_true rfl) ⟨Nat.zero_le _, Nat.zero_le _⟩ dX7_text_23 (fun H locs hS => ?_)
  refine lv_istore_n (lv' := [(2, .int r_3), (1, .ref (G.1 + (41 + 2 * (ix v_1)))), (0, .ref (G.1 + 0))]) hx hb dX7_text_26 rfl hl (by decide) rfl (fun ls hl => ?_)
  refine lv_iload_n hx hb dX7_text_27 rfl (lv_at hl 0 rfl) ?_
  refine lv_if_lt (tgt := 36) hx hb dX7_text_28 (by decide) (fun c_5 => ?_) (fun c_5 => ?_)
  · replace hf := if_p c_5 hf
    refine lv_aload_n hx hb dX7_text_36 rfl (lv_at hl 2 rfl) ?_
    refine gf6_2 C hS (rfl) g_228 dX7_text_37 ?_
    refine gf3_3 C hS (rfl) g_107 dX7_text_40 ?_
    refine lv_bipush (v := 14) hx hb dX7_text_43 (by decide) ?_
    refine lv_icmp_lt (tgt := 51) hx hb dX7_text_45 (by decide) (fun c_6 => ?_) (fun c_6 => ?_)
    · replace hf := if_p c_6 hf
      refine lv_aload_n hx hb dX7_text_51 rfl (lv_at hl 2 rfl) ?_
      refine gf6_2 C hS (rfl) g_228 dX7_text_52 ?_
      refine lv_aload_n hx hb dX7_text_55 rfl (lv_at hl 1 rfl) ?_
      obtain ⟨r_7, x_8, qr_7, hf⟩ := bd_out hf
      refine rvV (As := [.ref (G.1 + (41 + 2 * (ix v_1)))]) (rest := []) C hS (rfl) rfl KX4_countText (cX4_countText_ (rfl) (el15 gg_2) qr_7) g_690 ⟨rfl, rfl⟩ ⟨(Nat.le_of_ble_eq_true rfl), (Nat.le_of_ble_eq_true rfl)⟩ hl.1 rfl rfl (Nat.le_of_ble_eq_true rfl) ⟨Nat.zero_le _, Nat.zero_le _⟩ dX7_text_56 (fun H locs hS => ?_)
      refine lv_aload_n hx hb dX7_text_59 rfl (lv_at hl 1 rfl) ?_
      refine gf5_0 C hS (el15 gg_2) g_159 dX7_text_60 ?_
      exact rtI C hS hf dX7_text_63
    · replace hf := if_n c_6 hf
      refine lv_ldc (v := (-1000000003)) hx hb hown (hw _ g_268) dX7_text_48 ?_
      exact rtI C hS hf dX7_text_50
  · replace hf := if_n c_5 hf
    refine lv_bipush (v := (-100)) hx hb dX7_text_31 (by decide) ?_
    refine lv_iload_n hx hb dX7_text_33 rfl (lv_at hl 0 rfl) ?_
    refine lv_isub hx hb dX7_text_34 ?_
    exact rtI C hS hf dX7_text_35
abbrev rmX7_textTold : Room := { frames := 0, cells := 0, slots := 0, locals := 0 }
set_option maxRecDepth 100000 in
set_option maxHeartbeats 4000000 in
theorem cX7_textTold_ {G : GT} {l : Launch} {v1 : Int32} {v2 : Int32} {x z : XS} {r : Int32} (hf : fX7_textTold v1 v2 x = some (r, z)) : Ct G l yX7_textTold (.code yX7_textTold cX7_textTold 3 (some .int)) rmX7_textTold [.ref (G.1 + 0), .int v1, .int v2] x (some (.int r)) z := by
  refine Ct.of (by decide +kernel) (Nat.le_of_ble_eq_true rfl) ?_
  intro p e s m args below meth c C ls hl hS
  have C : CX G p s m args meth c cX7_textTold 3 (some .int) RX7 := C
  have hl : lv_has ls 3 [(0, .ref (G.1 + 0)), (1, .int v1), (2, .int v2)] := hl
  have hx := C.1
  have hb := C.2.1
  have hown := C.2.2.2.2.2.1
  have hw := C.2.2.2.2.2.2.1
  unfold fX7_textTold at hf
  refine lv_iload_n hx hb dX7_textTold_0 rfl (lv_at hl 1 rfl) ?_
  refine lv_if_lt (tgt := 24) hx hb dX7_textTold_1 (by decide) (fun c_1 => ?_) (fun c_1 => ?_)
  · replace hf := if_p c_1 hf
    refine lv_ldc (v := (-1000000001)) hx hb hown (hw _ g_267) dX7_textTold_24 ?_
    exact rtI C hS hf dX7_textTold_26
  · replace hf := if_n c_1 hf
    refine lv_iload_n hx hb dX7_textTold_4 rfl (lv_at hl 1 rfl) ?_
    refine lv_aload_n hx hb dX7_textTold_5 rfl (lv_at hl 0 rfl) ?_
    refine gf6_2 C hS (rfl) g_228 dX7_textTold_6 ?_
    refine gf3_3 C hS (rfl) g_107 dX7_textTold_9 ?_
    refine lv_icmp_ge (tgt := 24) hx hb dX7_textTold_12 (by decide) (fun c_2 => ?_) (fun c_2 => ?_)
    · replace hf := if_p c_2 hf
      refine lv_ldc (v := (-1000000001)) hx hb hown (hw _ g_267) dX7_textTold_24 ?_
      exact rtI C hS hf dX7_textTold_26
    · replace hf := if_n c_2 hf
      refine lv_iload_n hx hb dX7_textTold_15 rfl (lv_at hl 2 rfl) ?_
      refine lv_if_lt (tgt := 24) hx hb dX7_textTold_16 (by decide) (fun c_3 => ?_) (fun c_3 => ?_)
      · replace hf := if_p c_3 hf
        refine lv_ldc (v := (-1000000001)) hx hb hown (hw _ g_267) dX7_textTold_24 ?_
        exact rtI C hS hf dX7_textTold_26
      · replace hf := if_n c_3 hf
        refine lv_iload_n hx hb dX7_textTold_19 rfl (lv_at hl 2 rfl) ?_
        refine lv_iconst (v := 1) hx hb dX7_textTold_20 (by decide) ?_
        refine lv_icmp_le (tgt := 27) hx hb dX7_textTold_21 (by decide) (fun c_4 => ?_) (fun c_4 => ?_)
        · replace hf := if_p c_4 hf
          refine lv_iload_n hx hb dX7_textTold_27 rfl (lv_at hl 2 rfl) ?_
          refine lv_if_ne (tgt := 43) hx hb dX7_textTold_28 (by decide) (fun c_5 => ?_) (fun c_5 => ?_)
          · replace hf := if_n c_5 hf
            refine lv_aload_n hx hb dX7_textTold_43 rfl (lv_at hl 0 rfl) ?_
            refine gf6_0 C hS (rfl) g_226 dX7_textTold_44 ?_
            refine lv_iload_n hx hb dX7_textTold_47 rfl (lv_at hl 1 rfl) ?_
            obtain ⟨gg_6, hf⟩ := gd_out hf
            refine alV C hS (rfl) (by decide) (by decide) 7 rfl rfl gg_6 (v := .ref (G.1 + (41 + 2 * (ix v1)))) (vwR (rfl) (by decide) rfl) dX7_textTold_48 ?_
            refine gf5_2 C hS (el15 gg_6) g_164 dX7_textTold_49 ?_
            exact rtI C hS hf dX7_textTold_52
          · replace hf := if_p c_5 hf
            refine lv_aload_n hx hb dX7_textTold_31 rfl (lv_at hl 0 rfl) ?_
            refine gf6_0 C hS (rfl) g_226 dX7_textTold_32 ?_
            refine lv_iload_n hx hb dX7_textTold_35 rfl (lv_at hl 1 rfl) ?_
            obtain ⟨gg_7, hf⟩ := gd_out hf
            refine alV C hS (rfl) (by decide) (by decide) 7 rfl rfl gg_7 (v := .ref (G.1 + (41 + 2 * (ix v1)))) (vwR (rfl) (by decide) rfl) dX7_textTold_36 ?_
            refine gf5_1 C hS (el15 gg_7) g_162 dX7_textTold_37 ?_
            refine lv_goto (tgt := 52) hx hb dX7_textTold_40 (by decide) ?_
            exact rtI C hS hf dX7_textTold_52
        · replace hf := if_n c_4 hf
          refine lv_ldc (v := (-1000000001)) hx hb hown (hw _ g_267) dX7_textTold_24 ?_
          exact rtI C hS hf dX7_textTold_26
abbrev rmX7_why : Room := { frames := 1, cells := 0, slots := 0, locals := 21 }
set_option maxRecDepth 100000 in
set_option maxHeartbeats 4000000 in
theorem cX7_why_ {G : GT} {l : Launch} {v1 : Int32} {x z : XS} {r : Int32} (hf : fX7_why v1 x = some (r, z)) : Ct G l yX7_why (.code yX7_why cX7_why 3 (some .int)) rmX7_why [.ref (G.1 + 0), .int v1] x (some (.int r)) z := by
  refine Ct.of (by decide +kernel) (Nat.le_of_ble_eq_true rfl) ?_
  intro p e s m args below meth c C ls hl hS
  have C : CX G p s m args meth c cX7_why 3 (some .int) RX7 := C
  have hl : lv_has ls 3 [(0, .ref (G.1 + 0)), (1, .int v1)] := hl
  have hx := C.1
  have hb := C.2.1
  have hown := C.2.2.2.2.2.1
  have hw := C.2.2.2.2.2.2.1
  unfold fX7_why at hf
  refine lv_iload_n hx hb dX7_why_0 rfl (lv_at hl 1 rfl) ?_
  refine lv_if_lt (tgt := 9) hx hb dX7_why_1 (by decide) (fun c_1 => ?_) (fun c_1 => ?_)
  · replace hf := if_p c_1 hf
    refine lv_ldc (v := (-1000000001)) hx hb hown (hw _ g_267) dX7_why_9 ?_
    exact rtI C hS hf dX7_why_11
  · replace hf := if_n c_1 hf
    refine lv_iload_n hx hb dX7_why_4 rfl (lv_at hl 1 rfl) ?_
    refine lv_iconst (v := 3) hx hb dX7_why_5 (by decide) ?_
    refine lv_icmp_lt (tgt := 12) hx hb dX7_why_6 (by decide) (fun c_2 => ?_) (fun c_2 => ?_)
    · replace hf := if_p c_2 hf
      refine lv_aload_n hx hb dX7_why_12 rfl (lv_at hl 0 rfl) ?_
      refine gf6_2 C hS (rfl) g_228 dX7_why_13 ?_
      refine lv_iload_n hx hb dX7_why_16 rfl (lv_at hl 1 rfl) ?_
      obtain ⟨r_3, x_4, qr_3, hf⟩ := bd_out hf
      refine rvL (As := [.int v1]) (rest := []) C hS (rfl) rfl KX4_law (cX4_law_ (rfl) qr_3) g_487 ⟨rfl, rfl⟩ ⟨(Nat.le_of_ble_eq_true rfl), (Nat.le_of_ble_eq_true rfl)⟩ hl.1 rfl rfl (Nat.le_of_ble_eq_true rfl) ⟨Nat.zero_le _, Nat.zero_le _⟩ dX7_why_17 (fun H locs hS => ?_)
      refine stL_n (lv' := [(2, lwv G.1 r_3), (0, .ref (G.1 + 0)), (1, .int v1)]) hx hb dX7_why_20 rfl hl (by decide) rfl (fun ls hl => ?_)
      refine ldL_n hx hb dX7_why_21 rfl (lv_at hl 0 rfl) ?_
      refine nnulL hx hb dX7_why_22 (tgt := 30) (by decide) (fun c_5 => ?_) (fun c_5 => ?_)
      · replace hf := if_n c_5 hf
        obtain ⟨glc_5, hf⟩ := gd_out hf
        rw [lwv_ref c_5] at hl
        refine lv_aload_n hx hb dX7_why_30 rfl (lv_at hl 0 rfl) ?_
        refine gf5_0 C hS (of_decide_eq_true glc_5) g_159 dX7_why_31 ?_
        exact rtI C hS hf dX7_why_34
      · replace hf := if_p c_5 hf
        refine lv_ldc (v := (-1000000005)) hx hb hown (hw _ g_425) dX7_why_25 ?_
        refine lv_goto (tgt := 34) hx hb dX7_why_27 (by decide) ?_
        exact rtI C hS hf dX7_why_34
    · replace hf := if_n c_2 hf
      refine lv_ldc (v := (-1000000001)) hx hb hown (hw _ g_267) dX7_why_9 ?_
      exact rtI C hS hf dX7_why_11
abbrev rmX7_sheet : Room := { frames := 2, cells := 0, slots := 0, locals := 83 }
set_option maxRecDepth 100000 in
set_option maxHeartbeats 4000000 in
theorem cX7_sheet_ {G : GT} {l : Launch} {v1 : Int32} {v2 : Int32} {v3 : Int32} {x z : XS} {r : Int32} (hf : fX7_sheet v1 v2 v3 x = some (r, z)) : Ct G l yX7_sheet (.code yX7_sheet cX7_sheet 4 (some .int)) rmX7_sheet [.ref (G.1 + 0), .int v1, .int v2, .int v3] x (some (.int r)) z := by
  refine Ct.of (by decide +kernel) (Nat.le_of_ble_eq_true rfl) ?_
  intro p e s m args below meth c C ls hl hS
  have C : CX G p s m args meth c cX7_sheet 4 (some .int) RX7 := C
  have hl : lv_has ls 4 [(0, .ref (G.1 + 0)), (1, .int v1), (2, .int v2), (3, .int v3)] := hl
  have hx := C.1
  have hb := C.2.1
  have hown := C.2.2.2.2.2.1
  have hw := C.2.2.2.2.2.2.1
  unfold fX7_sheet at hf
  refine lv_iload_n hx hb dX7_sheet_0 rfl (lv_at hl 1 rfl) ?_
  obtain ⟨r_1, x_2, qr_1, hf⟩ := bd_out hf
  refine rsI (As := [.int v1]) (rest := []) C hS KX7_isSheet (cX7_isSheet_ qr_1) g_461 ⟨rfl, rfl⟩ ⟨(Nat.le_of_ble_eq_true rfl), (Nat.le_of_ble_eq_true rfl)⟩ hl.1 rfl rfl (Nat.le_of_ble_eq_true rfl) ⟨Nat.zero_le _, Nat.zero_le _⟩ dX7_sheet_1 (fun H locs hS => ?_)
  refine lv_if_eq (tgt := 17) hx hb dX7_sheet_4 (by decide) (fun c_3 => ?_) (fun c_3 => ?_)
  · replace hf := if_p c_3 hf
    refine lv_ldc (v := (-1000000001)) hx hb hown (hw _ g_267) dX7_sheet_17 ?_
    exact rtI C hS hf dX7_sheet_19
  · replace hf := if_n c_3 hf
    refine lv_iload_n hx hb dX7_sheet_7 rfl (lv_at hl 2 rfl) ?_
    refine lv_iconst (v := (-1)) hx hb dX7_sheet_8 (by decide) ?_
    refine lv_icmp_lt (tgt := 17) hx hb dX7_sheet_9 (by decide) (fun c_4 => ?_) (fun c_4 => ?_)
    · replace hf := if_p c_4 hf
      refine lv_ldc (v := (-1000000001)) hx hb hown (hw _ g_267) dX7_sheet_17 ?_
      exact rtI C hS hf dX7_sheet_19
    · replace hf := if_n c_4 hf
      refine lv_iload_n hx hb dX7_sheet_12 rfl (lv_at hl 2 rfl) ?_
      refine lv_iconst (v := 1) hx hb dX7_sheet_13 (by decide) ?_
      refine lv_icmp_le (tgt := 20) hx hb dX7_sheet_14 (by decide) (fun c_5 => ?_) (fun c_5 => ?_)
      · replace hf := if_p c_5 hf
        refine lv_iload_n hx hb dX7_sheet_20 rfl (lv_at hl 2 rfl) ?_
        refine lv_iconst (v := (-1)) hx hb dX7_sheet_21 (by decide) ?_
        refine lv_icmp_ne (tgt := 38) hx hb dX7_sheet_22 (by decide) (fun c_6 => ?_) (fun c_6 => ?_)
        · replace hf := if_n c_6 hf
          refine lv_iload_n hx hb dX7_sheet_38 rfl (lv_at hl 3 rfl) ?_
          refine lv_bipush (v := 24) hx hb dX7_sheet_39 (by decide) ?_
          refine lv_icmp_le (tgt := 47) hx hb dX7_sheet_41 (by decide) (fun c_7 => ?_) (fun c_7 => ?_)
          · replace hf := if_p c_7 hf
            refine lv_iload_n hx hb dX7_sheet_47 rfl (lv_at hl 3 rfl) ?_
            refine lv_if_ge (tgt := 54) hx hb dX7_sheet_48 (by decide) (fun c_8 => ?_) (fun c_8 => ?_)
            · replace hf := if_p c_8 hf
              refine lv_aload_n hx hb dX7_sheet_54 rfl (lv_at hl 0 rfl) ?_
              refine gf6_5 C hS (rfl) g_231 dX7_sheet_55 ?_
              refine lv_iload_n hx hb dX7_sheet_58 rfl (lv_at hl 1 rfl) ?_
              obtain ⟨gg_9, hf⟩ := gd_out hf
              refine alV C hS (rfl) (by decide) (by decide) 5 rfl rfl gg_9 (v := .ref (G.1 + (71 + 2 * (ix v1)))) (vwR (rfl) (by decide) rfl) dX7_sheet_59 ?_
              refine lv_iload_n hx hb dX7_sheet_60 rfl (lv_at hl 2 rfl) ?_
              refine lv_iload_n hx hb dX7_sheet_61 rfl (lv_at hl 3 rfl) ?_
              obtain ⟨r_10, x_11, qr_10, hf⟩ := bd_out hf
              refine rvV (As := [.int v2, .int v3]) (rest := []) C hS (el13 gg_9) rfl KX2_renew (cX2_renew_ (el13 gg_9) qr_10) g_706 ⟨rfl, rfl⟩ ⟨(Nat.le_of_ble_eq_true rfl), (Nat.le_of_ble_eq_true rfl)⟩ hl.1 rfl rfl (Nat.le_of_ble_eq_true rfl) ⟨Nat.zero_le _, Nat.zero_le _⟩ dX7_sheet_62 (fun H locs hS => ?_)
              refine lv_iload_n hx hb dX7_sheet_65 rfl (lv_at hl 3 rfl) ?_
              exact rtI C hS hf dX7_sheet_66
            · replace hf := if_n c_8 hf
              refine lv_ldc (v := (-1000000014)) hx hb hown (hw _ g_712) dX7_sheet_51 ?_
              exact rtI C hS hf dX7_sheet_53
          · replace hf := if_n c_7 hf
            refine lv_ldc (v := (-1000000001)) hx hb hown (hw _ g_267) dX7_sheet_44 ?_
            exact rtI C hS hf dX7_sheet_46
        · replace hf := if_p c_6 hf
          refine lv_aload_n hx hb dX7_sheet_25 rfl (lv_at hl 0 rfl) ?_
          refine gf6_5 C hS (rfl) g_231 dX7_sheet_26 ?_
          refine lv_iload_n hx hb dX7_sheet_29 rfl (lv_at hl 1 rfl) ?_
          obtain ⟨gg_12, hf⟩ := gd_out hf
          refine alV C hS (rfl) (by decide) (by decide) 5 rfl rfl gg_12 (v := .ref (G.1 + (71 + 2 * (ix v1)))) (vwR (rfl) (by decide) rfl) dX7_sheet_30 ?_
          refine lv_iconst (v := (-1)) hx hb dX7_sheet_31 (by decide) ?_
          refine lv_iconst (v := 0) hx hb dX7_sheet_32 (by decide) ?_
          obtain ⟨r_13, x_14, qr_13, hf⟩ := bd_out hf
          refine rvV (As := [.int (-1), .int 0]) (rest := []) C hS (el13 gg_12) rfl KX2_renew (cX2_renew_ (el13 gg_12) qr_13) g_706 ⟨rfl, rfl⟩ ⟨(Nat.le_of_ble_eq_true rfl), (Nat.le_of_ble_eq_true rfl)⟩ hl.1 rfl rfl (Nat.le_of_ble_eq_true rfl) ⟨Nat.zero_le _, Nat.zero_le _⟩ dX7_sheet_33 (fun H locs hS => ?_)
          refine lv_iconst (v := 0) hx hb dX7_sheet_36 (by decide) ?_
          exact rtI C hS hf dX7_sheet_37
      · replace hf := if_n c_5 hf
        refine lv_ldc (v := (-1000000001)) hx hb hown (hw _ g_267) dX7_sheet_17 ?_
        exact rtI C hS hf dX7_sheet_19
abbrev rmX7_mark : Room := { frames := 1, cells := 0, slots := 0, locals := 21 }
set_option maxRecDepth 100000 in
set_option maxHeartbeats 4000000 in
theorem cX7_mark_ {G : GT} {l : Launch} {v1 : Int32} {v2 : Int32} {v3 : Int32} {x z : XS} {r : Int32} (hf : fX7_mark v1 v2 v3 x = some (r, z)) : Ct G l yX7_mark (.code yX7_mark cX7_mark 5 (some .int)) rmX7_mark [.ref (G.1 + 0), .int v1, .int v2, .int v3] x (some (.int r)) z := by
  refine Ct.of (by decide +kernel) (Nat.le_of_ble_eq_true rfl) ?_
  intro p e s m args below meth c C ls hl hS
  have C : CX G p s m args meth c cX7_mark 5 (some .int) RX7 := C
  have hl : lv_has ls 5 [(0, .ref (G.1 + 0)), (1, .int v1), (2, .int v2), (3, .int v3)] := hl
  have hx := C.1
  have hb := C.2.1
  have hown := C.2.2.2.2.2.1
  have hw := C.2.2.2.2.2.2.1
  unfold fX7_mark at hf
  refine lv_iload_n hx hb dX7_mark_0 rfl (lv_at hl 1 rfl) ?_
  obtain ⟨r_1, x_2, qr_1, hf⟩ := bd_out hf
  refine rsI (As := [.int v1]) (rest := []) C hS KX7_isSheet (cX7_isSheet_ qr_1) g_461 ⟨rfl, rfl⟩ ⟨(Nat.le_of_ble_eq_true rfl), (Nat.le_of_ble_eq_true rfl)⟩ hl.1 rfl rfl (Nat.le_of_ble_eq_true rfl) ⟨Nat.zero_le _, Nat.zero_le _⟩ dX7_mark_1 (fun H locs hS => ?_)
  refine lv_if_ne (tgt := 10) hx hb dX7_mark_4 (by decide) (fun c_3 => ?_) (fun c_3 => ?_)
  · replace hf := if_n c_3 hf
    refine lv_aload_n hx hb dX7_mark_10 rfl (lv_at hl 0 rfl) ?_
    refine gf6_5 C hS (rfl) g_231 dX7_mark_11 ?_
    refine lv_iload_n hx hb dX7_mark_14 rfl (lv_at hl 1 rfl) ?_
    obtain ⟨gg_4, hf⟩ := gd_out hf
    refine alV C hS (rfl) (by decide) (by decide) 5 rfl rfl gg_4 (v := .ref (G.1 + (71 + 2 * (ix v1)))) (vwR (rfl) (by decide) rfl) dX7_mark_15 ?_
    refine lv_astore (lv' := [(4, .ref (G.1 + (71 + 2 * (ix v1)))), (0, .ref (G.1 + 0)), (1, .int v1), (2, .int v2), (3, .int v3)]) hx hb dX7_mark_16 hl (by decide) rfl (fun ls hl => ?_)
    refine lv_aload hx hb dX7_mark_18 (lv_at hl 0 rfl) ?_
    obtain ⟨r_5, x_6, qr_5, hf⟩ := bd_out hf
    refine rvI (As := []) (rest := []) C hS (el13 gg_4) rfl KX2_isMissing (cX2_isMissing_ (el13 gg_4) qr_5) g_464 ⟨rfl, rfl⟩ ⟨(Nat.le_of_ble_eq_true rfl), (Nat.le_of_ble_eq_true rfl)⟩ hl.1 rfl rfl (Nat.le_of_ble_eq_true rfl) ⟨Nat.zero_le _, Nat.zero_le _⟩ dX7_mark_20 (fun H locs hS => ?_)
    refine lv_if_eq (tgt := 29) hx hb dX7_mark_23 (by decide) (fun c_7 => ?_) (fun c_7 => ?_)
    · replace hf := if_p c_7 hf
      refine lv_aload hx hb dX7_mark_29 (lv_at hl 0 rfl) ?_
      refine lv_iload_n hx hb dX7_mark_31 rfl (lv_at hl 3 rfl) ?_
      obtain ⟨r_8, x_9, qr_8, hf⟩ := bd_out hf
      refine rvI (As := [.int v2]) (rest := []) C hS (el13 gg_4) rfl KX2_hasPlace (cX2_hasPlace_ (el13 gg_4) qr_8) g_717 ⟨rfl, rfl⟩ ⟨(Nat.le_of_ble_eq_true rfl), (Nat.le_of_ble_eq_true rfl)⟩ hl.1 rfl rfl (Nat.le_of_ble_eq_true rfl) ⟨Nat.zero_le _, Nat.zero_le _⟩ dX7_mark_32 (fun H locs hS => ?_)
      refine lv_if_ne (tgt := 41) hx hb dX7_mark_35 (by decide) (fun c_10 => ?_) (fun c_10 => ?_)
      · replace hf := if_n c_10 hf
        refine lv_aload hx hb dX7_mark_41 (lv_at hl 0 rfl) ?_
        refine gf1_0 C hS (el13 gg_4) g_188 dX7_mark_43 ?_
        refine lv_if_ne (tgt := 69) hx hb dX7_mark_46 (by decide) (fun c_11 => ?_) (fun c_11 => ?_)
        · replace hf := if_n c_11 hf
          refine lv_iload_n hx hb dX7_mark_69 rfl (lv_at hl 4 rfl) ?_
          refine lv_ldc (v := (-1000000005)) hx hb hown (hw _ g_425) dX7_mark_70 ?_
          refine lv_icmp_eq (tgt := 90) hx hb dX7_mark_72 (by decide) (fun c_12 => ?_) (fun c_12 => ?_)
          · replace hf := if_p c_12 hf
            refine lv_aload hx hb dX7_mark_90 (lv_at hl 0 rfl) ?_
            refine gf1_2 C hS (el13 gg_4) g_192 dX7_mark_92 ?_
            refine lv_iload_n hx hb dX7_mark_95 rfl (lv_at hl 3 rfl) ?_
            refine lv_iload_n hx hb dX7_mark_96 rfl (lv_at hl 4 rfl) ?_
            obtain ⟨gg_13, hf⟩ := gd_out hf
            obtain ⟨x_14, ex_14, hf⟩ := st_out hf
            refine asI C hS (sh_p (el13 gg_4)) (sh_n (el13 gg_4)) gg_13 ex_14 dX7_mark_97 (fun H locs hS => ?_)
            refine lv_iconst (v := 1) hx hb dX7_mark_98 (by decide) ?_
            exact rtI C hS hf dX7_mark_99
          · replace hf := if_n c_12 hf
            refine lv_iload_n hx hb dX7_mark_75 rfl (lv_at hl 4 rfl) ?_
            refine lv_ldc (v := (-99999)) hx hb hown (hw _ g_719) dX7_mark_76 ?_
            refine lv_icmp_lt (tgt := 87) hx hb dX7_mark_78 (by decide) (fun c_15 => ?_) (fun c_15 => ?_)
            · replace hf := if_p c_15 hf
              refine lv_ldc (v := (-1000000001)) hx hb hown (hw _ g_267) dX7_mark_87 ?_
              exact rtI C hS hf dX7_mark_89
            · replace hf := if_n c_15 hf
              refine lv_iload_n hx hb dX7_mark_81 rfl (lv_at hl 4 rfl) ?_
              refine lv_ldc (v := 99999) hx hb hown (hw _ g_720) dX7_mark_82 ?_
              refine lv_icmp_le (tgt := 90) hx hb dX7_mark_84 (by decide) (fun c_16 => ?_) (fun c_16 => ?_)
              · replace hf := if_p c_16 hf
                refine lv_aload hx hb dX7_mark_90 (lv_at hl 0 rfl) ?_
                refine gf1_2 C hS (el13 gg_4) g_192 dX7_mark_92 ?_
                refine lv_iload_n hx hb dX7_mark_95 rfl (lv_at hl 3 rfl) ?_
                refine lv_iload_n hx hb dX7_mark_96 rfl (lv_at hl 4 rfl) ?_
                obtain ⟨gg_17, hf⟩ := gd_out hf
                obtain ⟨x_18, ex_18, hf⟩ := st_out hf
                refine asI C hS (sh_p (el13 gg_4)) (sh_n (el13 gg_4)) gg_17 ex_18 dX7_mark_97 (fun H locs hS => ?_)
                refine lv_iconst (v := 1) hx hb dX7_mark_98 (by decide) ?_
                exact rtI C hS hf dX7_mark_99
              · replace hf := if_n c_16 hf
                refine lv_ldc (v := (-1000000001)) hx hb hown (hw _ g_267) dX7_mark_87 ?_
                exact rtI C hS hf dX7_mark_89
        · replace hf := if_p c_11 hf
          refine lv_iload_n hx hb dX7_mark_49 rfl (lv_at hl 4 rfl) ?_
          refine lv_ldc (v := (-1000000005)) hx hb hown (hw _ g_425) dX7_mark_50 ?_
          refine lv_icmp_ne (tgt := 58) hx hb dX7_mark_52 (by decide) (fun c_19 => ?_) (fun c_19 => ?_)
          · replace hf := if_n c_19 hf
            refine lv_aload hx hb dX7_mark_58 (lv_at hl 0 rfl) ?_
            refine gf1_2 C hS (el13 gg_4) g_192 dX7_mark_60 ?_
            refine lv_iload_n hx hb dX7_mark_63 rfl (lv_at hl 3 rfl) ?_
            refine lv_iload_n hx hb dX7_mark_64 rfl (lv_at hl 4 rfl) ?_
            obtain ⟨v_20, ev_20, hf⟩ := st_out hf
            refine lv_i2s (v := v_20) hx hb dX7_mark_65 ev_20.symm ?_
            obtain ⟨gg_21, hf⟩ := gd_out hf
            obtain ⟨x_22, ex_22, hf⟩ := st_out hf
            refine asI C hS (sh_p (el13 gg_4)) (sh_n (el13 gg_4)) gg_21 ex_22 dX7_mark_66 (fun H locs hS => ?_)
            refine lv_iconst (v := 1) hx hb dX7_mark_67 (by decide) ?_
            exact rtI C hS hf dX7_mark_68
          · replace hf := if_p c_19 hf
            refine lv_ldc (v := (-1000000012)) hx hb hown (hw _ g_339) dX7_mark_55 ?_
            exact rtI C hS hf dX7_mark_57
      · replace hf := if_p c_10 hf
        refine lv_ldc (v := (-1000000013)) hx hb hown (hw _ g_718) dX7_mark_38 ?_
        exact rtI C hS hf dX7_mark_40
    · replace hf := if_n c_7 hf
      refine lv_ldc (v := (-1000000011)) hx hb hown (hw _ g_468) dX7_mark_26 ?_
      exact rtI C hS hf dX7_mark_28
  · replace hf := if_p c_3 hf
    refine lv_ldc (v := (-1000000001)) hx hb hown (hw _ g_267) dX7_mark_7 ?_
    exact rtI C hS hf dX7_mark_9
abbrev rmX7_pour : Room := { frames := 2, cells := 0, slots := 0, locals := 60 }
set_option maxRecDepth 100000 in
set_option maxHeartbeats 4000000 in
theorem wX7_pour_h92 {p : Program} {l : Launch} {e : Env} {s : State} {m : MethodId} {args : Array Value} {below : List Frame} {meth : Method} {c : Code} {G : GT} {r : Int32} {z : XS} (C : CX G p s m args meth c cX7_pour 6 (some .int) RX7) {k32 : Nat → Int32 → Int32 → XS → Option (Int32 × XS)} (hk32 : ∀ (u2 : Nat) (u3 : Int32) (u4 : Int32) (x : XS) (hu2 : tg u2 = 1), k32 u2 u3 u4 x = some (r, z) → ∀ (H : Heap) (locs : List Loc) (ls : Array Slot), SR G x H locs → lv_has ls 6 [(0, .ref (G.1 + 0)), (2, .ref (G.1 + u2)), (3, .int u3), (4, .int u4)] → W p l e rmX7_pour s m args below meth c H locs 0 0 (MQ below (QC G (some (.int r)) z) args s 0 0 (AB G)) (F0 m 32 ls [])) : ∀ (u2 : Nat) (u3 : Int32) (u4 : Int32) (u5 : Int32) (x : XS) (hu2 : tg u2 = 1), fX7_pour_h92 k32 u2 u3 u4 u5 x = some (r, z) → ∀ (H : Heap) (locs : List Loc) (ls : Array Slot), SR G x H locs → lv_has ls 6 [(0, .ref (G.1 + 0)), (2, .ref (G.1 + u2)), (3, .int u3), (4, .int u4), (5, .int u5)] → W p l e rmX7_pour s m args below meth c H locs 0 0 (MQ below (QC G (some (.int r)) z) args s 0 0 (AB G)) (F0 m 92 ls []) := by
  intro u2 u3 u4 u5 x hu2 hf H locs ls hS hl
  have hx := C.1
  have hb := C.2.1
  have hown := C.2.2.2.2.2.1
  have hw := C.2.2.2.2.2.2.1
  unfold fX7_pour_h92 at hf
  refine lv_aload_n hx hb dX7_pour_92 rfl (lv_at hl 0 rfl) ?_
  refine gf6_2 C hS (rfl) g_228 dX7_pour_93 ?_
  refine gf3_0 C hS (rfl) g_102 dX7_pour_96 ?_
  refine lv_iload hx hb dX7_pour_99 (lv_at hl 3 rfl) ?_
  obtain ⟨gg_19, hf⟩ := gd_out hf
  refine alV C hS (rfl) (by decide) (by decide) 4 rfl rfl gg_19 (v := .ref (G.1 + (7 + (ix u4)))) (vwR (rfl) (by decide) rfl) dX7_pour_101 ?_
  refine lv_iload hx hb dX7_pour_102 (lv_at hl 4 rfl) ?_
  obtain ⟨x_20, ex_20, hf⟩ := st_out hf
  refine pf0_2 C hS (el12 (a := 5) rfl gg_19) g_74 ex_20 dX7_pour_104 (fun H locs hS => ?_)
  obtain ⟨v_21, ev_21, hf⟩ := st_out hf
  refine lv_iinc (v := v_21) (lv' := [(4, .int v_21), (0, .ref (G.1 + 0)), (2, .ref (G.1 + u2)), (3, .int u3), (5, .int u5)]) hx hb dX7_pour_107 hl (k := 3) rfl (by rw [ev_21]; rfl) (by decide) rfl (fun ls hl => ?_)
  refine lv_goto (tgt := 32) hx hb dX7_pour_110 (by decide) ?_
  exact hk32 u2 u3 v_21 x_20 hu2 hf _ _ _ hS (lv_sub hl [1, 2, 3, 0] rfl)
set_option maxRecDepth 100000 in
set_option maxHeartbeats 4000000 in
theorem wbX7_pour_h32 {p : Program} {l : Launch} {e : Env} {s : State} {m : MethodId} {args : Array Value} {below : List Frame} {meth : Method} {c : Code} {G : GT} {r : Int32} {z : XS} (C : CX G p s m args meth c cX7_pour 6 (some .int) RX7) {k32 : Nat → Int32 → Int32 → XS → Option (Int32 × XS)} (hk32 : ∀ (u2 : Nat) (u3 : Int32) (u4 : Int32) (x : XS) (hu2 : tg u2 = 1), k32 u2 u3 u4 x = some (r, z) → ∀ (H : Heap) (locs : List Loc) (ls : Array Slot), SR G x H locs → lv_has ls 6 [(0, .ref (G.1 + 0)), (2, .ref (G.1 + u2)), (3, .int u3), (4, .int u4)] → W p l e rmX7_pour s m args below meth c H locs 0 0 (MQ below (QC G (some (.int r)) z) args s 0 0 (AB G)) (F0 m 32 ls [])) : ∀ (u2 : Nat) (u3 : Int32) (u4 : Int32) (x : XS) (hu2 : tg u2 = 1), bX7_pour_h32 k32 u2 u3 u4 x = some (r, z) → ∀ (H : Heap) (locs : List Loc) (ls : Array Slot), SR G x H locs → lv_has ls 6 [(0, .ref (G.1 + 0)), (2, .ref (G.1 + u2)), (3, .int u3), (4, .int u4)] → W p l e rmX7_pour s m args below meth c H locs 0 0 (MQ below (QC G (some (.int r)) z) args s 0 0 (AB G)) (F0 m 32 ls []) := by
  intro u2 u3 u4 x hu2 hf H locs ls hS hl
  have hx := C.1
  have hb := C.2.1
  have hown := C.2.2.2.2.2.1
  have hw := C.2.2.2.2.2.2.1
  unfold bX7_pour_h32 at hf
  refine lv_iload hx hb dX7_pour_32 (lv_at hl 3 rfl) ?_
  refine lv_aload_n hx hb dX7_pour_34 rfl (lv_at hl 0 rfl) ?_
  refine gf6_2 C hS (rfl) g_228 dX7_pour_35 ?_
  refine gf3_2 C hS (rfl) g_105 dX7_pour_38 ?_
  refine lv_icmp_ge (tgt := 113) hx hb dX7_pour_41 (by decide) (fun c_8 => ?_) (fun c_8 => ?_)
  · replace hf := if_p c_8 hf
    refine lv_iload_n hx hb dX7_pour_113 rfl (lv_at hl 2 rfl) ?_
    exact rtI C hS hf dX7_pour_114
  · replace hf := if_n c_8 hf
    refine lv_aload_n hx hb dX7_pour_44 rfl (lv_at hl 1 rfl) ?_
    refine lv_iload hx hb dX7_pour_45 (lv_at hl 3 rfl) ?_
    obtain ⟨r_9, x_10, qr_9, hf⟩ := bd_out hf
    refine rvI (As := [.int u4]) (rest := []) C hS hu2 rfl KX2_hasNumber (cX2_hasNumber_ hu2 qr_9) g_473 ⟨rfl, rfl⟩ ⟨(Nat.le_of_ble_eq_true rfl), (Nat.le_of_ble_eq_true rfl)⟩ hl.1 rfl rfl (Nat.le_of_ble_eq_true rfl) ⟨Nat.zero_le _, Nat.zero_le _⟩ dX7_pour_47 (fun H locs hS => ?_)
    refine lv_if_eq (tgt := 107) hx hb dX7_pour_50 (by decide) (fun c_11 => ?_) (fun c_11 => ?_)
    · replace hf := if_p c_11 hf
      obtain ⟨v_12, ev_12, hf⟩ := st_out hf
      refine lv_iinc (v := v_12) (lv' := [(4, .int v_12), (0, .ref (G.1 + 0)), (2, .ref (G.1 + u2)), (3, .int u3)]) hx hb dX7_pour_107 hl (k := 3) rfl (by rw [ev_12]; rfl) (by decide) rfl (fun ls hl => ?_)
      refine lv_goto (tgt := 32) hx hb dX7_pour_110 (by decide) ?_
      exact hk32 u2 u3 v_12 x_10 hu2 hf _ _ _ hS (lv_sub hl [1, 2, 3, 0] rfl)
    · replace hf := if_n c_11 hf
      refine lv_iconst (v := 1) hx hb dX7_pour_53 (by decide) ?_
      refine lv_bipush (v := 99) hx hb dX7_pour_54 (by decide) ?_
      refine lv_aload_n hx hb dX7_pour_56 rfl (lv_at hl 1 rfl) ?_
      refine gf1_2 C hS hu2 g_192 dX7_pour_57 ?_
      refine lv_iload hx hb dX7_pour_60 (lv_at hl 3 rfl) ?_
      obtain ⟨gg_13, hf⟩ := gd_out hf
      refine alI C hS (sh_p hu2) (sh_n hu2) gg_13 dX7_pour_62 ?_
      refine va_mmin hx hb (C.2.2.1.trans hl.1.symm) hown (hw _ g_356) (hw _ g_324) (hw _ g_10) (hw _ g_325) (Nat.le_of_ble_eq_true rfl) (Nat.le_of_ble_eq_true rfl) (Nat.zero_le _) (Nat.zero_le _) dX7_pour_63 ?_
      obtain ⟨v_14, ev_14, hf⟩ := st_out hf
      refine topI ev_14 ?_
      refine va_mmax hx hb (C.2.2.1.trans hl.1.symm) hown (hw _ g_725) (hw _ g_296) (hw _ g_10) (hw _ g_297) (Nat.le_of_ble_eq_true rfl) (Nat.le_of_ble_eq_true rfl) (Nat.zero_le _) (Nat.zero_le _) dX7_pour_66 ?_
      obtain ⟨v_15, ev_15, hf⟩ := st_out hf
      refine topI ev_15 ?_
      refine lv_istore (lv' := [(5, .int v_15), (0, .ref (G.1 + 0)), (2, .ref (G.1 + u2)), (3, .int u3), (4, .int u4)]) hx hb dX7_pour_69 hl (by decide) rfl (fun ls hl => ?_)
      refine lv_iload hx hb dX7_pour_71 (lv_at hl 0 rfl) ?_
      refine lv_aload_n hx hb dX7_pour_73 rfl (lv_at hl 1 rfl) ?_
      refine gf6_2 C hS (rfl) g_228 dX7_pour_74 ?_
      refine gf3_0 C hS (rfl) g_102 dX7_pour_77 ?_
      refine lv_iload hx hb dX7_pour_80 (lv_at hl 4 rfl) ?_
      obtain ⟨gg_16, hf⟩ := gd_out hf
      refine alV C hS (rfl) (by decide) (by decide) 4 rfl rfl gg_16 (v := .ref (G.1 + (7 + (ix u4)))) (vwR (rfl) (by decide) rfl) dX7_pour_82 ?_
      refine gf0_2 C hS (el12 (a := 5) rfl gg_16) g_74 dX7_pour_83 ?_
      refine lv_icmp_eq (tgt := 92) hx hb dX7_pour_86 (by decide) (fun c_17 => ?_) (fun c_17 => ?_)
      · replace hf := if_p c_17 hf
        exact wX7_pour_h92  C hk32 u2 u3 u4 v_15 x_10 hu2 hf _ _ _ hS (lv_sub hl [1, 2, 3, 4, 0] rfl)
      · replace hf := if_n c_17 hf
        obtain ⟨v_18, ev_18, hf⟩ := st_out hf
        refine lv_iinc (v := v_18) (lv' := [(3, .int v_18), (5, .int v_15), (0, .ref (G.1 + 0)), (2, .ref (G.1 + u2)), (4, .int u4)]) hx hb dX7_pour_89 hl (k := 3) rfl (by rw [ev_18]; rfl) (by decide) rfl (fun ls hl => ?_)
        exact wX7_pour_h92  C hk32 u2 v_18 u4 v_15 x_10 hu2 hf _ _ _ hS (lv_sub hl [2, 3, 0, 4, 1] rfl)
theorem wlX7_pour_h32 {p : Program} {l : Launch} {e : Env} {s : State} {m : MethodId} {args : Array Value} {below : List Frame} {meth : Method} {c : Code} {G : GT} {r : Int32} {z : XS} (C : CX G p s m args meth c cX7_pour 6 (some .int) RX7) (n : Nat) : ∀ (u2 : Nat) (u3 : Int32) (u4 : Int32) (x : XS) (hu2 : tg u2 = 1), lX7_pour_h32 n u2 u3 u4 x = some (r, z) → ∀ (H : Heap) (locs : List Loc) (ls : Array Slot), SR G x H locs → lv_has ls 6 [(0, .ref (G.1 + 0)), (2, .ref (G.1 + u2)), (3, .int u3), (4, .int u4)] → W p l e rmX7_pour s m args below meth c H locs 0 0 (MQ below (QC G (some (.int r)) z) args s 0 0 (AB G)) (F0 m 32 ls []) := by
  induction n with
  | zero => intro u2 u3 u4 x hu2 hf H locs ls hS hl; exact absurd hf (by intro q; cases q)
  | succ n ih => exact wbX7_pour_h32 C ih
theorem wX7_pour_h32 {p : Program} {l : Launch} {e : Env} {s : State} {m : MethodId} {args : Array Value} {below : List Frame} {meth : Method} {c : Code} {G : GT} {r : Int32} {z : XS} (C : CX G p s m args meth c cX7_pour 6 (some .int) RX7) : ∀ (u2 : Nat) (u3 : Int32) (u4 : Int32) (x : XS) (hu2 : tg u2 = 1), fX7_pour_h32 u2 u3 u4 x = some (r, z) → ∀ (H : Heap) (locs : List Loc) (ls : Array Slot), SR G x H locs → lv_has ls 6 [(0, .ref (G.1 + 0)), (2, .ref (G.1 + u2)), (3, .int u3), (4, .int u4)] → W p l e rmX7_pour s m args below meth c H locs 0 0 (MQ below (QC G (some (.int r)) z) args s 0 0 (AB G)) (F0 m 32 ls []) := wlX7_pour_h32 C FU
set_option maxRecDepth 100000 in
set_option maxHeartbeats 4000000 in
theorem cX7_pour_ {G : GT} {l : Launch} {v1 : Int32} {x z : XS} {r : Int32} (hf : fX7_pour v1 x = some (r, z)) : Ct G l yX7_pour (.code yX7_pour cX7_pour 6 (some .int)) rmX7_pour [.ref (G.1 + 0), .int v1] x (some (.int r)) z := by
  refine Ct.of (by decide +kernel) (Nat.le_of_ble_eq_true rfl) ?_
  intro p e s m args below meth c C ls hl hS
  have C : CX G p s m args meth c cX7_pour 6 (some .int) RX7 := C
  have hl : lv_has ls 6 [(0, .ref (G.1 + 0)), (1, .int v1)] := hl
  have hx := C.1
  have hb := C.2.1
  have hown := C.2.2.2.2.2.1
  have hw := C.2.2.2.2.2.2.1
  unfold fX7_pour at hf
  refine lv_iload_n hx hb dX7_pour_0 rfl (lv_at hl 1 rfl) ?_
  obtain ⟨r_1, x_2, qr_1, hf⟩ := bd_out hf
  refine rsI (As := [.int v1]) (rest := []) C hS KX7_isSheet (cX7_isSheet_ qr_1) g_461 ⟨rfl, rfl⟩ ⟨(Nat.le_of_ble_eq_true rfl), (Nat.le_of_ble_eq_true rfl)⟩ hl.1 rfl rfl (Nat.le_of_ble_eq_true rfl) ⟨Nat.zero_le _, Nat.zero_le _⟩ dX7_pour_1 (fun H locs hS => ?_)
  refine lv_if_ne (tgt := 10) hx hb dX7_pour_4 (by decide) (fun c_3 => ?_) (fun c_3 => ?_)
  · replace hf := if_n c_3 hf
    refine lv_aload_n hx hb dX7_pour_10 rfl (lv_at hl 0 rfl) ?_
    refine gf6_5 C hS (rfl) g_231 dX7_pour_11 ?_
    refine lv_iload_n hx hb dX7_pour_14 rfl (lv_at hl 1 rfl) ?_
    obtain ⟨gg_4, hf⟩ := gd_out hf
    refine alV C hS (rfl) (by decide) (by decide) 5 rfl rfl gg_4 (v := .ref (G.1 + (71 + 2 * (ix v1)))) (vwR (rfl) (by decide) rfl) dX7_pour_15 ?_
    refine lv_astore_n (lv' := [(2, .ref (G.1 + (71 + 2 * (ix v1)))), (0, .ref (G.1 + 0)), (1, .int v1)]) hx hb dX7_pour_16 rfl hl (by decide) rfl (fun ls hl => ?_)
    refine lv_aload_n hx hb dX7_pour_17 rfl (lv_at hl 0 rfl) ?_
    obtain ⟨r_5, x_6, qr_5, hf⟩ := bd_out hf
    refine rvI (As := []) (rest := []) C hS (el13 gg_4) rfl KX2_isMissing (cX2_isMissing_ (el13 gg_4) qr_5) g_464 ⟨rfl, rfl⟩ ⟨(Nat.le_of_ble_eq_true rfl), (Nat.le_of_ble_eq_true rfl)⟩ hl.1 rfl rfl (Nat.le_of_ble_eq_true rfl) ⟨Nat.zero_le _, Nat.zero_le _⟩ dX7_pour_18 (fun H locs hS => ?_)
    refine lv_if_eq (tgt := 27) hx hb dX7_pour_21 (by decide) (fun c_7 => ?_) (fun c_7 => ?_)
    · replace hf := if_p c_7 hf
      refine lv_iconst (v := 0) hx hb dX7_pour_27 (by decide) ?_
      refine lv_istore_n (lv' := [(3, .int 0), (2, .ref (G.1 + (71 + 2 * (ix v1)))), (0, .ref (G.1 + 0)), (1, .int v1)]) hx hb dX7_pour_28 rfl hl (by decide) rfl (fun ls hl => ?_)
      refine lv_iconst (v := 0) hx hb dX7_pour_29 (by decide) ?_
      refine lv_istore (lv' := [(4, .int 0), (3, .int 0), (2, .ref (G.1 + (71 + 2 * (ix v1)))), (0, .ref (G.1 + 0)), (1, .int v1)]) hx hb dX7_pour_30 hl (by decide) rfl (fun ls hl => ?_)
      exact wX7_pour_h32  C (71 + 2 * (ix v1)) 0 0 x_6 (el13 gg_4) hf _ _ _ hS (lv_sub hl [3, 2, 1, 0] rfl)
    · replace hf := if_n c_7 hf
      refine lv_ldc (v := (-1000000011)) hx hb hown (hw _ g_468) dX7_pour_24 ?_
      exact rtI C hS hf dX7_pour_26
  · replace hf := if_p c_3 hf
    refine lv_ldc (v := (-1000000001)) hx hb hown (hw _ g_267) dX7_pour_7 ?_
    exact rtI C hS hf dX7_pour_9
abbrev rmX7_reads : Room := { frames := 2, cells := 0, slots := 0, locals := 42 }
set_option maxRecDepth 100000 in
set_option maxHeartbeats 4000000 in
theorem wbX7_reads_h29 {p : Program} {l : Launch} {e : Env} {s : State} {m : MethodId} {args : Array Value} {below : List Frame} {meth : Method} {c : Code} {G : GT} {r : Int32} {z : XS} (C : CX G p s m args meth c cX7_reads 4 (some .int) RX7) {k29 : Nat → Int32 → XS → Option (Int32 × XS)} (hk29 : ∀ (u2 : Nat) (u3 : Int32) (x : XS) (hu2 : tg u2 = 1), k29 u2 u3 x = some (r, z) → ∀ (H : Heap) (locs : List Loc) (ls : Array Slot), SR G x H locs → lv_has ls 4 [(0, .ref (G.1 + 0)), (2, .ref (G.1 + u2)), (3, .int u3)] → W p l e rmX7_reads s m args below meth c H locs 0 0 (MQ below (QC G (some (.int r)) z) args s 0 0 (AB G)) (F0 m 29 ls [])) : ∀ (u2 : Nat) (u3 : Int32) (x : XS) (hu2 : tg u2 = 1), bX7_reads_h29 k29 u2 u3 x = some (r, z) → ∀ (H : Heap) (locs : List Loc) (ls : Array Slot), SR G x H locs → lv_has ls 4 [(0, .ref (G.1 + 0)), (2, .ref (G.1 + u2)), (3, .int u3)] → W p l e rmX7_reads s m args below meth c H locs 0 0 (MQ below (QC G (some (.int r)) z) args s 0 0 (AB G)) (F0 m 29 ls []) := by
  intro u2 u3 x hu2 hf H locs ls hS hl
  have hx := C.1
  have hb := C.2.1
  have hown := C.2.2.2.2.2.1
  have hw := C.2.2.2.2.2.2.1
  unfold bX7_reads_h29 at hf
  refine lv_iload_n hx hb dX7_reads_29 rfl (lv_at hl 2 rfl) ?_
  refine lv_aload_n hx hb dX7_reads_30 rfl (lv_at hl 1 rfl) ?_
  refine gf1_1 C hS hu2 g_190 dX7_reads_31 ?_
  refine lv_icmp_ge (tgt := 82) hx hb dX7_reads_34 (by decide) (fun c_8 => ?_) (fun c_8 => ?_)
  · replace hf := if_p c_8 hf
    refine lv_ldc (v := (-1000000005)) hx hb hown (hw _ g_425) dX7_reads_82 ?_
    exact rtI C hS hf dX7_reads_84
  · replace hf := if_n c_8 hf
    refine lv_aload_n hx hb dX7_reads_37 rfl (lv_at hl 1 rfl) ?_
    refine lv_iload_n hx hb dX7_reads_38 rfl (lv_at hl 2 rfl) ?_
    obtain ⟨r_9, x_10, qr_9, hf⟩ := bd_out hf
    refine rvI (As := [.int u3]) (rest := []) C hS hu2 rfl KX2_hasNumber (cX2_hasNumber_ hu2 qr_9) g_473 ⟨rfl, rfl⟩ ⟨(Nat.le_of_ble_eq_true rfl), (Nat.le_of_ble_eq_true rfl)⟩ hl.1 rfl rfl (Nat.le_of_ble_eq_true rfl) ⟨Nat.zero_le _, Nat.zero_le _⟩ dX7_reads_39 (fun H locs hS => ?_)
    refine lv_if_eq (tgt := 76) hx hb dX7_reads_42 (by decide) (fun c_11 => ?_) (fun c_11 => ?_)
    · replace hf := if_p c_11 hf
      obtain ⟨v_12, ev_12, hf⟩ := st_out hf
      refine lv_iinc (v := v_12) (lv' := [(3, .int v_12), (0, .ref (G.1 + 0)), (2, .ref (G.1 + u2))]) hx hb dX7_reads_76 hl (k := 2) rfl (by rw [ev_12]; rfl) (by decide) rfl (fun ls hl => ?_)
      refine lv_goto (tgt := 29) hx hb dX7_reads_79 (by decide) ?_
      exact hk29 u2 v_12 x_10 hu2 hf _ _ _ hS (lv_sub hl [1, 2, 0] rfl)
    · replace hf := if_n c_11 hf
      refine lv_aload_n hx hb dX7_reads_45 rfl (lv_at hl 0 rfl) ?_
      refine lv_iload_n hx hb dX7_reads_46 rfl (lv_at hl 2 rfl) ?_
      obtain ⟨r_13, x_14, qr_13, hf⟩ := bd_out hf
      refine rvI (As := [.int u3]) (rest := []) C hS (rfl) rfl KX7_isBoy (cX7_isBoy_ qr_13) g_281 ⟨rfl, rfl⟩ ⟨(Nat.le_of_ble_eq_true rfl), (Nat.le_of_ble_eq_true rfl)⟩ hl.1 rfl rfl (Nat.le_of_ble_eq_true rfl) ⟨Nat.zero_le _, Nat.zero_le _⟩ dX7_reads_47 (fun H locs hS => ?_)
      refine lv_if_eq (tgt := 74) hx hb dX7_reads_50 (by decide) (fun c_15 => ?_) (fun c_15 => ?_)
      · replace hf := if_p c_15 hf
        refine lv_iload_n hx hb dX7_reads_74 rfl (lv_at hl 2 rfl) ?_
        exact rtI C hS hf dX7_reads_75
      · replace hf := if_n c_15 hf
        refine lv_aload_n hx hb dX7_reads_53 rfl (lv_at hl 1 rfl) ?_
        refine gf1_2 C hS hu2 g_192 dX7_reads_54 ?_
        refine lv_iload_n hx hb dX7_reads_57 rfl (lv_at hl 2 rfl) ?_
        obtain ⟨gg_16, hf⟩ := gd_out hf
        refine alI C hS (sh_p hu2) (sh_n hu2) gg_16 dX7_reads_58 ?_
        refine lv_aload_n hx hb dX7_reads_59 rfl (lv_at hl 0 rfl) ?_
        refine gf6_2 C hS (rfl) g_228 dX7_reads_60 ?_
        refine gf3_0 C hS (rfl) g_102 dX7_reads_63 ?_
        refine lv_iload_n hx hb dX7_reads_66 rfl (lv_at hl 2 rfl) ?_
        obtain ⟨gg_17, hf⟩ := gd_out hf
        refine alV C hS (rfl) (by decide) (by decide) 4 rfl rfl gg_17 (v := .ref (G.1 + (7 + (ix u3)))) (vwR (rfl) (by decide) rfl) dX7_reads_67 ?_
        refine gf0_4 C hS (el12 (a := 5) rfl gg_17) g_80 dX7_reads_68 ?_
        refine lv_icmp_eq (tgt := 76) hx hb dX7_reads_71 (by decide) (fun c_18 => ?_) (fun c_18 => ?_)
        · replace hf := if_p c_18 hf
          obtain ⟨v_19, ev_19, hf⟩ := st_out hf
          refine lv_iinc (v := v_19) (lv' := [(3, .int v_19), (0, .ref (G.1 + 0)), (2, .ref (G.1 + u2))]) hx hb dX7_reads_76 hl (k := 2) rfl (by rw [ev_19]; rfl) (by decide) rfl (fun ls hl => ?_)
          refine lv_goto (tgt := 29) hx hb dX7_reads_79 (by decide) ?_
          exact hk29 u2 v_19 x_14 hu2 hf _ _ _ hS (lv_sub hl [1, 2, 0] rfl)
        · replace hf := if_n c_18 hf
          refine lv_iload_n hx hb dX7_reads_74 rfl (lv_at hl 2 rfl) ?_
          exact rtI C hS hf dX7_reads_75
theorem wlX7_reads_h29 {p : Program} {l : Launch} {e : Env} {s : State} {m : MethodId} {args : Array Value} {below : List Frame} {meth : Method} {c : Code} {G : GT} {r : Int32} {z : XS} (C : CX G p s m args meth c cX7_reads 4 (some .int) RX7) (n : Nat) : ∀ (u2 : Nat) (u3 : Int32) (x : XS) (hu2 : tg u2 = 1), lX7_reads_h29 n u2 u3 x = some (r, z) → ∀ (H : Heap) (locs : List Loc) (ls : Array Slot), SR G x H locs → lv_has ls 4 [(0, .ref (G.1 + 0)), (2, .ref (G.1 + u2)), (3, .int u3)] → W p l e rmX7_reads s m args below meth c H locs 0 0 (MQ below (QC G (some (.int r)) z) args s 0 0 (AB G)) (F0 m 29 ls []) := by
  induction n with
  | zero => intro u2 u3 x hu2 hf H locs ls hS hl; exact absurd hf (by intro q; cases q)
  | succ n ih => exact wbX7_reads_h29 C ih
theorem wX7_reads_h29 {p : Program} {l : Launch} {e : Env} {s : State} {m : MethodId} {args : Array Value} {below : List Frame} {meth : Method} {c : Code} {G : GT} {r : Int32} {z : XS} (C : CX G p s m args meth c cX7_reads 4 (some .int) RX7) : ∀ (u2 : Nat) (u3 : Int32) (x : XS) (hu2 : tg u2 = 1), fX7_reads_h29 u2 u3 x = some (r, z) → ∀ (H : Heap) (locs : List Loc) (ls : Array Slot), SR G x H locs → lv_has ls 4 [(0, .ref (G.1 + 0)), (2, .ref (G.1 + u2)), (3, .int u3)] → W p l e rmX7_reads s m args below meth c H locs 0 0 (MQ below (QC G (some (.int r)) z) args s 0 0 (AB G)) (F0 m 29 ls []) := wlX7_reads_h29 C FU
set_option maxRecDepth 100000 in
set_option maxHeartbeats 4000000 in
theorem cX7_reads_ {G : GT} {l : Launch} {v1 : Int32} {x z : XS} {r : Int32} (hf : fX7_reads v1 x = some (r, z)) : Ct G l yX7_reads (.code yX7_reads cX7_reads 4 (some .int)) rmX7_reads [.ref (G.1 + 0), .int v1] x (some (.int r)) z := by
  refine Ct.of (by decide +kernel) (Nat.le_of_ble_eq_true rfl) ?_
  intro p e s m args below meth c C ls hl hS
  have C : CX G p s m args meth c cX7_reads 4 (some .int) RX7 := C
  have hl : lv_has ls 4 [(0, .ref (G.1 + 0)), (1, .int v1)] := hl
  have hx := C.1
  have hb := C.2.1
  have hown := C.2.2.2.2.2.1
  have hw := C.2.2.2.2.2.2.1
  unfold fX7_reads at hf
  refine lv_iload_n hx hb dX7_reads_0 rfl (lv_at hl 1 rfl) ?_
  obtain ⟨r_1, x_2, qr_1, hf⟩ := bd_out hf
  refine rsI (As := [.int v1]) (rest := []) C hS KX7_isSheet (cX7_isSheet_ qr_1) g_461 ⟨rfl, rfl⟩ ⟨(Nat.le_of_ble_eq_true rfl), (Nat.le_of_ble_eq_true rfl)⟩ hl.1 rfl rfl (Nat.le_of_ble_eq_true rfl) ⟨Nat.zero_le _, Nat.zero_le _⟩ dX7_reads_1 (fun H locs hS => ?_)
  refine lv_if_ne (tgt := 10) hx hb dX7_reads_4 (by decide) (fun c_3 => ?_) (fun c_3 => ?_)
  · replace hf := if_n c_3 hf
    refine lv_aload_n hx hb dX7_reads_10 rfl (lv_at hl 0 rfl) ?_
    refine gf6_5 C hS (rfl) g_231 dX7_reads_11 ?_
    refine lv_iload_n hx hb dX7_reads_14 rfl (lv_at hl 1 rfl) ?_
    obtain ⟨gg_4, hf⟩ := gd_out hf
    refine alV C hS (rfl) (by decide) (by decide) 5 rfl rfl gg_4 (v := .ref (G.1 + (71 + 2 * (ix v1)))) (vwR (rfl) (by decide) rfl) dX7_reads_15 ?_
    refine lv_astore_n (lv' := [(2, .ref (G.1 + (71 + 2 * (ix v1)))), (0, .ref (G.1 + 0)), (1, .int v1)]) hx hb dX7_reads_16 rfl hl (by decide) rfl (fun ls hl => ?_)
    refine lv_aload_n hx hb dX7_reads_17 rfl (lv_at hl 0 rfl) ?_
    obtain ⟨r_5, x_6, qr_5, hf⟩ := bd_out hf
    refine rvI (As := []) (rest := []) C hS (el13 gg_4) rfl KX2_isMissing (cX2_isMissing_ (el13 gg_4) qr_5) g_464 ⟨rfl, rfl⟩ ⟨(Nat.le_of_ble_eq_true rfl), (Nat.le_of_ble_eq_true rfl)⟩ hl.1 rfl rfl (Nat.le_of_ble_eq_true rfl) ⟨Nat.zero_le _, Nat.zero_le _⟩ dX7_reads_18 (fun H locs hS => ?_)
    refine lv_if_eq (tgt := 27) hx hb dX7_reads_21 (by decide) (fun c_7 => ?_) (fun c_7 => ?_)
    · replace hf := if_p c_7 hf
      refine lv_iconst (v := 0) hx hb dX7_reads_27 (by decide) ?_
      refine lv_istore_n (lv' := [(3, .int 0), (2, .ref (G.1 + (71 + 2 * (ix v1)))), (0, .ref (G.1 + 0)), (1, .int v1)]) hx hb dX7_reads_28 rfl hl (by decide) rfl (fun ls hl => ?_)
      exact wX7_reads_h29  C (71 + 2 * (ix v1)) 0 x_6 (el13 gg_4) hf _ _ _ hS (lv_sub hl [2, 1, 0] rfl)
    · replace hf := if_n c_7 hf
      refine lv_ldc (v := (-1000000011)) hx hb hown (hw _ g_468) dX7_reads_24 ?_
      exact rtI C hS hf dX7_reads_26
  · replace hf := if_p c_3 hf
    refine lv_ldc (v := (-1000000001)) hx hb hown (hw _ g_267) dX7_reads_7 ?_
    exact rtI C hS hf dX7_reads_9
abbrev rmX7_copy : Room := { frames := 1, cells := 0, slots := 0, locals := 60 }
set_option maxRecDepth 100000 in
set_option maxHeartbeats 4000000 in
theorem cX7_copy_ {G : GT} {l : Launch} {v1 : Int32} {v2 : Int32} {v3 : Int32} {v4 : Int32} {v5 : Int32} {x z : XS} {r : Int32} (hf : fX7_copy v1 v2 v3 v4 v5 x = some (r, z)) : Ct G l yX7_copy (.code yX7_copy cX7_copy 8 (some .int)) rmX7_copy [.ref (G.1 + 0), .int v1, .int v2, .int v3, .int v4, .int v5] x (some (.int r)) z := by
  refine Ct.of (by decide +kernel) (Nat.le_of_ble_eq_true rfl) ?_
  intro p e s m args below meth c C ls hl hS
  have C : CX G p s m args meth c cX7_copy 8 (some .int) RX7 := C
  have hl : lv_has ls 8 [(0, .ref (G.1 + 0)), (1, .int v1), (2, .int v2), (3, .int v3), (4, .int v4), (5, .int v5)] := hl
  have hx := C.1
  have hb := C.2.1
  have hown := C.2.2.2.2.2.1
  have hw := C.2.2.2.2.2.2.1
  unfold fX7_copy at hf
  refine lv_iload_n hx hb dX7_copy_0 rfl (lv_at hl 1 rfl) ?_
  obtain ⟨r_1, x_2, qr_1, hf⟩ := bd_out hf
  refine rsI (As := [.int v1]) (rest := []) C hS KX7_isSheet (cX7_isSheet_ qr_1) g_461 ⟨rfl, rfl⟩ ⟨(Nat.le_of_ble_eq_true rfl), (Nat.le_of_ble_eq_true rfl)⟩ hl.1 rfl rfl (Nat.le_of_ble_eq_true rfl) ⟨Nat.zero_le _, Nat.zero_le _⟩ dX7_copy_1 (fun H locs hS => ?_)
  refine lv_if_eq (tgt := 14) hx hb dX7_copy_4 (by decide) (fun c_3 => ?_) (fun c_3 => ?_)
  · replace hf := if_p c_3 hf
    refine lv_ldc (v := (-1000000001)) hx hb hown (hw _ g_267) dX7_copy_14 ?_
    exact rtI C hS hf dX7_copy_16
  · replace hf := if_n c_3 hf
    refine lv_iload_n hx hb dX7_copy_7 rfl (lv_at hl 3 rfl) ?_
    obtain ⟨r_4, x_5, qr_4, hf⟩ := bd_out hf
    refine rsI (As := [.int v3]) (rest := []) C hS KX7_isSheet (cX7_isSheet_ qr_4) g_461 ⟨rfl, rfl⟩ ⟨(Nat.le_of_ble_eq_true rfl), (Nat.le_of_ble_eq_true rfl)⟩ hl.1 rfl rfl (Nat.le_of_ble_eq_true rfl) ⟨Nat.zero_le _, Nat.zero_le _⟩ dX7_copy_8 (fun H locs hS => ?_)
    refine lv_if_ne (tgt := 17) hx hb dX7_copy_11 (by decide) (fun c_6 => ?_) (fun c_6 => ?_)
    · replace hf := if_n c_6 hf
      refine lv_aload_n hx hb dX7_copy_17 rfl (lv_at hl 0 rfl) ?_
      refine gf6_5 C hS (rfl) g_231 dX7_copy_18 ?_
      refine lv_iload_n hx hb dX7_copy_21 rfl (lv_at hl 1 rfl) ?_
      obtain ⟨gg_7, hf⟩ := gd_out hf
      refine alV C hS (rfl) (by decide) (by decide) 5 rfl rfl gg_7 (v := .ref (G.1 + (71 + 2 * (ix v1)))) (vwR (rfl) (by decide) rfl) dX7_copy_22 ?_
      refine lv_astore (lv' := [(6, .ref (G.1 + (71 + 2 * (ix v1)))), (0, .ref (G.1 + 0)), (1, .int v1), (2, .int v2), (3, .int v3), (4, .int v4), (5, .int v5)]) hx hb dX7_copy_23 hl (by decide) rfl (fun ls hl => ?_)
      refine lv_aload_n hx hb dX7_copy_25 rfl (lv_at hl 1 rfl) ?_
      refine gf6_5 C hS (rfl) g_231 dX7_copy_26 ?_
      refine lv_iload_n hx hb dX7_copy_29 rfl (lv_at hl 4 rfl) ?_
      obtain ⟨gg_8, hf⟩ := gd_out hf
      refine alV C hS (rfl) (by decide) (by decide) 5 rfl rfl gg_8 (v := .ref (G.1 + (71 + 2 * (ix v3)))) (vwR (rfl) (by decide) rfl) dX7_copy_30 ?_
      refine lv_astore (lv' := [(7, .ref (G.1 + (71 + 2 * (ix v3)))), (6, .ref (G.1 + (71 + 2 * (ix v1)))), (0, .ref (G.1 + 0)), (1, .int v1), (2, .int v2), (3, .int v3), (4, .int v4), (5, .int v5)]) hx hb dX7_copy_31 hl (by decide) rfl (fun ls hl => ?_)
      refine lv_aload hx hb dX7_copy_33 (lv_at hl 1 rfl) ?_
      obtain ⟨r_9, x_10, qr_9, hf⟩ := bd_out hf
      refine rvI (As := []) (rest := []) C hS (el13 gg_7) rfl KX2_isMissing (cX2_isMissing_ (el13 gg_7) qr_9) g_464 ⟨rfl, rfl⟩ ⟨(Nat.le_of_ble_eq_true rfl), (Nat.le_of_ble_eq_true rfl)⟩ hl.1 rfl rfl (Nat.le_of_ble_eq_true rfl) ⟨Nat.zero_le _, Nat.zero_le _⟩ dX7_copy_35 (fun H locs hS => ?_)
      refine lv_if_ne (tgt := 49) hx hb dX7_copy_38 (by decide) (fun c_11 => ?_) (fun c_11 => ?_)
      · replace hf := if_n c_11 hf
        refine lv_ldc (v := (-1000000011)) hx hb hown (hw _ g_468) dX7_copy_49 ?_
        exact rtI C hS hf dX7_copy_51
      · replace hf := if_p c_11 hf
        refine lv_aload hx hb dX7_copy_41 (lv_at hl 0 rfl) ?_
        obtain ⟨r_12, x_13, qr_12, hf⟩ := bd_out hf
        refine rvI (As := []) (rest := []) C hS (el13 gg_8) rfl KX2_isMissing (cX2_isMissing_ (el13 gg_8) qr_12) g_464 ⟨rfl, rfl⟩ ⟨(Nat.le_of_ble_eq_true rfl), (Nat.le_of_ble_eq_true rfl)⟩ hl.1 rfl rfl (Nat.le_of_ble_eq_true rfl) ⟨Nat.zero_le _, Nat.zero_le _⟩ dX7_copy_43 (fun H locs hS => ?_)
        refine lv_if_eq (tgt := 52) hx hb dX7_copy_46 (by decide) (fun c_14 => ?_) (fun c_14 => ?_)
        · replace hf := if_p c_14 hf
          refine lv_aload hx hb dX7_copy_52 (lv_at hl 1 rfl) ?_
          refine gf1_0 C hS (el13 gg_7) g_188 dX7_copy_54 ?_
          refine lv_aload hx hb dX7_copy_57 (lv_at hl 0 rfl) ?_
          refine gf1_0 C hS (el13 gg_8) g_188 dX7_copy_59 ?_
          refine lv_icmp_eq (tgt := 68) hx hb dX7_copy_62 (by decide) (fun c_15 => ?_) (fun c_15 => ?_)
          · replace hf := if_p c_15 hf
            refine lv_aload hx hb dX7_copy_68 (lv_at hl 1 rfl) ?_
            refine lv_iload_n hx hb dX7_copy_70 rfl (lv_at hl 4 rfl) ?_
            refine lv_iload hx hb dX7_copy_71 (lv_at hl 7 rfl) ?_
            obtain ⟨r_16, x_17, qr_16, hf⟩ := bd_out hf
            refine rvI (As := [.int v2, .int v5]) (rest := []) C hS (el13 gg_7) rfl KX2_hasPlaces (cX2_hasPlaces_ (el13 gg_7) qr_16) g_734 ⟨rfl, rfl⟩ ⟨(Nat.le_of_ble_eq_true rfl), (Nat.le_of_ble_eq_true rfl)⟩ hl.1 rfl rfl (Nat.le_of_ble_eq_true rfl) ⟨Nat.zero_le _, Nat.zero_le _⟩ dX7_copy_73 (fun H locs hS => ?_)
            refine lv_if_eq (tgt := 91) hx hb dX7_copy_76 (by decide) (fun c_18 => ?_) (fun c_18 => ?_)
            · replace hf := if_p c_18 hf
              refine lv_ldc (v := (-1000000013)) hx hb hown (hw _ g_718) dX7_copy_91 ?_
              exact rtI C hS hf dX7_copy_93
            · replace hf := if_n c_18 hf
              refine lv_aload hx hb dX7_copy_79 (lv_at hl 0 rfl) ?_
              refine lv_iload hx hb dX7_copy_81 (lv_at hl 6 rfl) ?_
              refine lv_iload hx hb dX7_copy_83 (lv_at hl 7 rfl) ?_
              obtain ⟨r_19, x_20, qr_19, hf⟩ := bd_out hf
              refine rvI (As := [.int v4, .int v5]) (rest := []) C hS (el13 gg_8) rfl KX2_hasPlaces (cX2_hasPlaces_ (el13 gg_8) qr_19) g_734 ⟨rfl, rfl⟩ ⟨(Nat.le_of_ble_eq_true rfl), (Nat.le_of_ble_eq_true rfl)⟩ hl.1 rfl rfl (Nat.le_of_ble_eq_true rfl) ⟨Nat.zero_le _, Nat.zero_le _⟩ dX7_copy_85 (fun H locs hS => ?_)
              refine lv_if_ne (tgt := 94) hx hb dX7_copy_88 (by decide) (fun c_21 => ?_) (fun c_21 => ?_)
              · replace hf := if_n c_21 hf
                refine lv_aload hx hb dX7_copy_94 (lv_at hl 1 rfl) ?_
                refine gf1_2 C hS (el13 gg_7) g_192 dX7_copy_96 ?_
                refine lv_iload_n hx hb dX7_copy_99 rfl (lv_at hl 4 rfl) ?_
                refine lv_aload hx hb dX7_copy_100 (lv_at hl 0 rfl) ?_
                refine gf1_2 C hS (el13 gg_8) g_192 dX7_copy_102 ?_
                refine lv_iload hx hb dX7_copy_105 (lv_at hl 6 rfl) ?_
                refine lv_iload hx hb dX7_copy_107 (lv_at hl 7 rfl) ?_
                obtain ⟨gg_22, hf⟩ := gd_out hf
                obtain ⟨x_23, ex_23, hf⟩ := st_out hf
                refine acp C hS (sh_p (el13 gg_7)) (sh_n (el13 gg_7)) (sh_p (el13 gg_8)) (sh_n (el13 gg_8)) gg_22 g_738 g_740 g_739 g_16 ex_23 hl.1 (Nat.le_of_ble_eq_true rfl) (by decide) dX7_copy_109 (fun H locs hS => ?_)
                refine lv_iload hx hb dX7_copy_112 (lv_at hl 7 rfl) ?_
                exact rtI C hS hf dX7_copy_114
              · replace hf := if_p c_21 hf
                refine lv_ldc (v := (-1000000013)) hx hb hown (hw _ g_718) dX7_copy_91 ?_
                exact rtI C hS hf dX7_copy_93
          · replace hf := if_n c_15 hf
            refine lv_ldc (v := (-1000000012)) hx hb hown (hw _ g_339) dX7_copy_65 ?_
            exact rtI C hS hf dX7_copy_67
        · replace hf := if_n c_14 hf
          refine lv_ldc (v := (-1000000011)) hx hb hown (hw _ g_468) dX7_copy_49 ?_
          exact rtI C hS hf dX7_copy_51
    · replace hf := if_p c_6 hf
      refine lv_ldc (v := (-1000000001)) hx hb hown (hw _ g_267) dX7_copy_14 ?_
      exact rtI C hS hf dX7_copy_16
abbrev rmX7_isSlot : Room := { frames := 0, cells := 0, slots := 0, locals := 0 }
set_option maxRecDepth 100000 in
set_option maxHeartbeats 4000000 in
theorem cX7_isSlot_ {G : GT} {l : Launch} {v0 : Int32} {x z : XS} {r : Int32} (hf : fX7_isSlot v0 x = some (r, z)) : Ct G l yX7_isSlot (.code yX7_isSlot cX7_isSlot 1 (some .boolean)) rmX7_isSlot [.int v0] x (some (.int r)) z := by
  refine Ct.of (by decide +kernel) (Nat.le_of_ble_eq_true rfl) ?_
  intro p e s m args below meth c C ls hl hS
  have C : CX G p s m args meth c cX7_isSlot 1 (some .boolean) RX7 := C
  have hl : lv_has ls 1 [(0, .int v0)] := hl
  have hx := C.1
  have hb := C.2.1
  have hown := C.2.2.2.2.2.1
  have hw := C.2.2.2.2.2.2.1
  unfold fX7_isSlot at hf
  refine lv_iload_n hx hb dX7_isSlot_0 rfl (lv_at hl 0 rfl) ?_
  refine lv_if_lt (tgt := 13) hx hb dX7_isSlot_1 (by decide) (fun c_1 => ?_) (fun c_1 => ?_)
  · replace hf := if_p c_1 hf
    refine lv_iconst (v := 0) hx hb dX7_isSlot_13 (by decide) ?_
    exact rtZ C hS rfl hf dX7_isSlot_14
  · replace hf := if_n c_1 hf
    refine lv_iload_n hx hb dX7_isSlot_4 rfl (lv_at hl 0 rfl) ?_
    refine lv_iconst (v := 5) hx hb dX7_isSlot_5 (by decide) ?_
    refine lv_icmp_ge (tgt := 13) hx hb dX7_isSlot_6 (by decide) (fun c_2 => ?_) (fun c_2 => ?_)
    · replace hf := if_p c_2 hf
      refine lv_iconst (v := 0) hx hb dX7_isSlot_13 (by decide) ?_
      exact rtZ C hS rfl hf dX7_isSlot_14
    · replace hf := if_n c_2 hf
      refine lv_iconst (v := 1) hx hb dX7_isSlot_9 (by decide) ?_
      refine lv_goto (tgt := 14) hx hb dX7_isSlot_10 (by decide) ?_
      exact rtZ C hS rfl hf dX7_isSlot_14
abbrev rmX7_lay : Room := { frames := 2, cells := 0, slots := 0, locals := 81 }
set_option maxRecDepth 100000 in
set_option maxHeartbeats 4000000 in
theorem wX7_lay_h67 {p : Program} {l : Launch} {e : Env} {s : State} {m : MethodId} {args : Array Value} {below : List Frame} {meth : Method} {c : Code} {G : GT} {r : Int32} {z : XS} (C : CX G p s m args meth c cX7_lay 6 (some .int) RX7) : ∀ (u1 : Int32) (u2 : Int32) (u3 : Int32) (x : XS), fX7_lay_h67 u1 u2 u3 x = some (r, z) → ∀ (H : Heap) (locs : List Loc) (ls : Array Slot), SR G x H locs → lv_has ls 6 [(0, .ref (G.1 + 0)), (1, .int u1), (2, .int u2), (3, .int u3)] → W p l e rmX7_lay s m args below meth c H locs 0 0 (MQ below (QC G (some (.int r)) z) args s 0 0 (AB G)) (F0 m 67 ls []) := by
  intro u1 u2 u3 x hf H locs ls hS hl
  have hx := C.1
  have hb := C.2.1
  have hown := C.2.2.2.2.2.1
  have hw := C.2.2.2.2.2.2.1
  unfold fX7_lay_h67 at hf
  refine lv_aload_n hx hb dX7_lay_67 rfl (lv_at hl 0 rfl) ?_
  refine gf6_6 C hS (rfl) g_232 dX7_lay_68 ?_
  refine lv_iload_n hx hb dX7_lay_71 rfl (lv_at hl 1 rfl) ?_
  obtain ⟨gg_19, hf⟩ := gd_out hf
  refine alV C hS (rfl) (by decide) (by decide) 6 rfl rfl gg_19 (v := .ref (G.1 + (79 + 4 * (ix u1)))) (vwR (rfl) (by decide) rfl) dX7_lay_72 ?_
  refine lv_astore (lv' := [(4, .ref (G.1 + (79 + 4 * (ix u1)))), (0, .ref (G.1 + 0)), (1, .int u1), (2, .int u2), (3, .int u3)]) hx hb dX7_lay_73 hl (by decide) rfl (fun ls hl => ?_)
  refine lv_aload hx hb dX7_lay_75 (lv_at hl 0 rfl) ?_
  refine gf2_0 C hS (el14 gg_19) g_210 dX7_lay_77 ?_
  obtain ⟨v_20, ev_20, hf⟩ := st_out hf
  refine topI ev_20 ?_
  refine lv_istore (lv' := [(5, .int v_20), (4, .ref (G.1 + (79 + 4 * (ix u1)))), (0, .ref (G.1 + 0)), (1, .int u1), (2, .int u2), (3, .int u3)]) hx hb dX7_lay_80 hl (by decide) rfl (fun ls hl => ?_)
  refine lv_aload hx hb dX7_lay_82 (lv_at hl 1 rfl) ?_
  refine lv_iload_n hx hb dX7_lay_84 rfl (lv_at hl 4 rfl) ?_
  obtain ⟨x_21, ex_21, hf⟩ := st_out hf
  refine pf2_0 C hS (el14 gg_19) g_210 ex_21 dX7_lay_85 (fun H locs hS => ?_)
  refine lv_iload_n hx hb dX7_lay_88 rfl (lv_at hl 4 rfl) ?_
  refine lv_iconst (v := 1) hx hb dX7_lay_89 (by decide) ?_
  refine lv_icmp_ne (tgt := 113) hx hb dX7_lay_90 (by decide) (fun c_22 => ?_) (fun c_22 => ?_)
  · replace hf := if_n c_22 hf
    refine lv_iload_n hx hb dX7_lay_113 rfl (lv_at hl 4 rfl) ?_
    refine lv_iconst (v := 2) hx hb dX7_lay_114 (by decide) ?_
    refine lv_icmp_ne (tgt := 135) hx hb dX7_lay_115 (by decide) (fun c_23 => ?_) (fun c_23 => ?_)
    · replace hf := if_n c_23 hf
      refine lv_iload_n hx hb dX7_lay_135 rfl (lv_at hl 4 rfl) ?_
      refine lv_iconst (v := 3) hx hb dX7_lay_136 (by decide) ?_
      refine lv_icmp_ne (tgt := 146) hx hb dX7_lay_137 (by decide) (fun c_24 => ?_) (fun c_24 => ?_)
      · replace hf := if_n c_24 hf
        refine lv_iload hx hb dX7_lay_146 (lv_at hl 0 rfl) ?_
        exact rtI C hS hf dX7_lay_148
      · replace hf := if_p c_24 hf
        refine lv_aload hx hb dX7_lay_140 (lv_at hl 1 rfl) ?_
        refine lv_iload_n hx hb dX7_lay_142 rfl (lv_at hl 5 rfl) ?_
        obtain ⟨x_25, ex_25, hf⟩ := st_out hf
        refine pf2_1 C hS (el14 gg_19) g_212 ex_25 dX7_lay_143 (fun H locs hS => ?_)
        refine lv_iload hx hb dX7_lay_146 (lv_at hl 0 rfl) ?_
        exact rtI C hS hf dX7_lay_148
    · replace hf := if_p c_23 hf
      refine lv_aload hx hb dX7_lay_118 (lv_at hl 1 rfl) ?_
      refine gf2_3 C hS (el14 gg_19) g_216 dX7_lay_120 ?_
      refine lv_aload_n hx hb dX7_lay_123 rfl (lv_at hl 2 rfl) ?_
      refine gf6_5 C hS (rfl) g_231 dX7_lay_124 ?_
      refine lv_iload_n hx hb dX7_lay_127 rfl (lv_at hl 5 rfl) ?_
      obtain ⟨gg_26, hf⟩ := gd_out hf
      refine alV C hS (rfl) (by decide) (by decide) 5 rfl rfl gg_26 (v := .ref (G.1 + (71 + 2 * (ix u3)))) (vwR (rfl) (by decide) rfl) dX7_lay_128 ?_
      obtain ⟨r_27, x_28, qr_27, hf⟩ := bd_out hf
      refine rvV (As := [.ref (G.1 + (71 + 2 * (ix u3)))]) (rest := []) C hS (sl_s (el14 gg_19)) rfl KX2_become (cX2_become_ (sl_s (el14 gg_19)) (el13 gg_26) qr_27) g_749 ⟨rfl, rfl⟩ ⟨(Nat.le_of_ble_eq_true rfl), (Nat.le_of_ble_eq_true rfl)⟩ hl.1 rfl rfl (Nat.le_of_ble_eq_true rfl) ⟨Nat.zero_le _, Nat.zero_le _⟩ dX7_lay_129 (fun H locs hS => ?_)
      refine lv_goto (tgt := 146) hx hb dX7_lay_132 (by decide) ?_
      refine lv_iload hx hb dX7_lay_146 (lv_at hl 0 rfl) ?_
      exact rtI C hS hf dX7_lay_148
  · replace hf := if_p c_22 hf
    refine lv_aload hx hb dX7_lay_93 (lv_at hl 1 rfl) ?_
    refine gf2_2 C hS (el14 gg_19) g_214 dX7_lay_95 ?_
    refine lv_aload_n hx hb dX7_lay_98 rfl (lv_at hl 2 rfl) ?_
    refine gf6_2 C hS (rfl) g_228 dX7_lay_99 ?_
    refine gf3_0 C hS (rfl) g_102 dX7_lay_102 ?_
    refine lv_iload_n hx hb dX7_lay_105 rfl (lv_at hl 5 rfl) ?_
    obtain ⟨gg_29, hf⟩ := gd_out hf
    refine alV C hS (rfl) (by decide) (by decide) 4 rfl rfl gg_29 (v := .ref (G.1 + (7 + (ix u3)))) (vwR (rfl) (by decide) rfl) dX7_lay_106 ?_
    obtain ⟨r_30, x_31, qr_30, hf⟩ := bd_out hf
    refine rvV (As := [.ref (G.1 + (7 + (ix u3)))]) (rest := []) C hS (sl_b (el14 gg_19)) rfl KX0_become (cX0_become_ (sl_b (el14 gg_19)) (el12 (a := 5) rfl gg_29) qr_30) g_748 ⟨rfl, rfl⟩ ⟨(Nat.le_of_ble_eq_true rfl), (Nat.le_of_ble_eq_true rfl)⟩ hl.1 rfl rfl (Nat.le_of_ble_eq_true rfl) ⟨Nat.zero_le _, Nat.zero_le _⟩ dX7_lay_107 (fun H locs hS => ?_)
    refine lv_goto (tgt := 146) hx hb dX7_lay_110 (by decide) ?_
    refine lv_iload hx hb dX7_lay_146 (lv_at hl 0 rfl) ?_
    exact rtI C hS hf dX7_lay_148
set_option maxRecDepth 100000 in
set_option maxHeartbeats 4000000 in
theorem wX7_lay_h47 {p : Program} {l : Launch} {e : Env} {s : State} {m : MethodId} {args : Array Value} {below : List Frame} {meth : Method} {c : Code} {G : GT} {r : Int32} {z : XS} (C : CX G p s m args meth c cX7_lay 6 (some .int) RX7) : ∀ (u1 : Int32) (u2 : Int32) (u3 : Int32) (x : XS), fX7_lay_h47 u1 u2 u3 x = some (r, z) → ∀ (H : Heap) (locs : List Loc) (ls : Array Slot), SR G x H locs → lv_has ls 6 [(0, .ref (G.1 + 0)), (1, .int u1), (2, .int u2), (3, .int u3)] → W p l e rmX7_lay s m args below meth c H locs 0 0 (MQ below (QC G (some (.int r)) z) args s 0 0 (AB G)) (F0 m 47 ls []) := by
  intro u1 u2 u3 x hf H locs ls hS hl
  have hx := C.1
  have hb := C.2.1
  have hown := C.2.2.2.2.2.1
  have hw := C.2.2.2.2.2.2.1
  unfold fX7_lay_h47 at hf
  refine lv_iload_n hx hb dX7_lay_47 rfl (lv_at hl 2 rfl) ?_
  refine lv_iconst (v := 2) hx hb dX7_lay_48 (by decide) ?_
  refine lv_icmp_ne (tgt := 67) hx hb dX7_lay_49 (by decide) (fun c_14 => ?_) (fun c_14 => ?_)
  · replace hf := if_n c_14 hf
    exact wX7_lay_h67  C u1 u2 u3 x hf _ _ _ hS (lv_sub hl [0, 1, 2, 3] rfl)
  · replace hf := if_p c_14 hf
    refine lv_aload_n hx hb dX7_lay_52 rfl (lv_at hl 0 rfl) ?_
    refine gf6_5 C hS (rfl) g_231 dX7_lay_53 ?_
    refine lv_iload_n hx hb dX7_lay_56 rfl (lv_at hl 3 rfl) ?_
    obtain ⟨gg_15, hf⟩ := gd_out hf
    refine alV C hS (rfl) (by decide) (by decide) 5 rfl rfl gg_15 (v := .ref (G.1 + (71 + 2 * (ix u3)))) (vwR (rfl) (by decide) rfl) dX7_lay_57 ?_
    obtain ⟨r_16, x_17, qr_16, hf⟩ := bd_out hf
    refine rvI (As := []) (rest := []) C hS (el13 gg_15) rfl KX2_isMissing (cX2_isMissing_ (el13 gg_15) qr_16) g_464 ⟨rfl, rfl⟩ ⟨(Nat.le_of_ble_eq_true rfl), (Nat.le_of_ble_eq_true rfl)⟩ hl.1 rfl rfl (Nat.le_of_ble_eq_true rfl) ⟨Nat.zero_le _, Nat.zero_le _⟩ dX7_lay_58 (fun H locs hS => ?_)
    refine lv_if_eq (tgt := 67) hx hb dX7_lay_61 (by decide) (fun c_18 => ?_) (fun c_18 => ?_)
    · replace hf := if_p c_18 hf
      exact wX7_lay_h67  C u1 u2 u3 x_17 hf _ _ _ hS (lv_sub hl [0, 1, 2, 3] rfl)
    · replace hf := if_n c_18 hf
      refine lv_ldc (v := (-1000000011)) hx hb hown (hw _ g_468) dX7_lay_64 ?_
      exact rtI C hS hf dX7_lay_66
set_option maxRecDepth 100000 in
set_option maxHeartbeats 4000000 in
theorem wX7_lay_h32 {p : Program} {l : Launch} {e : Env} {s : State} {m : MethodId} {args : Array Value} {below : List Frame} {meth : Method} {c : Code} {G : GT} {r : Int32} {z : XS} (C : CX G p s m args meth c cX7_lay 6 (some .int) RX7) : ∀ (u1 : Int32) (u2 : Int32) (u3 : Int32) (x : XS), fX7_lay_h32 u1 u2 u3 x = some (r, z) → ∀ (H : Heap) (locs : List Loc) (ls : Array Slot), SR G x H locs → lv_has ls 6 [(0, .ref (G.1 + 0)), (1, .int u1), (2, .int u2), (3, .int u3)] → W p l e rmX7_lay s m args below meth c H locs 0 0 (MQ below (QC G (some (.int r)) z) args s 0 0 (AB G)) (F0 m 32 ls []) := by
  intro u1 u2 u3 x hf H locs ls hS hl
  have hx := C.1
  have hb := C.2.1
  have hown := C.2.2.2.2.2.1
  have hw := C.2.2.2.2.2.2.1
  unfold fX7_lay_h32 at hf
  refine lv_iload_n hx hb dX7_lay_32 rfl (lv_at hl 2 rfl) ?_
  refine lv_iconst (v := 2) hx hb dX7_lay_33 (by decide) ?_
  refine lv_icmp_ne (tgt := 47) hx hb dX7_lay_34 (by decide) (fun c_10 => ?_) (fun c_10 => ?_)
  · replace hf := if_n c_10 hf
    exact wX7_lay_h47  C u1 u2 u3 x hf _ _ _ hS (lv_sub hl [0, 1, 2, 3] rfl)
  · replace hf := if_p c_10 hf
    refine lv_iload_n hx hb dX7_lay_37 rfl (lv_at hl 3 rfl) ?_
    obtain ⟨r_11, x_12, qr_11, hf⟩ := bd_out hf
    refine rsI (As := [.int u3]) (rest := []) C hS KX7_isSheet (cX7_isSheet_ qr_11) g_461 ⟨rfl, rfl⟩ ⟨(Nat.le_of_ble_eq_true rfl), (Nat.le_of_ble_eq_true rfl)⟩ hl.1 rfl rfl (Nat.le_of_ble_eq_true rfl) ⟨Nat.zero_le _, Nat.zero_le _⟩ dX7_lay_38 (fun H locs hS => ?_)
    refine lv_if_ne (tgt := 47) hx hb dX7_lay_41 (by decide) (fun c_13 => ?_) (fun c_13 => ?_)
    · replace hf := if_n c_13 hf
      exact wX7_lay_h47  C u1 u2 u3 x_12 hf _ _ _ hS (lv_sub hl [0, 1, 2, 3] rfl)
    · replace hf := if_p c_13 hf
      refine lv_ldc (v := (-1000000001)) hx hb hown (hw _ g_267) dX7_lay_44 ?_
      exact rtI C hS hf dX7_lay_46
set_option maxRecDepth 100000 in
set_option maxHeartbeats 4000000 in
theorem cX7_lay_ {G : GT} {l : Launch} {v1 : Int32} {v2 : Int32} {v3 : Int32} {x z : XS} {r : Int32} (hf : fX7_lay v1 v2 v3 x = some (r, z)) : Ct G l yX7_lay (.code yX7_lay cX7_lay 6 (some .int)) rmX7_lay [.ref (G.1 + 0), .int v1, .int v2, .int v3] x (some (.int r)) z := by
  refine Ct.of (by decide +kernel) (Nat.le_of_ble_eq_true rfl) ?_
  intro p e s m args below meth c C ls hl hS
  have C : CX G p s m args meth c cX7_lay 6 (some .int) RX7 := C
  have hl : lv_has ls 6 [(0, .ref (G.1 + 0)), (1, .int v1), (2, .int v2), (3, .int v3)] := hl
  have hx := C.1
  have hb := C.2.1
  have hown := C.2.2.2.2.2.1
  have hw := C.2.2.2.2.2.2.1
  unfold fX7_lay at hf
  refine lv_iload_n hx hb dX7_lay_0 rfl (lv_at hl 1 rfl) ?_
  obtain ⟨r_1, x_2, qr_1, hf⟩ := bd_out hf
  refine rsI (As := [.int v1]) (rest := []) C hS KX7_isSlot (cX7_isSlot_ qr_1) g_745 ⟨rfl, rfl⟩ ⟨(Nat.le_of_ble_eq_true rfl), (Nat.le_of_ble_eq_true rfl)⟩ hl.1 rfl rfl (Nat.le_of_ble_eq_true rfl) ⟨Nat.zero_le _, Nat.zero_le _⟩ dX7_lay_1 (fun H locs hS => ?_)
  refine lv_if_eq (tgt := 16) hx hb dX7_lay_4 (by decide) (fun c_3 => ?_) (fun c_3 => ?_)
  · replace hf := if_p c_3 hf
    refine lv_ldc (v := (-1000000001)) hx hb hown (hw _ g_267) dX7_lay_16 ?_
    exact rtI C hS hf dX7_lay_18
  · replace hf := if_n c_3 hf
    refine lv_iload_n hx hb dX7_lay_7 rfl (lv_at hl 2 rfl) ?_
    refine lv_if_lt (tgt := 16) hx hb dX7_lay_8 (by decide) (fun c_4 => ?_) (fun c_4 => ?_)
    · replace hf := if_p c_4 hf
      refine lv_ldc (v := (-1000000001)) hx hb hown (hw _ g_267) dX7_lay_16 ?_
      exact rtI C hS hf dX7_lay_18
    · replace hf := if_n c_4 hf
      refine lv_iload_n hx hb dX7_lay_11 rfl (lv_at hl 2 rfl) ?_
      refine lv_iconst (v := 3) hx hb dX7_lay_12 (by decide) ?_
      refine lv_icmp_le (tgt := 19) hx hb dX7_lay_13 (by decide) (fun c_5 => ?_) (fun c_5 => ?_)
      · replace hf := if_p c_5 hf
        refine lv_iload_n hx hb dX7_lay_19 rfl (lv_at hl 2 rfl) ?_
        refine lv_iconst (v := 1) hx hb dX7_lay_20 (by decide) ?_
        refine lv_icmp_ne (tgt := 32) hx hb dX7_lay_21 (by decide) (fun c_6 => ?_) (fun c_6 => ?_)
        · replace hf := if_n c_6 hf
          exact wX7_lay_h32  C v1 v2 v3 x_2 hf _ _ _ hS (lv_sub hl [0, 1, 2, 3] rfl)
        · replace hf := if_p c_6 hf
          refine lv_aload_n hx hb dX7_lay_24 rfl (lv_at hl 0 rfl) ?_
          refine lv_iload_n hx hb dX7_lay_25 rfl (lv_at hl 3 rfl) ?_
          obtain ⟨r_7, x_8, qr_7, hf⟩ := bd_out hf
          refine rvI (As := [.int v3]) (rest := []) C hS (rfl) rfl KX7_isBoy (cX7_isBoy_ qr_7) g_281 ⟨rfl, rfl⟩ ⟨(Nat.le_of_ble_eq_true rfl), (Nat.le_of_ble_eq_true rfl)⟩ hl.1 rfl rfl (Nat.le_of_ble_eq_true rfl) ⟨Nat.zero_le _, Nat.zero_le _⟩ dX7_lay_26 (fun H locs hS => ?_)
          refine lv_if_eq (tgt := 44) hx hb dX7_lay_29 (by decide) (fun c_9 => ?_) (fun c_9 => ?_)
          · replace hf := if_p c_9 hf
            refine lv_ldc (v := (-1000000001)) hx hb hown (hw _ g_267) dX7_lay_44 ?_
            exact rtI C hS hf dX7_lay_46
          · replace hf := if_n c_9 hf
            exact wX7_lay_h32  C v1 v2 v3 x_8 hf _ _ _ hS (lv_sub hl [0, 1, 2, 3] rfl)
      · replace hf := if_n c_5 hf
        refine lv_ldc (v := (-1000000001)) hx hb hown (hw _ g_267) dX7_lay_16 ?_
        exact rtI C hS hf dX7_lay_18
abbrev rmX7_ask : Room := { frames := 1, cells := 0, slots := 0, locals := 23 }
set_option maxRecDepth 100000 in
set_option maxHeartbeats 4000000 in
theorem cX7_ask_ {G : GT} {l : Launch} {v1 : Int32} {v2 : Int32} {x z : XS} {r : Int32} (hf : fX7_ask v1 v2 x = some (r, z)) : Ct G l yX7_ask (.code yX7_ask cX7_ask 5 (some .int)) rmX7_ask [.ref (G.1 + 0), .int v1, .int v2] x (some (.int r)) z := by
  refine Ct.of (by decide +kernel) (Nat.le_of_ble_eq_true rfl) ?_
  intro p e s m args below meth c C ls hl hS
  have C : CX G p s m args meth c cX7_ask 5 (some .int) RX7 := C
  have hl : lv_has ls 5 [(0, .ref (G.1 + 0)), (1, .int v1), (2, .int v2)] := hl
  have hx := C.1
  have hb := C.2.1
  have hown := C.2.2.2.2.2.1
  have hw := C.2.2.2.2.2.2.1
  unfold fX7_ask at hf
  refine lv_iload_n hx hb dX7_ask_0 rfl (lv_at hl 1 rfl) ?_
  obtain ⟨r_1, x_2, qr_1, hf⟩ := bd_out hf
  refine rsI (As := [.int v1]) (rest := []) C hS KX7_isSlot (cX7_isSlot_ qr_1) g_745 ⟨rfl, rfl⟩ ⟨(Nat.le_of_ble_eq_true rfl), (Nat.le_of_ble_eq_true rfl)⟩ hl.1 rfl rfl (Nat.le_of_ble_eq_true rfl) ⟨Nat.zero_le _, Nat.zero_le _⟩ dX7_ask_1 (fun H locs hS => ?_)
  refine lv_if_eq (tgt := 14) hx hb dX7_ask_4 (by decide) (fun c_3 => ?_) (fun c_3 => ?_)
  · replace hf := if_p c_3 hf
    refine lv_ldc (v := (-1000000001)) hx hb hown (hw _ g_267) dX7_ask_14 ?_
    exact rtI C hS hf dX7_ask_16
  · replace hf := if_n c_3 hf
    refine lv_iload_n hx hb dX7_ask_7 rfl (lv_at hl 2 rfl) ?_
    obtain ⟨r_4, x_5, qr_4, hf⟩ := bd_out hf
    refine rsI (As := [.int v2]) (rest := []) C hS KX7_isKind (cX7_isKind_ qr_4) g_261 ⟨rfl, rfl⟩ ⟨(Nat.le_of_ble_eq_true rfl), (Nat.le_of_ble_eq_true rfl)⟩ hl.1 rfl rfl (Nat.le_of_ble_eq_true rfl) ⟨Nat.zero_le _, Nat.zero_le _⟩ dX7_ask_8 (fun H locs hS => ?_)
    refine lv_if_ne (tgt := 17) hx hb dX7_ask_11 (by decide) (fun c_6 => ?_) (fun c_6 => ?_)
    · replace hf := if_n c_6 hf
      refine lv_aload_n hx hb dX7_ask_17 rfl (lv_at hl 0 rfl) ?_
      refine gf6_6 C hS (rfl) g_232 dX7_ask_18 ?_
      refine lv_iload_n hx hb dX7_ask_21 rfl (lv_at hl 1 rfl) ?_
      obtain ⟨gg_7, hf⟩ := gd_out hf
      refine alV C hS (rfl) (by decide) (by decide) 6 rfl rfl gg_7 (v := .ref (G.1 + (79 + 4 * (ix v1)))) (vwR (rfl) (by decide) rfl) dX7_ask_22 ?_
      refine lv_iconst (v := 1) hx hb dX7_ask_23 (by decide) ?_
      obtain ⟨r_8, x_9, qr_8, hf⟩ := bd_out hf
      refine rvI (As := [.int 1]) (rest := []) C hS (el14 gg_7) rfl KX3_findingFor (cX3_findingFor_ (el14 gg_7) qr_8) g_758 ⟨rfl, rfl⟩ ⟨(Nat.le_of_ble_eq_true rfl), (Nat.le_of_ble_eq_true rfl)⟩ hl.1 rfl rfl (Nat.le_of_ble_eq_true rfl) ⟨Nat.zero_le _, Nat.zero_le _⟩ dX7_ask_24 (fun H locs hS => ?_)
      refine lv_istore_n (lv' := [(3, .int r_8), (0, .ref (G.1 + 0)), (1, .int v1), (2, .int v2)]) hx hb dX7_ask_27 rfl hl (by decide) rfl (fun ls hl => ?_)
      refine lv_iload_n hx hb dX7_ask_28 rfl (lv_at hl 0 rfl) ?_
      refine lv_if_eq (tgt := 34) hx hb dX7_ask_29 (by decide) (fun c_10 => ?_) (fun c_10 => ?_)
      · replace hf := if_p c_10 hf
        refine lv_aload_n hx hb dX7_ask_34 rfl (lv_at hl 1 rfl) ?_
        refine gf6_6 C hS (rfl) g_232 dX7_ask_35 ?_
        refine lv_iload_n hx hb dX7_ask_38 rfl (lv_at hl 2 rfl) ?_
        obtain ⟨gg_11, hf⟩ := gd_out hf
        refine alV C hS (rfl) (by decide) (by decide) 6 rfl rfl gg_11 (v := .ref (G.1 + (79 + 4 * (ix v1)))) (vwR (rfl) (by decide) rfl) dX7_ask_39 ?_
        refine gf2_2 C hS (el14 gg_11) g_214 dX7_ask_40 ?_
        refine lv_astore (lv' := [(4, .ref (G.1 + ((79 + 4 * (ix v1)) + 1))), (3, .int r_8), (0, .ref (G.1 + 0)), (1, .int v1), (2, .int v2)]) hx hb dX7_ask_43 hl (by decide) rfl (fun ls hl => ?_)
        refine lv_aload hx hb dX7_ask_45 (lv_at hl 0 rfl) ?_
        refine gf0_0 C hS (sl_b (el14 gg_11)) g_69 dX7_ask_47 ?_
        refine lv_iload_n hx hb dX7_ask_50 rfl (lv_at hl 4 rfl) ?_
        obtain ⟨r_12, x_13, qr_12, hf⟩ := bd_out hf
        refine rsI (As := [.int (x_9 ((79 + 4 * (ix v1)) + 1) 0), .int v2]) (rest := []) C hS KX1_isUnder (cX1_isUnder_ qr_12) g_334 ⟨rfl, rfl⟩ ⟨(Nat.le_of_ble_eq_true rfl), (Nat.le_of_ble_eq_true rfl)⟩ hl.1 rfl rfl (Nat.le_of_ble_eq_true rfl) ⟨Nat.zero_le _, Nat.zero_le _⟩ dX7_ask_51 (fun H locs hS => ?_)
        refine lv_if_eq (tgt := 73) hx hb dX7_ask_54 (by decide) (fun c_14 => ?_) (fun c_14 => ?_)
        · replace hf := if_p c_14 hf
          refine lv_ldc (v := (-1000000012)) hx hb hown (hw _ g_339) dX7_ask_73 ?_
          exact rtI C hS hf dX7_ask_75
        · replace hf := if_n c_14 hf
          refine lv_aload hx hb dX7_ask_57 (lv_at hl 0 rfl) ?_
          refine gf0_0 C hS (sl_b (el14 gg_11)) g_69 dX7_ask_59 ?_
          refine lv_aload hx hb dX7_ask_62 (lv_at hl 0 rfl) ?_
          refine gf0_2 C hS (sl_b (el14 gg_11)) g_74 dX7_ask_64 ?_
          obtain ⟨r_15, x_16, qr_15, hf⟩ := bd_out hf
          refine rsI (As := [.int (x_13 ((79 + 4 * (ix v1)) + 1) 0), .int (x_13 ((79 + 4 * (ix v1)) + 1) 2)]) (rest := []) C hS KX1_worth (cX1_worth_ qr_15) g_764 ⟨rfl, rfl⟩ ⟨(Nat.le_of_ble_eq_true rfl), (Nat.le_of_ble_eq_true rfl)⟩ hl.1 rfl rfl (Nat.le_of_ble_eq_true rfl) ⟨Nat.zero_le _, Nat.zero_le _⟩ dX7_ask_67 (fun H locs hS => ?_)
          refine lv_goto (tgt := 75) hx hb dX7_ask_70 (by decide) ?_
          exact rtI C hS hf dX7_ask_75
      · replace hf := if_n c_10 hf
        refine lv_iload_n hx hb dX7_ask_32 rfl (lv_at hl 0 rfl) ?_
        exact rtI C hS hf dX7_ask_33
    · replace hf := if_p c_6 hf
      refine lv_ldc (v := (-1000000001)) hx hb hown (hw _ g_267) dX7_ask_14 ?_
      exact rtI C hS hf dX7_ask_16
abbrev rmX7_item : Room := { frames := 2, cells := 0, slots := 0, locals := 42 }
set_option maxRecDepth 100000 in
set_option maxHeartbeats 4000000 in
theorem cX7_item_ {G : GT} {l : Launch} {v1 : Int32} {v2 : Int32} {x z : XS} {r : Int32} (hf : fX7_item v1 v2 x = some (r, z)) : Ct G l yX7_item (.code yX7_item cX7_item 5 (some .int)) rmX7_item [.ref (G.1 + 0), .int v1, .int v2] x (some (.int r)) z := by
  refine Ct.of (by decide +kernel) (Nat.le_of_ble_eq_true rfl) ?_
  intro p e s m args below meth c C ls hl hS
  have C : CX G p s m args meth c cX7_item 5 (some .int) RX7 := C
  have hl : lv_has ls 5 [(0, .ref (G.1 + 0)), (1, .int v1), (2, .int v2)] := hl
  have hx := C.1
  have hb := C.2.1
  have hown := C.2.2.2.2.2.1
  have hw := C.2.2.2.2.2.2.1
  unfold fX7_item at hf
  refine lv_iload_n hx hb dX7_item_0 rfl (lv_at hl 1 rfl) ?_
  obtain ⟨r_1, x_2, qr_1, hf⟩ := bd_out hf
  refine rsI (As := [.int v1]) (rest := []) C hS KX7_isSlot (cX7_isSlot_ qr_1) g_745 ⟨rfl, rfl⟩ ⟨(Nat.le_of_ble_eq_true rfl), (Nat.le_of_ble_eq_true rfl)⟩ hl.1 rfl rfl (Nat.le_of_ble_eq_true rfl) ⟨Nat.zero_le _, Nat.zero_le _⟩ dX7_item_1 (fun H locs hS => ?_)
  refine lv_if_ne (tgt := 10) hx hb dX7_item_4 (by decide) (fun c_3 => ?_) (fun c_3 => ?_)
  · replace hf := if_n c_3 hf
    refine lv_aload_n hx hb dX7_item_10 rfl (lv_at hl 0 rfl) ?_
    refine gf6_6 C hS (rfl) g_232 dX7_item_11 ?_
    refine lv_iload_n hx hb dX7_item_14 rfl (lv_at hl 1 rfl) ?_
    obtain ⟨gg_4, hf⟩ := gd_out hf
    refine alV C hS (rfl) (by decide) (by decide) 6 rfl rfl gg_4 (v := .ref (G.1 + (79 + 4 * (ix v1)))) (vwR (rfl) (by decide) rfl) dX7_item_15 ?_
    refine lv_iconst (v := 2) hx hb dX7_item_16 (by decide) ?_
    obtain ⟨r_5, x_6, qr_5, hf⟩ := bd_out hf
    refine rvI (As := [.int 2]) (rest := []) C hS (el14 gg_4) rfl KX3_findingFor (cX3_findingFor_ (el14 gg_4) qr_5) g_758 ⟨rfl, rfl⟩ ⟨(Nat.le_of_ble_eq_true rfl), (Nat.le_of_ble_eq_true rfl)⟩ hl.1 rfl rfl (Nat.le_of_ble_eq_true rfl) ⟨Nat.zero_le _, Nat.zero_le _⟩ dX7_item_17 (fun H locs hS => ?_)
    refine lv_istore_n (lv' := [(3, .int r_5), (0, .ref (G.1 + 0)), (1, .int v1), (2, .int v2)]) hx hb dX7_item_20 rfl hl (by decide) rfl (fun ls hl => ?_)
    refine lv_iload_n hx hb dX7_item_21 rfl (lv_at hl 0 rfl) ?_
    refine lv_if_eq (tgt := 27) hx hb dX7_item_22 (by decide) (fun c_7 => ?_) (fun c_7 => ?_)
    · replace hf := if_p c_7 hf
      refine lv_aload_n hx hb dX7_item_27 rfl (lv_at hl 1 rfl) ?_
      refine gf6_6 C hS (rfl) g_232 dX7_item_28 ?_
      refine lv_iload_n hx hb dX7_item_31 rfl (lv_at hl 2 rfl) ?_
      obtain ⟨gg_8, hf⟩ := gd_out hf
      refine alV C hS (rfl) (by decide) (by decide) 6 rfl rfl gg_8 (v := .ref (G.1 + (79 + 4 * (ix v1)))) (vwR (rfl) (by decide) rfl) dX7_item_32 ?_
      refine gf2_3 C hS (el14 gg_8) g_216 dX7_item_33 ?_
      refine lv_astore (lv' := [(4, .ref (G.1 + ((79 + 4 * (ix v1)) + 2))), (3, .int r_5), (0, .ref (G.1 + 0)), (1, .int v1), (2, .int v2)]) hx hb dX7_item_36 hl (by decide) rfl (fun ls hl => ?_)
      refine lv_aload hx hb dX7_item_38 (lv_at hl 0 rfl) ?_
      refine lv_iload_n hx hb dX7_item_40 rfl (lv_at hl 4 rfl) ?_
      obtain ⟨r_9, x_10, qr_9, hf⟩ := bd_out hf
      refine rvI (As := [.int v2]) (rest := []) C hS (sl_s (el14 gg_8)) rfl KX2_hasPlace (cX2_hasPlace_ (sl_s (el14 gg_8)) qr_9) g_717 ⟨rfl, rfl⟩ ⟨(Nat.le_of_ble_eq_true rfl), (Nat.le_of_ble_eq_true rfl)⟩ hl.1 rfl rfl (Nat.le_of_ble_eq_true rfl) ⟨Nat.zero_le _, Nat.zero_le _⟩ dX7_item_41 (fun H locs hS => ?_)
      refine lv_if_ne (tgt := 50) hx hb dX7_item_44 (by decide) (fun c_11 => ?_) (fun c_11 => ?_)
      · replace hf := if_n c_11 hf
        refine lv_aload hx hb dX7_item_50 (lv_at hl 0 rfl) ?_
        refine lv_iload_n hx hb dX7_item_52 rfl (lv_at hl 4 rfl) ?_
        obtain ⟨r_12, x_13, qr_12, hf⟩ := bd_out hf
        refine rvI (As := [.int v2]) (rest := []) C hS (sl_s (el14 gg_8)) rfl KX2_hasNumber (cX2_hasNumber_ (sl_s (el14 gg_8)) qr_12) g_473 ⟨rfl, rfl⟩ ⟨(Nat.le_of_ble_eq_true rfl), (Nat.le_of_ble_eq_true rfl)⟩ hl.1 rfl rfl (Nat.le_of_ble_eq_true rfl) ⟨Nat.zero_le _, Nat.zero_le _⟩ dX7_item_53 (fun H locs hS => ?_)
        refine lv_if_eq (tgt := 69) hx hb dX7_item_56 (by decide) (fun c_14 => ?_) (fun c_14 => ?_)
        · replace hf := if_p c_14 hf
          refine lv_ldc (v := (-1000000012)) hx hb hown (hw _ g_339) dX7_item_69 ?_
          exact rtI C hS hf dX7_item_71
        · replace hf := if_n c_14 hf
          refine lv_aload hx hb dX7_item_59 (lv_at hl 0 rfl) ?_
          refine gf1_2 C hS (sl_s (el14 gg_8)) g_192 dX7_item_61 ?_
          refine lv_iload_n hx hb dX7_item_64 rfl (lv_at hl 4 rfl) ?_
          obtain ⟨gg_15, hf⟩ := gd_out hf
          refine alI C hS (sh_p (sl_s (el14 gg_8))) (sh_n (sl_s (el14 gg_8))) gg_15 dX7_item_65 ?_
          refine lv_goto (tgt := 71) hx hb dX7_item_66 (by decide) ?_
          exact rtI C hS hf dX7_item_71
      · replace hf := if_p c_11 hf
        refine lv_ldc (v := (-1000000013)) hx hb hown (hw _ g_718) dX7_item_47 ?_
        exact rtI C hS hf dX7_item_49
    · replace hf := if_n c_7 hf
      refine lv_iload_n hx hb dX7_item_25 rfl (lv_at hl 0 rfl) ?_
      exact rtI C hS hf dX7_item_26
  · replace hf := if_p c_3 hf
    refine lv_ldc (v := (-1000000001)) hx hb hown (hw _ g_267) dX7_item_7 ?_
    exact rtI C hS hf dX7_item_9
abbrev rmX7_rest : Room := { frames := 1, cells := 0, slots := 0, locals := 21 }
set_option maxRecDepth 100000 in
set_option maxHeartbeats 4000000 in
theorem cX7_rest_ {G : GT} {l : Launch} {v1 : Int32} {v2 : Int32} {x z : XS} {r : Int32} (hf : fX7_rest v1 v2 x = some (r, z)) : Ct G l yX7_rest (.code yX7_rest cX7_rest 4 (some .int)) rmX7_rest [.ref (G.1 + 0), .int v1, .int v2] x (some (.int r)) z := by
  refine Ct.of (by decide +kernel) (Nat.le_of_ble_eq_true rfl) ?_
  intro p e s m args below meth c C ls hl hS
  have C : CX G p s m args meth c cX7_rest 4 (some .int) RX7 := C
  have hl : lv_has ls 4 [(0, .ref (G.1 + 0)), (1, .int v1), (2, .int v2)] := hl
  have hx := C.1
  have hb := C.2.1
  have hown := C.2.2.2.2.2.1
  have hw := C.2.2.2.2.2.2.1
  unfold fX7_rest at hf
  refine lv_iload_n hx hb dX7_rest_0 rfl (lv_at hl 1 rfl) ?_
  obtain ⟨r_1, x_2, qr_1, hf⟩ := bd_out hf
  refine rsI (As := [.int v1]) (rest := []) C hS KX7_isSlot (cX7_isSlot_ qr_1) g_745 ⟨rfl, rfl⟩ ⟨(Nat.le_of_ble_eq_true rfl), (Nat.le_of_ble_eq_true rfl)⟩ hl.1 rfl rfl (Nat.le_of_ble_eq_true rfl) ⟨Nat.zero_le _, Nat.zero_le _⟩ dX7_rest_1 (fun H locs hS => ?_)
  refine lv_if_ne (tgt := 10) hx hb dX7_rest_4 (by decide) (fun c_3 => ?_) (fun c_3 => ?_)
  · replace hf := if_n c_3 hf
    refine lv_aload_n hx hb dX7_rest_10 rfl (lv_at hl 0 rfl) ?_
    refine gf6_6 C hS (rfl) g_232 dX7_rest_11 ?_
    refine lv_iload_n hx hb dX7_rest_14 rfl (lv_at hl 1 rfl) ?_
    obtain ⟨gg_4, hf⟩ := gd_out hf
    refine alV C hS (rfl) (by decide) (by decide) 6 rfl rfl gg_4 (v := .ref (G.1 + (79 + 4 * (ix v1)))) (vwR (rfl) (by decide) rfl) dX7_rest_15 ?_
    refine lv_iconst (v := 3) hx hb dX7_rest_16 (by decide) ?_
    obtain ⟨r_5, x_6, qr_5, hf⟩ := bd_out hf
    refine rvI (As := [.int 3]) (rest := []) C hS (el14 gg_4) rfl KX3_findingFor (cX3_findingFor_ (el14 gg_4) qr_5) g_758 ⟨rfl, rfl⟩ ⟨(Nat.le_of_ble_eq_true rfl), (Nat.le_of_ble_eq_true rfl)⟩ hl.1 rfl rfl (Nat.le_of_ble_eq_true rfl) ⟨Nat.zero_le _, Nat.zero_le _⟩ dX7_rest_17 (fun H locs hS => ?_)
    refine lv_istore_n (lv' := [(3, .int r_5), (0, .ref (G.1 + 0)), (1, .int v1), (2, .int v2)]) hx hb dX7_rest_20 rfl hl (by decide) rfl (fun ls hl => ?_)
    refine lv_iload_n hx hb dX7_rest_21 rfl (lv_at hl 0 rfl) ?_
    refine lv_if_eq (tgt := 27) hx hb dX7_rest_22 (by decide) (fun c_7 => ?_) (fun c_7 => ?_)
    · replace hf := if_p c_7 hf
      refine lv_iload_n hx hb dX7_rest_27 rfl (lv_at hl 3 rfl) ?_
      refine lv_if_ne (tgt := 37) hx hb dX7_rest_28 (by decide) (fun c_8 => ?_) (fun c_8 => ?_)
      · replace hf := if_n c_8 hf
        refine lv_aload_n hx hb dX7_rest_37 rfl (lv_at hl 1 rfl) ?_
        refine gf6_6 C hS (rfl) g_232 dX7_rest_38 ?_
        refine lv_iload_n hx hb dX7_rest_41 rfl (lv_at hl 2 rfl) ?_
        obtain ⟨gg_9, hf⟩ := gd_out hf
        refine alV C hS (rfl) (by decide) (by decide) 6 rfl rfl gg_9 (v := .ref (G.1 + (79 + 4 * (ix v1)))) (vwR (rfl) (by decide) rfl) dX7_rest_42 ?_
        refine gf2_1 C hS (el14 gg_9) g_212 dX7_rest_43 ?_
        refine lv_iload_n hx hb dX7_rest_46 rfl (lv_at hl 3 rfl) ?_
        obtain ⟨gg_10, hf⟩ := gd_out hf
        refine lv_irem hx hb dX7_rest_47 (of_decide_eq_true gg_10) ?_
        obtain ⟨v_11, ev_11, hf⟩ := st_out hf
        refine topI ev_11 ?_
        exact rtI C hS hf dX7_rest_48
      · replace hf := if_p c_8 hf
        refine lv_ldcw (v := (-1000000002)) hx hb hown (hw _ g_773) dX7_rest_31 ?_
        refine lv_goto (tgt := 48) hx hb dX7_rest_34 (by decide) ?_
        exact rtI C hS hf dX7_rest_48
    · replace hf := if_n c_7 hf
      refine lv_iload_n hx hb dX7_rest_25 rfl (lv_at hl 0 rfl) ?_
      exact rtI C hS hf dX7_rest_26
  · replace hf := if_p c_3 hf
    refine lv_ldc (v := (-1000000001)) hx hb hown (hw _ g_267) dX7_rest_7 ?_
    exact rtI C hS hf dX7_rest_9
abbrev rmX7_tell : Room := { frames := 0, cells := 0, slots := 0, locals := 0 }
set_option maxRecDepth 100000 in
set_option maxHeartbeats 4000000 in
theorem cX7_tell_ {G : GT} {l : Launch} {v1 : Int32} {x z : XS} {r : Int32} (hf : fX7_tell v1 x = some (r, z)) : Ct G l yX7_tell (.code yX7_tell cX7_tell 2 (some .int)) rmX7_tell [.ref (G.1 + 0), .int v1] x (some (.int r)) z := by
  refine Ct.of (by decide +kernel) (Nat.le_of_ble_eq_true rfl) ?_
  intro p e s m args below meth c C ls hl hS
  have C : CX G p s m args meth c cX7_tell 2 (some .int) RX7 := C
  have hl : lv_has ls 2 [(0, .ref (G.1 + 0)), (1, .int v1)] := hl
  have hx := C.1
  have hb := C.2.1
  have hown := C.2.2.2.2.2.1
  have hw := C.2.2.2.2.2.2.1
  unfold fX7_tell at hf
  refine lv_aload_n hx hb dX7_tell_0 rfl (lv_at hl 0 rfl) ?_
  refine gf6_8 C hS (rfl) g_234 dX7_tell_1 ?_
  refine lv_aload_n hx hb dX7_tell_4 rfl (lv_at hl 0 rfl) ?_
  refine gf6_7 C hS (rfl) g_233 dX7_tell_5 ?_
  refine alN C hS (rfl) (by decide) (by decide) 0 rfl rfl (v := 60) (by decide) dX7_tell_8 ?_
  refine lv_icmp_lt (tgt := 15) hx hb dX7_tell_9 (by decide) (fun c_1 => ?_) (fun c_1 => ?_)
  · replace hf := if_p c_1 hf
    refine lv_aload_n hx hb dX7_tell_15 rfl (lv_at hl 0 rfl) ?_
    refine gf6_7 C hS (rfl) g_233 dX7_tell_16 ?_
    refine lv_aload_n hx hb dX7_tell_19 rfl (lv_at hl 0 rfl) ?_
    refine gf6_8 C hS (rfl) g_234 dX7_tell_20 ?_
    refine lv_iload_n hx hb dX7_tell_23 rfl (lv_at hl 1 rfl) ?_
    obtain ⟨gg_2, hf⟩ := gd_out hf
    obtain ⟨x_3, ex_3, hf⟩ := st_out hf
    refine asI C hS (rfl) rfl gg_2 ex_3 dX7_tell_24 (fun H locs hS => ?_)
    refine lv_aload_n hx hb dX7_tell_25 rfl (lv_at hl 0 rfl) ?_
    refine lv_dup hx hb dX7_tell_26 rfl ?_
    refine gf6_8 C hS (rfl) g_234 dX7_tell_27 ?_
    refine lv_iconst (v := 1) hx hb dX7_tell_30 (by decide) ?_
    refine lv_iadd hx hb dX7_tell_31 ?_
    obtain ⟨x_4, ex_4, hf⟩ := st_out hf
    refine pf6_8 C hS (rfl) g_234 ex_4 dX7_tell_32 (fun H locs hS => ?_)
    refine lv_aload_n hx hb dX7_tell_35 rfl (lv_at hl 0 rfl) ?_
    refine gf6_8 C hS (rfl) g_234 dX7_tell_36 ?_
    exact rtI C hS hf dX7_tell_39
  · replace hf := if_n c_1 hf
    refine lv_ldc (v := (-1000000003)) hx hb hown (hw _ g_268) dX7_tell_12 ?_
    exact rtI C hS hf dX7_tell_14
abbrev rmX7_waits : Room := { frames := 0, cells := 0, slots := 0, locals := 0 }
set_option maxRecDepth 100000 in
set_option maxHeartbeats 4000000 in
theorem cX7_waits_ {G : GT} {l : Launch} {v1 : Int32} {v2 : Int32} {v3 : Int32} {x z : XS} {r : Int32} (hf : fX7_waits v1 v2 v3 x = some (r, z)) : Ct G l yX7_waits (.code yX7_waits cX7_waits 4 (some .boolean)) rmX7_waits [.ref (G.1 + 0), .int v1, .int v2, .int v3] x (some (.int r)) z := by
  refine Ct.of (by decide +kernel) (Nat.le_of_ble_eq_true rfl) ?_
  intro p e s m args below meth c C ls hl hS
  have C : CX G p s m args meth c cX7_waits 4 (some .boolean) RX7 := C
  have hl : lv_has ls 4 [(0, .ref (G.1 + 0)), (1, .int v1), (2, .int v2), (3, .int v3)] := hl
  have hx := C.1
  have hb := C.2.1
  have hown := C.2.2.2.2.2.1
  have hw := C.2.2.2.2.2.2.1
  unfold fX7_waits at hf
  refine lv_iload_n hx hb dX7_waits_0 rfl (lv_at hl 1 rfl) ?_
  refine lv_iload_n hx hb dX7_waits_1 rfl (lv_at hl 2 rfl) ?_
  refine lv_icmp_ge (tgt := 28) hx hb dX7_waits_2 (by decide) (fun c_1 => ?_) (fun c_1 => ?_)
  · replace hf := if_p c_1 hf
    refine lv_iconst (v := 0) hx hb dX7_waits_28 (by decide) ?_
    exact rtZ C hS rfl hf dX7_waits_29
  · replace hf := if_n c_1 hf
    refine lv_iload_n hx hb dX7_waits_5 rfl (lv_at hl 1 rfl) ?_
    refine lv_aload_n hx hb dX7_waits_6 rfl (lv_at hl 0 rfl) ?_
    refine gf6_7 C hS (rfl) g_233 dX7_waits_7 ?_
    refine alN C hS (rfl) (by decide) (by decide) 0 rfl rfl (v := 60) (by decide) dX7_waits_10 ?_
    refine lv_icmp_ge (tgt := 28) hx hb dX7_waits_11 (by decide) (fun c_2 => ?_) (fun c_2 => ?_)
    · replace hf := if_p c_2 hf
      refine lv_iconst (v := 0) hx hb dX7_waits_28 (by decide) ?_
      exact rtZ C hS rfl hf dX7_waits_29
    · replace hf := if_n c_2 hf
      refine lv_aload_n hx hb dX7_waits_14 rfl (lv_at hl 0 rfl) ?_
      refine gf6_7 C hS (rfl) g_233 dX7_waits_15 ?_
      refine lv_iload_n hx hb dX7_waits_18 rfl (lv_at hl 1 rfl) ?_
      obtain ⟨gg_3, hf⟩ := gd_out hf
      refine alI C hS (rfl) rfl gg_3 dX7_waits_19 ?_
      refine lv_iload_n hx hb dX7_waits_20 rfl (lv_at hl 3 rfl) ?_
      refine lv_icmp_ne (tgt := 28) hx hb dX7_waits_21 (by decide) (fun c_4 => ?_) (fun c_4 => ?_)
      · replace hf := if_n c_4 hf
        refine lv_iconst (v := 0) hx hb dX7_waits_28 (by decide) ?_
        exact rtZ C hS rfl hf dX7_waits_29
      · replace hf := if_p c_4 hf
        refine lv_iconst (v := 1) hx hb dX7_waits_24 (by decide) ?_
        refine lv_goto (tgt := 29) hx hb dX7_waits_25 (by decide) ?_
        exact rtZ C hS rfl hf dX7_waits_29
abbrev rmX7_check : Room := { frames := 5, cells := 0, slots := 0, locals := 160 }
set_option maxRecDepth 100000 in
set_option maxHeartbeats 4000000 in
theorem wbX7_check_h65 {p : Program} {l : Launch} {e : Env} {s : State} {m : MethodId} {args : Array Value} {below : List Frame} {meth : Method} {c : Code} {G : GT} {r : Int32} {z : XS} (C : CX G p s m args meth c cX7_check 5 (some .int) RX7) {k65 : Int32 → Int32 → Int32 → XS → Option (Int32 × XS)} (hk65 : ∀ (u2 : Int32) (u3 : Int32) (u4 : Int32) (x : XS), k65 u2 u3 u4 x = some (r, z) → ∀ (H : Heap) (locs : List Loc) (ls : Array Slot), SR G x H locs → lv_has ls 5 [(0, .ref (G.1 + 0)), (2, .int u2), (3, .int u3), (4, .int u4)] → W p l e rmX7_check s m args below meth c H locs 0 0 (MQ below (QC G (some (.int r)) z) args s 0 0 (AB G)) (F0 m 65 ls [])) : ∀ (u2 : Int32) (u3 : Int32) (u4 : Int32) (x : XS), bX7_check_h65 k65 u2 u3 u4 x = some (r, z) → ∀ (H : Heap) (locs : List Loc) (ls : Array Slot), SR G x H locs → lv_has ls 5 [(0, .ref (G.1 + 0)), (2, .int u2), (3, .int u3), (4, .int u4)] → W p l e rmX7_check s m args below meth c H locs 0 0 (MQ below (QC G (some (.int r)) z) args s 0 0 (AB G)) (F0 m 65 ls []) := by
  intro u2 u3 u4 x hf H locs ls hS hl
  have hx := C.1
  have hb := C.2.1
  have hown := C.2.2.2.2.2.1
  have hw := C.2.2.2.2.2.2.1
  unfold bX7_check_h65 at hf
  refine lv_iload hx hb dX7_check_65 (lv_at hl 3 rfl) ?_
  refine lv_iload_n hx hb dX7_check_67 rfl (lv_at hl 2 rfl) ?_
  refine lv_icmp_ge (tgt := 139) hx hb dX7_check_68 (by decide) (fun c_9 => ?_) (fun c_9 => ?_)
  · replace hf := if_p c_9 hf
    refine lv_iload_n hx hb dX7_check_139 rfl (lv_at hl 1 rfl) ?_
    refine lv_iconst (v := 2) hx hb dX7_check_140 (by decide) ?_
    refine lv_iload_n hx hb dX7_check_141 rfl (lv_at hl 2 rfl) ?_
    refine lv_imul hx hb dX7_check_142 ?_
    refine lv_icmp_le (tgt := 154) hx hb dX7_check_143 (by decide) (fun c_10 => ?_) (fun c_10 => ?_)
    · replace hf := if_p c_10 hf
      refine lv_iconst (v := 0) hx hb dX7_check_154 (by decide) ?_
      exact rtI C hS hf dX7_check_155
    · replace hf := if_n c_10 hf
      refine lv_iconst (v := 1) hx hb dX7_check_146 (by decide) ?_
      refine lv_iconst (v := 2) hx hb dX7_check_147 (by decide) ?_
      refine lv_iload_n hx hb dX7_check_148 rfl (lv_at hl 2 rfl) ?_
      refine lv_imul hx hb dX7_check_149 ?_
      refine lv_iadd hx hb dX7_check_150 ?_
      refine lv_goto (tgt := 155) hx hb dX7_check_151 (by decide) ?_
      exact rtI C hS hf dX7_check_155
  · replace hf := if_n c_9 hf
    refine lv_aload_n hx hb dX7_check_71 rfl (lv_at hl 0 rfl) ?_
    refine gf6_4 C hS (rfl) g_230 dX7_check_72 ?_
    obtain ⟨r_11, x_12, qr_11, hf⟩ := bd_out hf
    refine rvI (As := []) (rest := []) C hS (rfl) rfl KX4_passMinute (cX4_passMinute_ (rfl) qr_11) g_782 ⟨rfl, rfl⟩ ⟨(Nat.le_of_ble_eq_true rfl), (Nat.le_of_ble_eq_true rfl)⟩ hl.1 rfl rfl (Nat.le_of_ble_eq_true rfl) ⟨Nat.zero_le _, Nat.zero_le _⟩ dX7_check_75 (fun H locs hS => ?_)
    refine lv_pop hx hb dX7_check_78 rfl ?_
    refine lv_aload_n hx hb dX7_check_79 rfl (lv_at hl 0 rfl) ?_
    refine lv_iconst (v := 2) hx hb dX7_check_80 (by decide) ?_
    refine lv_iload hx hb dX7_check_81 (lv_at hl 3 rfl) ?_
    refine lv_imul hx hb dX7_check_83 ?_
    refine lv_iload_n hx hb dX7_check_84 rfl (lv_at hl 1 rfl) ?_
    refine lv_aload_n hx hb dX7_check_85 rfl (lv_at hl 0 rfl) ?_
    refine gf6_4 C hS (rfl) g_230 dX7_check_86 ?_
    obtain ⟨r_13, x_14, qr_13, hf⟩ := bd_out hf
    refine rvI (As := []) (rest := [.int u2, .int (2 * u4), .ref (G.1 + 0)]) C hS (rfl) rfl KX4_purses (cX4_purses_ (rfl) qr_13) g_408 ⟨rfl, rfl⟩ ⟨(Nat.le_of_ble_eq_true rfl), (Nat.le_of_ble_eq_true rfl)⟩ hl.1 rfl rfl (Nat.le_of_ble_eq_true rfl) ⟨Nat.zero_le _, Nat.zero_le _⟩ dX7_check_89 (fun H locs hS => ?_)
    obtain ⟨r_15, x_16, qr_15, hf⟩ := bd_out hf
    refine rvI (As := [.int (2 * u4), .int u2, .int r_13]) (rest := []) C hS (rfl) rfl KX7_waits (cX7_waits_ qr_15) g_783 ⟨rfl, rfl⟩ ⟨(Nat.le_of_ble_eq_true rfl), (Nat.le_of_ble_eq_true rfl)⟩ hl.1 rfl rfl (Nat.le_of_ble_eq_true rfl) ⟨Nat.zero_le _, Nat.zero_le _⟩ dX7_check_92 (fun H locs hS => ?_)
    refine lv_if_ne (tgt := 105) hx hb dX7_check_95 (by decide) (fun c_17 => ?_) (fun c_17 => ?_)
    · replace hf := if_n c_17 hf
      refine lv_aload_n hx hb dX7_check_105 rfl (lv_at hl 0 rfl) ?_
      refine lv_iconst (v := 2) hx hb dX7_check_106 (by decide) ?_
      refine lv_iload hx hb dX7_check_107 (lv_at hl 3 rfl) ?_
      refine lv_imul hx hb dX7_check_109 ?_
      refine lv_iconst (v := 1) hx hb dX7_check_110 (by decide) ?_
      refine lv_iadd hx hb dX7_check_111 ?_
      refine lv_iload_n hx hb dX7_check_112 rfl (lv_at hl 1 rfl) ?_
      refine lv_aload_n hx hb dX7_check_113 rfl (lv_at hl 0 rfl) ?_
      refine gf6_4 C hS (rfl) g_230 dX7_check_114 ?_
      refine gf3_7 C hS (rfl) g_115 dX7_check_117 ?_
      obtain ⟨r_18, x_19, qr_18, hf⟩ := bd_out hf
      refine rvI (As := [.int ((2 * u4) + 1), .int u2, .int (x_16 26 7)]) (rest := []) C hS (rfl) rfl KX7_waits (cX7_waits_ qr_18) g_783 ⟨rfl, rfl⟩ ⟨(Nat.le_of_ble_eq_true rfl), (Nat.le_of_ble_eq_true rfl)⟩ hl.1 rfl rfl (Nat.le_of_ble_eq_true rfl) ⟨Nat.zero_le _, Nat.zero_le _⟩ dX7_check_120 (fun H locs hS => ?_)
      refine lv_if_ne (tgt := 133) hx hb dX7_check_123 (by decide) (fun c_20 => ?_) (fun c_20 => ?_)
      · replace hf := if_n c_20 hf
        obtain ⟨v_21, ev_21, hf⟩ := st_out hf
        refine lv_iinc (v := v_21) (lv' := [(4, .int v_21), (0, .ref (G.1 + 0)), (2, .int u2), (3, .int u3)]) hx hb dX7_check_133 hl (k := 3) rfl (by rw [ev_21]; rfl) (by decide) rfl (fun ls hl => ?_)
        refine lv_goto (tgt := 65) hx hb dX7_check_136 (by decide) ?_
        exact hk65 u2 u3 v_21 x_19 hf _ _ _ hS (lv_sub hl [1, 2, 3, 0] rfl)
      · replace hf := if_p c_20 hf
        refine lv_iconst (v := 2) hx hb dX7_check_126 (by decide) ?_
        refine lv_iconst (v := 2) hx hb dX7_check_127 (by decide) ?_
        refine lv_iload hx hb dX7_check_128 (lv_at hl 3 rfl) ?_
        refine lv_imul hx hb dX7_check_130 ?_
        refine lv_iadd hx hb dX7_check_131 ?_
        exact rtI C hS hf dX7_check_132
    · replace hf := if_p c_17 hf
      refine lv_iconst (v := 1) hx hb dX7_check_98 (by decide) ?_
      refine lv_iconst (v := 2) hx hb dX7_check_99 (by decide) ?_
      refine lv_iload hx hb dX7_check_100 (lv_at hl 3 rfl) ?_
      refine lv_imul hx hb dX7_check_102 ?_
      refine lv_iadd hx hb dX7_check_103 ?_
      exact rtI C hS hf dX7_check_104
theorem wlX7_check_h65 {p : Program} {l : Launch} {e : Env} {s : State} {m : MethodId} {args : Array Value} {below : List Frame} {meth : Method} {c : Code} {G : GT} {r : Int32} {z : XS} (C : CX G p s m args meth c cX7_check 5 (some .int) RX7) (n : Nat) : ∀ (u2 : Int32) (u3 : Int32) (u4 : Int32) (x : XS), lX7_check_h65 n u2 u3 u4 x = some (r, z) → ∀ (H : Heap) (locs : List Loc) (ls : Array Slot), SR G x H locs → lv_has ls 5 [(0, .ref (G.1 + 0)), (2, .int u2), (3, .int u3), (4, .int u4)] → W p l e rmX7_check s m args below meth c H locs 0 0 (MQ below (QC G (some (.int r)) z) args s 0 0 (AB G)) (F0 m 65 ls []) := by
  induction n with
  | zero => intro u2 u3 u4 x hf H locs ls hS hl; exact absurd hf (by intro q; cases q)
  | succ n ih => exact wbX7_check_h65 C ih
theorem wX7_check_h65 {p : Program} {l : Launch} {e : Env} {s : State} {m : MethodId} {args : Array Value} {below : List Frame} {meth : Method} {c : Code} {G : GT} {r : Int32} {z : XS} (C : CX G p s m args meth c cX7_check 5 (some .int) RX7) : ∀ (u2 : Int32) (u3 : Int32) (u4 : Int32) (x : XS), fX7_check_h65 u2 u3 u4 x = some (r, z) → ∀ (H : Heap) (locs : List Loc) (ls : Array Slot), SR G x H locs → lv_has ls 5 [(0, .ref (G.1 + 0)), (2, .int u2), (3, .int u3), (4, .int u4)] → W p l e rmX7_check s m args below meth c H locs 0 0 (MQ below (QC G (some (.int r)) z) args s 0 0 (AB G)) (F0 m 65 ls []) := wlX7_check_h65 C FU
set_option maxRecDepth 100000 in
set_option maxHeartbeats 4000000 in
theorem cX7_check_ {G : GT} {l : Launch} {v1 : Int32} {x z : XS} {r : Int32} (hf : fX7_check v1 x = some (r, z)) : Ct G l yX7_check (.code yX7_check cX7_check 5 (some .int)) rmX7_check [.ref (G.1 + 0), .int v1] x (some (.int r)) z := by
  refine Ct.of (by decide +kernel) (Nat.le_of_ble_eq_true rfl) ?_
  intro p e s m args below meth c C ls hl hS
  have C : CX G p s m args meth c cX7_check 5 (some .int) RX7 := C
  have hl : lv_has ls 5 [(0, .ref (G.1 + 0)), (1, .int v1)] := hl
  have hx := C.1
  have hb := C.2.1
  have hown := C.2.2.2.2.2.1
  have hw := C.2.2.2.2.2.2.1
  unfold fX7_check at hf
  refine lv_aload_n hx hb dX7_check_0 rfl (lv_at hl 0 rfl) ?_
  refine gf6_8 C hS (rfl) g_234 dX7_check_1 ?_
  obtain ⟨v_1, ev_1, hf⟩ := st_out hf
  refine topI ev_1 ?_
  refine lv_istore_n (lv' := [(2, .int v_1), (0, .ref (G.1 + 0)), (1, .int v1)]) hx hb dX7_check_4 rfl hl (by decide) rfl (fun ls hl => ?_)
  refine lv_aload_n hx hb dX7_check_5 rfl (lv_at hl 1 rfl) ?_
  refine lv_iconst (v := 0) hx hb dX7_check_6 (by decide) ?_
  obtain ⟨x_2, ex_2, hf⟩ := st_out hf
  refine pf6_8 C hS (rfl) g_234 ex_2 dX7_check_7 (fun H locs hS => ?_)
  refine lv_iload_n hx hb dX7_check_10 rfl (lv_at hl 2 rfl) ?_
  refine lv_iconst (v := 1) hx hb dX7_check_11 (by decide) ?_
  refine lv_icmp_lt (tgt := 21) hx hb dX7_check_12 (by decide) (fun c_3 => ?_) (fun c_3 => ?_)
  · replace hf := if_p c_3 hf
    refine lv_ldc (v := (-1000000001)) hx hb hown (hw _ g_267) dX7_check_21 ?_
    exact rtI C hS hf dX7_check_23
  · replace hf := if_n c_3 hf
    refine lv_iload_n hx hb dX7_check_15 rfl (lv_at hl 2 rfl) ?_
    refine lv_bipush (v := 30) hx hb dX7_check_16 (by decide) ?_
    refine lv_icmp_le (tgt := 24) hx hb dX7_check_18 (by decide) (fun c_4 => ?_) (fun c_4 => ?_)
    · replace hf := if_p c_4 hf
      refine lv_aload_n hx hb dX7_check_24 rfl (lv_at hl 1 rfl) ?_
      refine gf6_9 C hS (rfl) g_235 dX7_check_25 ?_
      refine lv_if_ne (tgt := 35) hx hb dX7_check_28 (by decide) (fun c_5 => ?_) (fun c_5 => ?_)
      · replace hf := if_n c_5 hf
        refine lv_aload_n hx hb dX7_check_35 rfl (lv_at hl 1 rfl) ?_
        refine gf6_4 C hS (rfl) g_230 dX7_check_36 ?_
        refine lv_aload_n hx hb dX7_check_39 rfl (lv_at hl 1 rfl) ?_
        refine gf6_3 C hS (rfl) g_229 dX7_check_40 ?_
        obtain ⟨r_6, x_7, qr_6, hf⟩ := bd_out hf
        refine rvV (As := [.ref (G.1 + 15)]) (rest := []) C hS (rfl) rfl KX4_become (cX4_become_ (rfl) (rfl) qr_6) g_430 ⟨rfl, rfl⟩ ⟨(Nat.le_of_ble_eq_true rfl), (Nat.le_of_ble_eq_true rfl)⟩ hl.1 rfl rfl (Nat.le_of_ble_eq_true rfl) ⟨Nat.zero_le _, Nat.zero_le _⟩ dX7_check_43 (fun H locs hS => ?_)
        refine lv_iload_n hx hb dX7_check_46 rfl (lv_at hl 2 rfl) ?_
        refine lv_sipush (v := 9999) hx hb dX7_check_47 (by decide) ?_
        refine lv_aload_n hx hb dX7_check_50 rfl (lv_at hl 1 rfl) ?_
        refine gf6_3 C hS (rfl) g_229 dX7_check_51 ?_
        refine gf3_8 C hS (rfl) g_117 dX7_check_54 ?_
        refine lv_isub hx hb dX7_check_57 ?_
        refine va_mmin hx hb (C.2.2.1.trans hl.1.symm) hown (hw _ g_356) (hw _ g_324) (hw _ g_10) (hw _ g_325) (Nat.le_of_ble_eq_true rfl) (Nat.le_of_ble_eq_true rfl) (Nat.zero_le _) (Nat.zero_le _) dX7_check_58 ?_
        obtain ⟨v_8, ev_8, hf⟩ := st_out hf
        refine topI ev_8 ?_
        refine lv_istore_n (lv' := [(3, .int v_8), (2, .int v_1), (0, .ref (G.1 + 0)), (1, .int v1)]) hx hb dX7_check_61 rfl hl (by decide) rfl (fun ls hl => ?_)
        refine lv_iconst (v := 0) hx hb dX7_check_62 (by decide) ?_
        refine lv_istore (lv' := [(4, .int 0), (3, .int v_8), (2, .int v_1), (0, .ref (G.1 + 0)), (1, .int v1)]) hx hb dX7_check_63 hl (by decide) rfl (fun ls hl => ?_)
        exact wX7_check_h65  C v_1 v_8 0 x_7 hf _ _ _ hS (lv_sub hl [3, 2, 1, 0] rfl)
      · replace hf := if_p c_5 hf
        refine lv_ldcw (v := (-1000000002)) hx hb hown (hw _ g_773) dX7_check_31 ?_
        exact rtI C hS hf dX7_check_34
    · replace hf := if_n c_4 hf
      refine lv_ldc (v := (-1000000001)) hx hb hown (hw _ g_267) dX7_check_21 ?_
      exact rtI C hS hf dX7_check_23
abbrev rmX7_keep : Room := { frames := 2, cells := 0, slots := 0, locals := 43 }
set_option maxRecDepth 100000 in
set_option maxHeartbeats 4000000 in
theorem cX7_keep_ {G : GT} {l : Launch} {x z : XS} {r : Int32} (hf : fX7_keep x = some (r, z)) : Ct G l yX7_keep (.code yX7_keep cX7_keep 1 (some .int)) rmX7_keep [.ref (G.1 + 0)] x (some (.int r)) z := by
  refine Ct.of (by decide +kernel) (Nat.le_of_ble_eq_true rfl) ?_
  intro p e s m args below meth c C ls hl hS
  have C : CX G p s m args meth c cX7_keep 1 (some .int) RX7 := C
  have hl : lv_has ls 1 [(0, .ref (G.1 + 0))] := hl
  have hx := C.1
  have hb := C.2.1
  have hown := C.2.2.2.2.2.1
  have hw := C.2.2.2.2.2.2.1
  unfold fX7_keep at hf
  refine lv_aload_n hx hb dX7_keep_0 rfl (lv_at hl 0 rfl) ?_
  refine gf6_3 C hS (rfl) g_229 dX7_keep_1 ?_
  refine lv_aload_n hx hb dX7_keep_4 rfl (lv_at hl 0 rfl) ?_
  refine gf6_2 C hS (rfl) g_228 dX7_keep_5 ?_
  obtain ⟨r_1, x_2, qr_1, hf⟩ := bd_out hf
  refine rvV (As := [.ref (G.1 + 4)]) (rest := []) C hS (rfl) rfl KX4_become (cX4_become_ (rfl) (rfl) qr_1) g_430 ⟨rfl, rfl⟩ ⟨(Nat.le_of_ble_eq_true rfl), (Nat.le_of_ble_eq_true rfl)⟩ hl.1 rfl rfl (Nat.le_of_ble_eq_true rfl) ⟨Nat.zero_le _, Nat.zero_le _⟩ dX7_keep_8 (fun H locs hS => ?_)
  refine lv_aload_n hx hb dX7_keep_11 rfl (lv_at hl 0 rfl) ?_
  refine lv_iconst (v := 1) hx hb dX7_keep_12 (by decide) ?_
  obtain ⟨x_3, ex_3, hf⟩ := st_out hf
  refine pf6_9 C hS (rfl) g_235 rfl ex_3 dX7_keep_13 (fun H locs hS => ?_)
  refine lv_aload_n hx hb dX7_keep_16 rfl (lv_at hl 0 rfl) ?_
  refine gf6_3 C hS (rfl) g_229 dX7_keep_17 ?_
  refine gf3_2 C hS (rfl) g_105 dX7_keep_20 ?_
  exact rtI C hS hf dX7_keep_23
abbrev rmX7_back : Room := { frames := 2, cells := 0, slots := 0, locals := 43 }
set_option maxRecDepth 100000 in
set_option maxHeartbeats 4000000 in
theorem cX7_back_ {G : GT} {l : Launch} {x z : XS} {r : Int32} (hf : fX7_back x = some (r, z)) : Ct G l yX7_back (.code yX7_back cX7_back 1 (some .int)) rmX7_back [.ref (G.1 + 0)] x (some (.int r)) z := by
  refine Ct.of (by decide +kernel) (Nat.le_of_ble_eq_true rfl) ?_
  intro p e s m args below meth c C ls hl hS
  have C : CX G p s m args meth c cX7_back 1 (some .int) RX7 := C
  have hl : lv_has ls 1 [(0, .ref (G.1 + 0))] := hl
  have hx := C.1
  have hb := C.2.1
  have hown := C.2.2.2.2.2.1
  have hw := C.2.2.2.2.2.2.1
  unfold fX7_back at hf
  refine lv_aload_n hx hb dX7_back_0 rfl (lv_at hl 0 rfl) ?_
  refine gf6_9 C hS (rfl) g_235 dX7_back_1 ?_
  refine lv_if_ne (tgt := 11) hx hb dX7_back_4 (by decide) (fun c_1 => ?_) (fun c_1 => ?_)
  · replace hf := if_n c_1 hf
    refine lv_aload_n hx hb dX7_back_11 rfl (lv_at hl 0 rfl) ?_
    refine gf6_2 C hS (rfl) g_228 dX7_back_12 ?_
    refine lv_aload_n hx hb dX7_back_15 rfl (lv_at hl 0 rfl) ?_
    refine gf6_3 C hS (rfl) g_229 dX7_back_16 ?_
    obtain ⟨r_2, x_3, qr_2, hf⟩ := bd_out hf
    refine rvV (As := [.ref (G.1 + 15)]) (rest := []) C hS (rfl) rfl KX4_become (cX4_become_ (rfl) (rfl) qr_2) g_430 ⟨rfl, rfl⟩ ⟨(Nat.le_of_ble_eq_true rfl), (Nat.le_of_ble_eq_true rfl)⟩ hl.1 rfl rfl (Nat.le_of_ble_eq_true rfl) ⟨Nat.zero_le _, Nat.zero_le _⟩ dX7_back_19 (fun H locs hS => ?_)
    refine lv_aload_n hx hb dX7_back_22 rfl (lv_at hl 0 rfl) ?_
    refine gf6_2 C hS (rfl) g_228 dX7_back_23 ?_
    refine gf3_2 C hS (rfl) g_105 dX7_back_26 ?_
    exact rtI C hS hf dX7_back_29
  · replace hf := if_p c_1 hf
    refine lv_ldcw (v := (-1000000002)) hx hb hown (hw _ g_773) dX7_back_7 ?_
    exact rtI C hS hf dX7_back_10
abbrev rmX7_count : Room := { frames := 0, cells := 0, slots := 0, locals := 0 }
set_option maxRecDepth 100000 in
set_option maxHeartbeats 4000000 in
theorem cX7_count_ {G : GT} {l : Launch} {v1 : Int32} {x z : XS} {r : Int32} (hf : fX7_count v1 x = some (r, z)) : Ct G l yX7_count (.code yX7_count cX7_count 2 (some .int)) rmX7_count [.ref (G.1 + 0), .int v1] x (some (.int r)) z := by
  refine Ct.of (by decide +kernel) (Nat.le_of_ble_eq_true rfl) ?_
  intro p e s m args below meth c C ls hl hS
  have C : CX G p s m args meth c cX7_count 2 (some .int) RX7 := C
  have hl : lv_has ls 2 [(0, .ref (G.1 + 0)), (1, .int v1)] := hl
  have hx := C.1
  have hb := C.2.1
  have hown := C.2.2.2.2.2.1
  have hw := C.2.2.2.2.2.2.1
  unfold fX7_count at hf
  refine lv_iload_n hx hb dX7_count_0 rfl (lv_at hl 1 rfl) ?_
  by_cases c_1 : v1 = 0
  · replace hf := if_p c_1 hf
    refine tswI (k := 0) (off := 51) (tgt := 52) hx hb dX7_count_1 c_1 (by decide) rfl (by decide) ?_
    refine lv_aload_n hx hb dX7_count_52 rfl (lv_at hl 0 rfl) ?_
    refine gf6_2 C hS (rfl) g_228 dX7_count_53 ?_
    refine gf3_2 C hS (rfl) g_105 dX7_count_56 ?_
    exact rtI C hS hf dX7_count_59
  · replace hf := if_n c_1 hf
    by_cases c_2 : v1 = 1
    · replace hf := if_p c_2 hf
      refine tswI (k := 1) (off := 59) (tgt := 60) hx hb dX7_count_1 c_2 (by decide) rfl (by decide) ?_
      refine lv_aload_n hx hb dX7_count_60 rfl (lv_at hl 0 rfl) ?_
      refine gf6_2 C hS (rfl) g_228 dX7_count_61 ?_
      refine gf3_8 C hS (rfl) g_117 dX7_count_64 ?_
      exact rtI C hS hf dX7_count_67
    · replace hf := if_n c_2 hf
      by_cases c_3 : v1 = 2
      · replace hf := if_p c_3 hf
        refine tswI (k := 2) (off := 67) (tgt := 68) hx hb dX7_count_1 c_3 (by decide) rfl (by decide) ?_
        refine lv_aload_n hx hb dX7_count_68 rfl (lv_at hl 0 rfl) ?_
        refine gf6_2 C hS (rfl) g_228 dX7_count_69 ?_
        refine gf3_4 C hS (rfl) g_109 dX7_count_72 ?_
        exact rtI C hS hf dX7_count_75
      · replace hf := if_n c_3 hf
        by_cases c_4 : v1 = 3
        · replace hf := if_p c_4 hf
          refine tswI (k := 3) (off := 75) (tgt := 76) hx hb dX7_count_1 c_4 (by decide) rfl (by decide) ?_
          refine lv_aload_n hx hb dX7_count_76 rfl (lv_at hl 0 rfl) ?_
          refine gf6_2 C hS (rfl) g_228 dX7_count_77 ?_
          refine gf3_6 C hS (rfl) g_113 dX7_count_80 ?_
          exact rtI C hS hf dX7_count_83
        · replace hf := if_n c_4 hf
          by_cases c_5 : v1 = 4
          · replace hf := if_p c_5 hf
            refine tswI (k := 4) (off := 83) (tgt := 84) hx hb dX7_count_1 c_5 (by decide) rfl (by decide) ?_
            refine lv_aload_n hx hb dX7_count_84 rfl (lv_at hl 0 rfl) ?_
            refine gf6_2 C hS (rfl) g_228 dX7_count_85 ?_
            refine gf3_10 C hS (rfl) g_121 dX7_count_88 ?_
            refine lv_if_eq (tgt := 98) hx hb dX7_count_91 (by decide) (fun c_6 => ?_) (fun c_6 => ?_)
            · replace hf := if_p c_6 hf
              refine lv_iconst (v := 0) hx hb dX7_count_98 (by decide) ?_
              exact rtI C hS hf dX7_count_99
            · replace hf := if_n c_6 hf
              refine lv_iconst (v := 1) hx hb dX7_count_94 (by decide) ?_
              refine lv_goto (tgt := 99) hx hb dX7_count_95 (by decide) ?_
              exact rtI C hS hf dX7_count_99
          · replace hf := if_n c_5 hf
            by_cases c_7 : v1 = 5
            · replace hf := if_p c_7 hf
              refine tswI (k := 5) (off := 99) (tgt := 100) hx hb dX7_count_1 c_7 (by decide) rfl (by decide) ?_
              refine lv_aload_n hx hb dX7_count_100 rfl (lv_at hl 0 rfl) ?_
              refine gf6_2 C hS (rfl) g_228 dX7_count_101 ?_
              refine gf3_3 C hS (rfl) g_107 dX7_count_104 ?_
              exact rtI C hS hf dX7_count_107
            · replace hf := if_n c_7 hf
              by_cases c_8 : v1 = 6
              · replace hf := if_p c_8 hf
                refine tswI (k := 6) (off := 107) (tgt := 108) hx hb dX7_count_1 c_8 (by decide) rfl (by decide) ?_
                refine lv_aload_n hx hb dX7_count_108 rfl (lv_at hl 0 rfl) ?_
                refine gf6_8 C hS (rfl) g_234 dX7_count_109 ?_
                exact rtI C hS hf dX7_count_112
              · replace hf := if_n c_8 hf
                by_cases c_9 : v1 = 7
                · replace hf := if_p c_9 hf
                  refine tswI (k := 7) (off := 112) (tgt := 113) hx hb dX7_count_1 c_9 (by decide) rfl (by decide) ?_
                  refine lv_aload_n hx hb dX7_count_113 rfl (lv_at hl 0 rfl) ?_
                  refine gf6_1 C hS (rfl) g_227 dX7_count_114 ?_
                  refine gf4_0 C hS (rfl) g_34 dX7_count_117 ?_
                  exact rtI C hS hf dX7_count_120
                · replace hf := if_n c_9 hf
                  by_cases c_10 : v1 = 8
                  · replace hf := if_p c_10 hf
                    refine tswI (k := 8) (off := 120) (tgt := 121) hx hb dX7_count_1 c_10 (by decide) rfl (by decide) ?_
                    refine lv_aload_n hx hb dX7_count_121 rfl (lv_at hl 0 rfl) ?_
                    refine gf6_2 C hS (rfl) g_228 dX7_count_122 ?_
                    refine gf3_9 C hS (rfl) g_119 dX7_count_125 ?_
                    exact rtI C hS hf dX7_count_128
                  · replace hf := if_n c_10 hf
                    refine lv_tableOut (tgt := 129) hx hb dX7_count_1 (by have zc_1 := lv_neT c_1 (a := 0) (by decide); have zc_2 := lv_neT c_2 (a := 1) (by decide); have zc_3 := lv_neT c_3 (a := 2) (by decide); have zc_4 := lv_neT c_4 (a := 3) (by decide); have zc_5 := lv_neT c_5 (a := 4) (by decide); have zc_7 := lv_neT c_7 (a := 5) (by decide); have zc_8 := lv_neT c_8 (a := 6) (by decide); have zc_9 := lv_neT c_9 (a := 7) (by decide); have zc_10 := lv_neT c_10 (a := 8) (by decide); omega) (by decide) ?_
                    refine lv_ldc (v := (-1000000001)) hx hb hown (hw _ g_267) dX7_count_129 ?_
                    exact rtI C hS hf dX7_count_131
