theorem fV_in {G : GT} {V : Nat → Nat → Value} {a z b : Nat} (h : a ≤ b ∧ b < a + z) : fV G V a z b = FIN G b := by unfold fV; rw [if_pos h]
theorem fV_out {G : GT} {V : Nat → Nat → Value} {a z b : Nat} (h : ¬ (a ≤ b ∧ b < a + z)) : fV G V a z b = V b := by unfold fV; rw [if_neg h]
theorem uV_ne {V : Nat → Nat → Value} {a b : Nat} {f : Nat → Value} (h : b ≠ a) : uV V a f b = V b := by unfold uV; rw [if_neg h]
theorem ta_b : ∀ b : Fin 121, tg b.val = 4 → tg (b.val + 1) = 9 ∧ ln (b.val + 1) = 96 ∧ b.val + 1 < 99 := by decide
theorem ta_p {a : Nat} (h : tg a = 4) : tg (a + 1) = 9 := (ta_b ⟨a, tg_lt h (by decide)⟩ h).1
theorem ta_n {a : Nat} (h : tg a = 4) : ln (a + 1) = 96 := (ta_b ⟨a, tg_lt h (by decide)⟩ h).2.1
theorem ta_l {a : Nat} (h : tg a = 4) : a + 1 < 99 := (ta_b ⟨a, tg_lt h (by decide)⟩ h).2.2
theorem tx_b : ∀ b : Fin 121, tg b.val = 5 → b.val + 1 < 99 := by decide
theorem tx_l {a : Nat} (h : tg a = 5) : a + 1 < 99 := tx_b ⟨a, tg_lt h (by decide)⟩ h
theorem x0_arb {a : Nat} (h : tg a = 9) (h1 : a < 99) (k : Nat) : x0 a k = 0 := by
  unfold x0
  rw [if_neg (by omega), if_neg (by omega), if_neg (by omega), if_neg (by omega), if_neg (by omega), h]
  rfl
abbrev rmX5_init : Room := { frames := 1, cells := 1, slots := 96, locals := 20 }
set_option maxRecDepth 100000 in
theorem cX5_init_ {G : GT} {l : Launch} {a : Nat} {V : Nat → Nat → Value} (ha : tg a = 4) : CtI G l yX5_init (.code yX5_init cX5_init 1 none) rmX5_init [.ref (G.1 + a)] (a + 1) V (a + 2) (fV G V a 2) := by
  refine CtI.of (by decide +kernel) rfl (Nat.le_of_ble_eq_true rfl) ?_
  intro p e s m args below meth c C hin hAO ls hl hS
  have C : CX G p s m args meth c cX5_init 1 none RX5 := C
  have hl : lv_has ls 1 [(0, .ref (G.1 + a))] := hl
  have hx := C.1
  have hb := C.2.1
  refine lv_aload_n hx hb dX5_init_0 rfl (lv_at hl 0 rfl) ?_
  refine objI C g_32 g_23 g_24 hl.1 (Nat.le_of_ble_eq_true rfl) ⟨(Nat.le_of_ble_eq_true rfl), (Nat.le_of_ble_eq_true rfl)⟩ dX5_init_1 ?_
  refine lv_aload_n hx hb dX5_init_4 rfl (lv_at hl 0 rfl) ?_
  refine lv_iconst (v := 0) hx hb dX5_init_5 (by decide) ?_
  refine putV C hS (by omega) ha rfl rfl giX5 tyX5 tyX5_ok nmX5 0 (by decide) rfl g_33 rfl rfl rfl dX5_init_6 (fun H locs hS => ?_)
  refine lv_aload_n hx hb dX5_init_9 rfl (lv_at hl 0 rfl) ?_
  refine lv_bipush (v := 96) hx hb dX5_init_10 (by decide) ?_
  refine newA (atype := .byte) C hS (ta_p ha) (by decide) 1 rfl rfl g_53 (ta_n ha) (by decide) (by decide) (Nat.le_of_ble_eq_true rfl) (Nat.le_of_ble_eq_true rfl) (Nat.le_of_ble_eq_true rfl) dX5_init_12 (fun H (hS : SV G (a + 1 + 1) _ H _) => ?_)
  refine putF C hS (by omega) ha rfl rfl giX5 tyX5 tyX5_ok nmX5 1 (by decide) rfl g_35 hin rfl rfl rfl dX5_init_14 (fun H locs hS => ?_)
  refine lv_aload_n hx hb dX5_init_17 rfl (lv_at hl 0 rfl) ?_
  refine lv_iconst (v := 0) hx hb dX5_init_18 (by decide) ?_
  refine putV C hS (by omega) ha rfl rfl giX5 tyX5 tyX5_ok nmX5 2 (by decide) rfl g_36 rfl rfl rfl dX5_init_19 (fun H locs hS => ?_)
  refine lv_aload_n hx hb dX5_init_22 rfl (lv_at hl 0 rfl) ?_
  refine lv_iconst (v := 0) hx hb dX5_init_23 (by decide) ?_
  refine putV C hS (by omega) ha rfl rfl giX5 tyX5 tyX5_ok nmX5 3 (by decide) rfl g_37 rfl rfl rfl dX5_init_24 (fun H locs hS => ?_)
  refine lv_aload_n hx hb dX5_init_27 rfl (lv_at hl 0 rfl) ?_
  refine lv_iconst (v := 0) hx hb dX5_init_28 (by decide) ?_
  refine putV C hS (by omega) ha rfl rfl giX5 tyX5 tyX5_ok nmX5 4 (by decide) rfl g_38 rfl rfl rfl dX5_init_29 (fun H locs hS => ?_)
  refine lv_aload_n hx hb dX5_init_32 rfl (lv_at hl 0 rfl) ?_
  refine lv_iconst (v := 0) hx hb dX5_init_33 (by decide) ?_
  refine putV C hS (by omega) ha rfl rfl giX5 tyX5 tyX5_ok nmX5 5 (by decide) rfl g_39 rfl rfl rfl dX5_init_34 (fun H locs hS => ?_)
  refine rtI0 C (hS.to (fun b hb j hj => ?_)) dX5_init_37
  unfold fV
  by_cases e : b = a
  · subst e
    rw [if_pos (by omega)]
    have h7 : j < 6 := by unfold szc at hj; rw [ha] at hj; exact hj
    rcases (show j = 0 ∨ j = 2 ∨ j = 3 ∨ j = 4 ∨ j = 5 ∨ j = 1 by omega) with rfl | rfl | rfl | rfl | rfl | rfl
    · rw [show FIN G b 0 = .int (x0 b 0) from vwI ha (by decide) rfl, x0_off (by rw [ha]; decide), ha]; simp [uV, updV]
    · rw [show FIN G b 2 = .int (x0 b 2) from vwI ha (by decide) rfl, x0_off (by rw [ha]; decide), ha]; simp [uV, updV]
    · rw [show FIN G b 3 = .int (x0 b 3) from vwI ha (by decide) rfl, x0_off (by rw [ha]; decide), ha]; simp [uV, updV]
    · rw [show FIN G b 4 = .int (x0 b 4) from vwI ha (by decide) rfl, x0_off (by rw [ha]; decide), ha]; simp [uV, updV]
    · rw [show FIN G b 5 = .int (x0 b 5) from vwI ha (by decide) rfl, x0_off (by rw [ha]; decide), ha]; simp [uV, updV]
    · rw [show FIN G b 1 = .ref (G.1 + (b + 1)) from vwR ha (by decide) rfl]; simp [uV, updV]
  by_cases e1 : b = a + 1
  · subst e1
    rw [if_pos (by omega)]
    have hp := ta_p ha
    rw [show FIN G (a + 1) j = .int (x0 (a + 1) j) from vwI hp (by decide) rfl]
    rw [x0_arb hp (ta_l ha)]
    simp [uV]
    rfl
  · rw [if_neg (by omega)]
    simp [uV, e, e1]
abbrev rmX6_init : Room := { frames := 1, cells := 1, slots := 96, locals := 20 }
set_option maxRecDepth 100000 in
theorem cX6_init_ {G : GT} {l : Launch} {a : Nat} {V : Nat → Nat → Value} {n : Int32} (ha : tg a = 5) (hn : x0 a 0 = n) : CtI G l yX6_init (.code yX6_init cX6_init 3 none) rmX6_init [.ref (G.1 + a), .int n, .ref (G.1 + 40)] (a + 1) V (a + 2) (fV G V a 2) := by
  refine CtI.of (by decide +kernel) rfl (Nat.le_of_ble_eq_true rfl) ?_
  intro p e s m args below meth c C hin hAO ls hl hS
  have C : CX G p s m args meth c cX6_init 3 none RX6 := C
  have hl : lv_has ls 3 [(0, .ref (G.1 + a)), (1, .int n), (2, .ref (G.1 + 40))] := hl
  have hx := C.1
  have hb := C.2.1
  refine lv_aload_n hx hb dX6_init_0 rfl (lv_at hl 0 rfl) ?_
  refine objI C g_157 g_23 g_24 hl.1 (Nat.le_of_ble_eq_true rfl) ⟨(Nat.le_of_ble_eq_true rfl), (Nat.le_of_ble_eq_true rfl)⟩ dX6_init_1 ?_
  refine lv_aload_n hx hb dX6_init_4 rfl (lv_at hl 0 rfl) ?_
  refine lv_iconst (v := 0) hx hb dX6_init_5 (by decide) ?_
  refine putV C hS (by omega) ha rfl rfl giX6 tyX6 tyX6_ok nmX6 1 (by decide) rfl g_160 rfl rfl rfl dX6_init_6 (fun H locs hS => ?_)
  refine lv_aload_n hx hb dX6_init_9 rfl (lv_at hl 0 rfl) ?_
  refine lv_iconst (v := 0) hx hb dX6_init_10 (by decide) ?_
  refine putV C hS (by omega) ha rfl rfl giX6 tyX6 tyX6_ok nmX6 2 (by decide) rfl g_163 rfl rfl rfl dX6_init_11 (fun H locs hS => ?_)
  refine lv_aload_n hx hb dX6_init_14 rfl (lv_at hl 0 rfl) ?_
  refine lv_iconst (v := 0) hx hb dX6_init_15 (by decide) ?_
  refine putV C hS (by omega) ha rfl rfl giX6 tyX6 tyX6_ok nmX6 3 (by decide) rfl g_165 rfl rfl rfl dX6_init_16 (fun H locs hS => ?_)
  refine lv_aload_n hx hb dX6_init_19 rfl (lv_at hl 0 rfl) ?_
  refine lv_bipush (v := 96) hx hb dX6_init_20 (by decide) ?_
  refine newA (atype := .int) C hS (tx_i ha) (by decide) 0 rfl rfl g_181 (tx_n ha) (by decide) (by decide) (Nat.le_of_ble_eq_true rfl) (Nat.le_of_ble_eq_true rfl) (Nat.le_of_ble_eq_true rfl) dX6_init_22 (fun H (hS : SV G (a + 1 + 1) _ H _) => ?_)
  refine putF C hS (by omega) ha rfl rfl giX6 tyX6 tyX6_ok nmX6 4 (by decide) rfl g_166 hin rfl rfl rfl dX6_init_24 (fun H locs hS => ?_)
  refine lv_aload_n hx hb dX6_init_27 rfl (lv_at hl 0 rfl) ?_
  refine lv_iload_n hx hb dX6_init_28 rfl (lv_at hl 1 rfl) ?_
  refine putF C hS (by omega) ha rfl rfl giX6 tyX6 tyX6_ok nmX6 0 (by decide) rfl g_158 hin rfl rfl rfl dX6_init_29 (fun H locs hS => ?_)
  refine lv_aload_n hx hb dX6_init_32 rfl (lv_at hl 0 rfl) ?_
  refine lv_aload_n hx hb dX6_init_33 rfl (lv_at hl 2 rfl) ?_
  refine putF C hS (by omega) ha rfl rfl giX6 tyX6 tyX6_ok nmX6 5 (by decide) rfl g_167 hin rfl rfl rfl dX6_init_34 (fun H locs hS => ?_)
  refine rtI0 C (hS.to (fun b hb j hj => ?_)) dX6_init_37
  unfold fV
  by_cases e : b = a
  · subst e
    rw [if_pos (by omega)]
    have h7 : j < 6 := by unfold szc at hj; rw [ha] at hj; exact hj
    rcases (show j = 0 ∨ j = 1 ∨ j = 2 ∨ j = 3 ∨ j = 4 ∨ j = 5 by omega) with rfl | rfl | rfl | rfl | rfl | rfl
    · rw [show FIN G b 0 = .int (x0 b 0) from vwI ha (by decide) rfl, hn]; simp [uV, updV]
    · rw [show FIN G b 1 = .int (x0 b 1) from vwI ha (by decide) rfl, x0_off (by rw [ha]; decide), ha]; simp [uV, updV]
    · rw [show FIN G b 2 = .int (x0 b 2) from vwI ha (by decide) rfl, x0_off (by rw [ha]; decide), ha]; simp [uV, updV]
    · rw [show FIN G b 3 = .int (x0 b 3) from vwI ha (by decide) rfl, x0_off (by rw [ha]; decide), ha]; simp [uV, updV]
    · rw [show FIN G b 4 = .ref (G.1 + (b + 1)) from vwR ha (by decide) rfl]; simp [uV, updV]
    · rw [show FIN G b 5 = .ref (G.1 + 40) from vwR ha (by decide) rfl]; simp [uV, updV]
  by_cases e1 : b = a + 1
  · subst e1
    rw [if_pos (by omega)]
    have hp := tx_i ha
    rw [show FIN G (a + 1) j = .int (x0 (a + 1) j) from vwI hp (by decide) rfl]
    rw [x0_arr hp (tx_l ha)]
    simp [uV]
    rfl
  · rw [if_neg (by omega)]
    simp [uV, e, e1]
abbrev rmX3_init : Room := { frames := 2, cells := 3, slots := 34, locals := 40 }
set_option maxRecDepth 100000 in
theorem cX3_init_ {G : GT} {l : Launch} {a : Nat} {V : Nat → Nat → Value} (ha : tg a = 2) : CtI G l yX3_init (.code yX3_init cX3_init 1 none) rmX3_init [.ref (G.1 + a)] (a + 1) V (a + 4) (fV G V a 4) := by
  refine CtI.of (by decide +kernel) rfl (Nat.le_of_ble_eq_true rfl) ?_
  intro p e s m args below meth c C hin hAO ls hl hS
  have C : CX G p s m args meth c cX3_init 1 none RX3 := C
  have hl : lv_has ls 1 [(0, .ref (G.1 + a))] := hl
  have hx := C.1
  have hb := C.2.1
  refine lv_aload_n hx hb dX3_init_0 rfl (lv_at hl 0 rfl) ?_
  refine objI C g_204 g_23 g_24 hl.1 (Nat.le_of_ble_eq_true rfl) ⟨(Nat.le_of_ble_eq_true rfl), (Nat.le_of_ble_eq_true rfl)⟩ dX3_init_1 ?_
  refine lv_aload_n hx hb dX3_init_4 rfl (lv_at hl 0 rfl) ?_
  refine lv_iconst (v := 0) hx hb dX3_init_5 (by decide) ?_
  refine putV C hS (by omega) ha rfl rfl giX3 tyX3 tyX3_ok nmX3 0 (by decide) rfl g_209 rfl rfl rfl dX3_init_6 (fun H locs hS => ?_)
  refine lv_aload_n hx hb dX3_init_9 rfl (lv_at hl 0 rfl) ?_
  refine lv_iconst (v := 0) hx hb dX3_init_10 (by decide) ?_
  refine putV C hS (by omega) ha rfl rfl giX3 tyX3 tyX3_ok nmX3 1 (by decide) rfl g_211 rfl rfl rfl dX3_init_11 (fun H locs hS => ?_)
  refine lv_aload_n hx hb dX3_init_14 rfl (lv_at hl 0 rfl) ?_
  refine newO C hS (sl_b ha) rfl rfl giX0 tyX0 tyX0_ok g_205 g_63 g_4 (Nat.le_of_ble_eq_true rfl) (Nat.le_of_ble_eq_true rfl) dX3_init_15 (fun H (hS : SV G (a + 1 + 1) _ H _) => ?_)
  refine lv_dup hx hb dX3_init_18 rfl ?_
  refine rcI (e := e) (a := a + 1) (As := []) (rest := [.ref (G.1 + (a + 1)), .ref (G.1 + a)]) C hAO hS (cX0_init_ (sl_b ha)) g_206 g_65 rfl g_4 g_66 ⟨by decide +kernel, by decide +kernel, by decide +kernel⟩ ⟨(Nat.le_of_ble_eq_true rfl), (Nat.le_of_ble_eq_true rfl)⟩ hl.1 rfl rfl (Nat.le_of_ble_eq_true rfl) ⟨(Nat.le_of_ble_eq_true rfl), (Nat.le_of_ble_eq_true rfl)⟩ dX3_init_19 (fun H locs (hS : SV G (a + 1 + 1) _ H locs) => ?_)
  refine putF C hS (by omega) ha rfl rfl giX3 tyX3 tyX3_ok nmX3 2 (by decide) rfl g_213 hin rfl rfl rfl dX3_init_22 (fun H locs hS => ?_)
  refine lv_aload_n hx hb dX3_init_25 rfl (lv_at hl 0 rfl) ?_
  refine newO C hS (sl_s ha) rfl rfl giX2 tyX2 tyX2_ok g_207 g_182 g_6 (Nat.le_of_ble_eq_true rfl) (Nat.le_of_ble_eq_true rfl) dX3_init_26 (fun H (hS : SV G (a + 1 + 1 + 1) _ H _) => ?_)
  refine lv_dup hx hb dX3_init_29 rfl ?_
  refine rcI (e := e) (a := a + 1 + 1) (As := []) (rest := [.ref (G.1 + (a + 1 + 1)), .ref (G.1 + a)]) C hAO hS (cX2_init_ (a := a + 1 + 1) (sl_s ha)) g_208 g_184 rfl g_6 g_185 ⟨by decide +kernel, by decide +kernel, by decide +kernel⟩ ⟨(Nat.le_of_ble_eq_true rfl), (Nat.le_of_ble_eq_true rfl)⟩ hl.1 rfl rfl (Nat.le_of_ble_eq_true rfl) ⟨(Nat.le_of_ble_eq_true rfl), (Nat.le_of_ble_eq_true rfl)⟩ dX3_init_30 (fun H locs (hS : SV G (a + 1 + 1 + 2) _ H locs) => ?_)
  refine putF C hS (by omega) ha rfl rfl giX3 tyX3 tyX3_ok nmX3 3 (by decide) rfl g_215 hin rfl rfl rfl dX3_init_33 (fun H locs hS => ?_)
  refine rtI0 C (hS.to (fun b hb j hj => ?_)) dX3_init_36
  by_cases e : b = a
  · subst e
    have h7 : j < 4 := by unfold szc at hj; rw [ha] at hj; exact hj
    have e9 : fV G V b 4 b j = FIN G b j := by unfold fV; rw [if_pos (by omega)]
    rw [e9]
    have n1 : ¬ (b + 1 + 1 ≤ b) := by omega
    have n2 : ¬ (b = b + 1 + 1) := by omega
    have n3 : ¬ (b + 1 ≤ b) := by omega
    rcases (show j = 0 ∨ j = 1 ∨ j = 2 ∨ j = 3 by omega) with rfl | rfl | rfl | rfl
    · rw [show FIN G b 0 = .int (x0 b 0) from vwI ha (by decide) rfl, x0_off (by rw [ha]; decide), ha]; simp [uV, updV, fV, n1, n2, n3]
    · rw [show FIN G b 1 = .int (x0 b 1) from vwI ha (by decide) rfl, x0_off (by rw [ha]; decide), ha]; simp [uV, updV, fV, n1, n2, n3]
    · rw [show FIN G b 2 = .ref (G.1 + (b + 1)) from vwR ha (by decide) rfl]; simp [uV, updV, fV, n1, n2, n3]
    · rw [show FIN G b 3 = .ref (G.1 + (b + 2)) from vwR ha (by decide) rfl]; simp [uV, updV, fV, n1, n2, n3]
  by_cases e1 : b = a + 1
  · rw [uV_ne (by omega), fV_out (by omega), uV_ne (by omega), uV_ne (by omega), fV_in (by omega), fV_in (by omega)]
  by_cases e2 : a + 2 ≤ b
  · rw [uV_ne (by omega), fV_in (by omega), fV_in (by omega)]
  · rw [uV_ne (by omega), fV_out (by omega), uV_ne (by omega), uV_ne (by omega), fV_out (by omega), uV_ne (by omega), uV_ne (by omega), uV_ne (by omega), fV_out (by omega)]
