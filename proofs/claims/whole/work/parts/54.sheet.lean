theorem sh_b : ∀ b : Fin 121, tg b.val = 1 → b.val + 1 < 99 := by decide
theorem x0_arr {a : Nat} (h : tg a = 8) (h1 : a < 99) (k : Nat) : x0 a k = 0 := by
  unfold x0
  rw [if_neg (by omega), if_neg (by omega), if_neg (by omega), if_neg (by omega), if_neg (by omega), h]
  rfl
abbrev rmX2_init : Room := { frames := 1, cells := 1, slots := 24, locals := 20 }
set_option maxRecDepth 100000 in
theorem cX2_init_ {G : GT} {l : Launch} {a : Nat} {V : Nat → Nat → Value} (ha : tg a = 1) : CtI G l yX2_init (.code yX2_init cX2_init 1 none) rmX2_init [.ref (G.1 + a)] (a + 1) V (a + 2) (fV G V a 2) := by
  refine CtI.of (by decide +kernel) rfl (Nat.le_of_ble_eq_true rfl) ?_
  intro p e s m args below meth c C hin hAO ls hl hS
  have C : CX G p s m args meth c cX2_init 1 none RX2 := C
  have hl : lv_has ls 1 [(0, .ref (G.1 + a))] := hl
  have hx := C.1
  have hb := C.2.1
  refine lv_aload_n hx hb dX2_init_0 rfl (lv_at hl 0 rfl) ?_
  refine objI C g_186 g_23 g_24 hl.1 (Nat.le_of_ble_eq_true rfl) ⟨(Nat.le_of_ble_eq_true rfl), (Nat.le_of_ble_eq_true rfl)⟩ dX2_init_1 ?_
  refine lv_aload_n hx hb dX2_init_4 rfl (lv_at hl 0 rfl) ?_
  refine lv_iconst (v := (-1)) hx hb dX2_init_5 (by decide) ?_
  refine putV C hS (by omega) ha rfl rfl giX2 tyX2 tyX2_ok nmX2 0 (by decide) rfl g_187 rfl rfl rfl dX2_init_6 (fun H locs hS => ?_)
  refine lv_aload_n hx hb dX2_init_9 rfl (lv_at hl 0 rfl) ?_
  refine lv_iconst (v := 0) hx hb dX2_init_10 (by decide) ?_
  refine putV C hS (by omega) ha rfl rfl giX2 tyX2 tyX2_ok nmX2 1 (by decide) rfl g_189 rfl rfl rfl dX2_init_11 (fun H locs hS => ?_)
  refine lv_aload_n hx hb dX2_init_14 rfl (lv_at hl 0 rfl) ?_
  refine lv_bipush (v := 24) hx hb dX2_init_15 (by decide) ?_
  refine newA (atype := .int) C hS (sh_p ha) (by decide) 0 rfl rfl g_181 (sh_n ha) (by decide) (by decide) (Nat.le_of_ble_eq_true rfl) (Nat.le_of_ble_eq_true rfl) (Nat.le_of_ble_eq_true rfl) dX2_init_17 (fun H hS => ?_)
  refine putF C hS (by omega) ha rfl rfl giX2 tyX2 tyX2_ok nmX2 2 (by decide) rfl g_191 hin rfl rfl rfl dX2_init_19 (fun H locs hS => ?_)
  refine rtI0 C (hS.to (fun b hb j hj => ?_)) dX2_init_22
  unfold fV
  by_cases e : b = a
  · subst e
    rw [if_pos (by omega)]
    have h7 : j < 3 := by unfold szc at hj; rw [ha] at hj; exact hj
    rcases (show j = 0 ∨ j = 1 ∨ j = 2 by omega) with rfl | rfl | rfl
    · rw [show FIN G b 0 = .int (x0 b 0) from vwI ha (by decide) rfl, x0_off (by rw [ha]; decide), ha]; simp [uV, updV]
    · rw [show FIN G b 1 = .int (x0 b 1) from vwI ha (by decide) rfl, x0_off (by rw [ha]; decide), ha]; simp [uV, updV]
    · rw [show FIN G b 2 = .ref (G.1 + (b + 1)) from vwR ha (by decide) rfl]; simp [uV, updV]
  by_cases e1 : b = a + 1
  · subst e1
    rw [if_pos (by omega)]
    have hp := sh_p ha
    rw [show FIN G (a + 1) j = .int (x0 (a + 1) j) from vwI hp (by decide) rfl]
    rw [x0_arr hp (sh_b ⟨a, tg_lt ha (by omega)⟩ ha)]
    simp [uV]
    rfl
  · rw [if_neg (by omega)]
    simp [uV, e, e1]
