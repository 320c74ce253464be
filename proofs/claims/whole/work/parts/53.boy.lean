theorem x0_off {a : Nat} (h : tg a < 7) (k : Nat) : x0 a k = (match tg a with
    | 0 => if k = 2 ∨ k = 3 then 1 else 0
    | 1 => if k = 0 then -1 else 0
    | 3 => if k = 6 then 20 else if k = 9 then 1 else if k = 11 then -1 else 0
    | 5 => if k = 0 then nI ((a - 41) / 2) else 0
    | _ => 0) := by
  have n : ∀ b, ¬ tg b < 7 → ¬ a = b := fun b hb e => hb (e ▸ h)
  unfold x0
  rw [if_neg (n 99 (by decide)), if_neg (n 100 (by decide)), if_neg (n 105 (by decide)), if_neg (n 106 (by decide)), if_neg (n 112 (by decide))]
  rfl
abbrev rmX0_init : Room := { frames := 1, cells := 0, slots := 0, locals := 20 }
set_option maxRecDepth 100000 in
theorem cX0_init_ {G : GT} {l : Launch} {a : Nat} {V : Nat → Nat → Value} (ha : tg a = 0) : CtI G l yX0_init (.code yX0_init cX0_init 1 none) rmX0_init [.ref (G.1 + a)] (a + 1) V (a + 1) (fV G V a 1) := by
  refine CtI.of (by decide +kernel) rfl (Nat.le_of_ble_eq_true rfl) ?_
  intro p e s m args below meth c C hin hAO ls hl hS
  have C : CX G p s m args meth c cX0_init 1 none RX0 := C
  have hl : lv_has ls 1 [(0, .ref (G.1 + a))] := hl
  have hx := C.1
  have hb := C.2.1
  refine lv_aload_n hx hb dX0_init_0 rfl (lv_at hl 0 rfl) ?_
  refine objI C g_67 g_23 g_24 hl.1 (Nat.le_of_ble_eq_true rfl) ⟨(Nat.le_of_ble_eq_true rfl), (Nat.le_of_ble_eq_true rfl)⟩ dX0_init_1 ?_
  refine lv_aload_n hx hb dX0_init_4 rfl (lv_at hl 0 rfl) ?_
  refine lv_iconst (v := 0) hx hb dX0_init_5 (by decide) ?_
  refine putV C hS (by omega) ha rfl rfl giX0 tyX0 tyX0_ok nmX0 0 (by decide) rfl g_68 rfl rfl rfl dX0_init_6 (fun H locs hS => ?_)
  refine lv_aload_n hx hb dX0_init_9 rfl (lv_at hl 0 rfl) ?_
  refine lv_iconst (v := 0) hx hb dX0_init_10 (by decide) ?_
  refine putV C hS (by omega) ha rfl rfl giX0 tyX0 tyX0_ok nmX0 1 (by decide) rfl g_71 rfl rfl rfl dX0_init_11 (fun H locs hS => ?_)
  refine lv_aload_n hx hb dX0_init_14 rfl (lv_at hl 0 rfl) ?_
  refine lv_iconst (v := 1) hx hb dX0_init_15 (by decide) ?_
  refine putV C hS (by omega) ha rfl rfl giX0 tyX0 tyX0_ok nmX0 2 (by decide) rfl g_73 rfl rfl rfl dX0_init_16 (fun H locs hS => ?_)
  refine lv_aload_n hx hb dX0_init_19 rfl (lv_at hl 0 rfl) ?_
  refine lv_iconst (v := 1) hx hb dX0_init_20 (by decide) ?_
  refine putV C hS (by omega) ha rfl rfl giX0 tyX0 tyX0_ok nmX0 3 (by decide) rfl g_76 rfl rfl rfl dX0_init_21 (fun H locs hS => ?_)
  refine lv_aload_n hx hb dX0_init_24 rfl (lv_at hl 0 rfl) ?_
  refine lv_iconst (v := 0) hx hb dX0_init_25 (by decide) ?_
  refine putV C hS (by omega) ha rfl rfl giX0 tyX0 tyX0_ok nmX0 4 (by decide) rfl g_78 rfl rfl rfl dX0_init_26 (fun H locs hS => ?_)
  refine lv_aload_n hx hb dX0_init_29 rfl (lv_at hl 0 rfl) ?_
  refine lv_iconst (v := 0) hx hb dX0_init_30 (by decide) ?_
  refine putV C hS (by omega) ha rfl rfl giX0 tyX0 tyX0_ok nmX0 5 (by decide) rfl g_81 rfl rfl rfl dX0_init_31 (fun H locs hS => ?_)
  refine lv_aload_n hx hb dX0_init_34 rfl (lv_at hl 0 rfl) ?_
  refine lv_iconst (v := 0) hx hb dX0_init_35 (by decide) ?_
  refine putV C hS (by omega) ha rfl rfl giX0 tyX0 tyX0_ok nmX0 6 (by decide) rfl g_83 rfl rfl rfl dX0_init_36 (fun H locs hS => ?_)
  refine rtI0 C (hS.to (fun b hb j hj => ?_)) dX0_init_39
  unfold fV
  by_cases e : b = a
  · subst e
    rw [if_pos (by omega)]
    have h7 : j < 7 := by unfold szc at hj; rw [ha] at hj; exact hj
    have hv : ∀ q, FIN G b q = .int (x0 b q) := fun q => vwI ha (by decide) rfl
    rw [hv, x0_off (by rw [ha]; decide), ha]
    rcases (show j = 0 ∨ j = 1 ∨ j = 2 ∨ j = 3 ∨ j = 4 ∨ j = 5 ∨ j = 6 by omega) with rfl | rfl | rfl | rfl | rfl | rfl | rfl <;> simp [uV, updV]
  · rw [if_neg (by omega)]
    simp [uV, e]
