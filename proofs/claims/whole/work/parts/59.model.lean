/-- the model's cells while they are made: n rows so far -/
def F8 (G : GT) (n j : Nat) : Value := match rf 7 99 j with
  | some q => if q < 100 + n then .ref (G.1 + q) else .null
  | none => if j = 4 ∧ 4 ≤ n then .int (-1) else .int 0
def W8 (G : GT) (V : Nat → Nat → Value) (n : Nat) : Nat → Nat → Value := fun b => if b = 99 then F8 G n else if b = 100 then (fun _ => .int 0) else if 100 < b then FIN G b else V b
theorem W8_ne {G : GT} {V : Nat → Nat → Value} {n m b : Nat} (h : b ≠ 99) : W8 G V n b = W8 G V m b := by
  unfold W8
  rw [if_neg h, if_neg h]
abbrev rmX8_init : Room := { frames := 1, cells := 21, slots := 5113, locals := 20 }
set_option maxRecDepth 100000 in
theorem cX8_init_ {G : GT} {l : Launch} {V : Nat → Nat → Value} : CtI G l yX8_init (.code yX8_init cX8_init 1 none) rmX8_init [.ref (G.1 + 99)] (100) (uV V 99 (fun j => defaultValue (tyX8 j))) (121) (fV G V 99 22) := by
  refine CtI.of (by decide +kernel) rfl (Nat.le_of_ble_eq_true rfl) ?_
  intro p e s m args below meth c C hin hAO ls hl hS
  have C : CX G p s m args meth c cX8_init 1 none RX8 := C
  have hl : lv_has ls 1 [(0, .ref (G.1 + 99))] := hl
  have hx := C.1
  have hb := C.2.1
  have hS : SV G 100 (W8 G V 0) s.heap [] := hS.to (fun b hb j hj => ?S)
  case S =>
    by_cases e : b = 99
    · subst e
      rcases (show j = 0 ∨ j = 1 ∨ j = 2 ∨ j = 3 ∨ j = 4 ∨ j = 5 ∨ j = 6 ∨ j = 7 ∨ j = 8 ∨ j = 9 ∨ j = 10 ∨ j = 11 ∨ j = 12 ∨ j = 13 ∨ j = 14 ∨ j = 15 ∨ j = 16 ∨ j = 17 ∨ j = 18 ∨ j = 19 ∨ j = 20 ∨ j = 21 ∨ j = 22 ∨ j = 23 ∨ j = 24 ∨ j = 25 ∨ j = 26 ∨ j = 27 ∨ j = 28 ∨ j = 29 ∨ j = 30 ∨ j = 31 ∨ j = 32 ∨ j = 33 by (have : j < 34 := hj); omega) with rfl | rfl | rfl | rfl | rfl | rfl | rfl | rfl | rfl | rfl | rfl | rfl | rfl | rfl | rfl | rfl | rfl | rfl | rfl | rfl | rfl | rfl | rfl | rfl | rfl | rfl | rfl | rfl | rfl | rfl | rfl | rfl | rfl | rfl <;> rfl
    · rw [uV_ne e]
      unfold W8
      rw [if_neg e, if_neg (by omega), if_neg (by omega)]
  refine lv_aload_n hx hb dX8_init_0 rfl (lv_at hl 0 rfl) ?_
  refine objI C g_804 g_23 g_24 hl.1 (Nat.le_of_ble_eq_true rfl) ⟨(Nat.le_of_ble_eq_true rfl), (Nat.le_of_ble_eq_true rfl)⟩ dX8_init_1 ?_
  refine lv_aload_n hx hb dX8_init_4 rfl (lv_at hl 0 rfl) ?_
  refine lv_sipush (v := 1437) hx hb dX8_init_5 (by decide) ?_
  refine newA (atype := .int) (T := 8) (N := 1437) C hS rfl (by decide) 0 rfl rfl g_181 rfl (by decide) (by decide) (Nat.le_of_ble_eq_true rfl) (Nat.le_of_ble_eq_true rfl) (Nat.le_of_ble_eq_true rfl) dX8_init_8 (fun H (hS : SV G 101 _ H _) => ?_)
  refine putF (a := 99) (T := 7) (Tb := TX8) (N := 34) C hS (by omega) rfl rfl rfl giX8 tyX8 tyX8_ok nmX8 0 (by decide) rfl g_805 hin rfl rfl rfl dX8_init_10 (fun H locs hS => ?_)
  have hS : SV G 101 (W8 G V 1) H locs := hS.to (fun b hb j hj => ?S0)
  case S0 =>
    by_cases e : b = 99
    · subst e
      rcases (show j = 0 ∨ j = 1 ∨ j = 2 ∨ j = 3 ∨ j = 4 ∨ j = 5 ∨ j = 6 ∨ j = 7 ∨ j = 8 ∨ j = 9 ∨ j = 10 ∨ j = 11 ∨ j = 12 ∨ j = 13 ∨ j = 14 ∨ j = 15 ∨ j = 16 ∨ j = 17 ∨ j = 18 ∨ j = 19 ∨ j = 20 ∨ j = 21 ∨ j = 22 ∨ j = 23 ∨ j = 24 ∨ j = 25 ∨ j = 26 ∨ j = 27 ∨ j = 28 ∨ j = 29 ∨ j = 30 ∨ j = 31 ∨ j = 32 ∨ j = 33 by (have : j < 34 := hj); omega) with rfl | rfl | rfl | rfl | rfl | rfl | rfl | rfl | rfl | rfl | rfl | rfl | rfl | rfl | rfl | rfl | rfl | rfl | rfl | rfl | rfl | rfl | rfl | rfl | rfl | rfl | rfl | rfl | rfl | rfl | rfl | rfl | rfl | rfl <;> rfl
    by_cases e1 : b = 100
    · subst e1
      rfl
    · exact congrFun ((uV_ne (by omega)).trans ((uV_ne (by omega)).trans (W8_ne (by omega)))) j
  refine lv_aload_n hx hb dX8_init_13 rfl (lv_at hl 0 rfl) ?_
  refine lv_sipush (v := 1437) hx hb dX8_init_14 (by decide) ?_
  refine newA (atype := .int) (T := 8) (N := 1437) C hS rfl (by decide) 0 rfl rfl g_181 rfl (by decide) (by decide) (Nat.le_of_ble_eq_true rfl) (Nat.le_of_ble_eq_true rfl) (Nat.le_of_ble_eq_true rfl) dX8_init_17 (fun H (hS : SV G 102 _ H _) => ?_)
  refine putF (a := 99) (T := 7) (Tb := TX8) (N := 34) C hS (by omega) rfl rfl rfl giX8 tyX8 tyX8_ok nmX8 1 (by decide) rfl g_806 hin rfl rfl rfl dX8_init_19 (fun H locs hS => ?_)
  have hS : SV G 102 (W8 G V 2) H locs := hS.to (fun b hb j hj => ?S1)
  case S1 =>
    by_cases e : b = 99
    · subst e
      rcases (show j = 0 ∨ j = 1 ∨ j = 2 ∨ j = 3 ∨ j = 4 ∨ j = 5 ∨ j = 6 ∨ j = 7 ∨ j = 8 ∨ j = 9 ∨ j = 10 ∨ j = 11 ∨ j = 12 ∨ j = 13 ∨ j = 14 ∨ j = 15 ∨ j = 16 ∨ j = 17 ∨ j = 18 ∨ j = 19 ∨ j = 20 ∨ j = 21 ∨ j = 22 ∨ j = 23 ∨ j = 24 ∨ j = 25 ∨ j = 26 ∨ j = 27 ∨ j = 28 ∨ j = 29 ∨ j = 30 ∨ j = 31 ∨ j = 32 ∨ j = 33 by (have : j < 34 := hj); omega) with rfl | rfl | rfl | rfl | rfl | rfl | rfl | rfl | rfl | rfl | rfl | rfl | rfl | rfl | rfl | rfl | rfl | rfl | rfl | rfl | rfl | rfl | rfl | rfl | rfl | rfl | rfl | rfl | rfl | rfl | rfl | rfl | rfl | rfl <;> rfl
    by_cases e1 : b = 101
    · subst e1
      rfl
    · exact congrFun ((uV_ne (by omega)).trans ((uV_ne (by omega)).trans (W8_ne (by omega)))) j
  refine lv_aload_n hx hb dX8_init_22 rfl (lv_at hl 0 rfl) ?_
  refine lv_sipush (v := 1437) hx hb dX8_init_23 (by decide) ?_
  refine newA (atype := .int) (T := 8) (N := 1437) C hS rfl (by decide) 0 rfl rfl g_181 rfl (by decide) (by decide) (Nat.le_of_ble_eq_true rfl) (Nat.le_of_ble_eq_true rfl) (Nat.le_of_ble_eq_true rfl) dX8_init_26 (fun H (hS : SV G 103 _ H _) => ?_)
  refine putF (a := 99) (T := 7) (Tb := TX8) (N := 34) C hS (by omega) rfl rfl rfl giX8 tyX8 tyX8_ok nmX8 2 (by decide) rfl g_807 hin rfl rfl rfl dX8_init_28 (fun H locs hS => ?_)
  have hS : SV G 103 (W8 G V 3) H locs := hS.to (fun b hb j hj => ?S2)
  case S2 =>
    by_cases e : b = 99
    · subst e
      rcases (show j = 0 ∨ j = 1 ∨ j = 2 ∨ j = 3 ∨ j = 4 ∨ j = 5 ∨ j = 6 ∨ j = 7 ∨ j = 8 ∨ j = 9 ∨ j = 10 ∨ j = 11 ∨ j = 12 ∨ j = 13 ∨ j = 14 ∨ j = 15 ∨ j = 16 ∨ j = 17 ∨ j = 18 ∨ j = 19 ∨ j = 20 ∨ j = 21 ∨ j = 22 ∨ j = 23 ∨ j = 24 ∨ j = 25 ∨ j = 26 ∨ j = 27 ∨ j = 28 ∨ j = 29 ∨ j = 30 ∨ j = 31 ∨ j = 32 ∨ j = 33 by (have : j < 34 := hj); omega) with rfl | rfl | rfl | rfl | rfl | rfl | rfl | rfl | rfl | rfl | rfl | rfl | rfl | rfl | rfl | rfl | rfl | rfl | rfl | rfl | rfl | rfl | rfl | rfl | rfl | rfl | rfl | rfl | rfl | rfl | rfl | rfl | rfl | rfl <;> rfl
    by_cases e1 : b = 102
    · subst e1
      rfl
    · exact congrFun ((uV_ne (by omega)).trans ((uV_ne (by omega)).trans (W8_ne (by omega)))) j
  refine lv_aload_n hx hb dX8_init_31 rfl (lv_at hl 0 rfl) ?_
  refine lv_iconst (v := (-1)) hx hb dX8_init_32 (by decide) ?_
  refine putV (a := 99) (T := 7) (Tb := TX8) (N := 34) C hS (by omega) rfl rfl rfl giX8 tyX8 tyX8_ok nmX8 4 (by decide) rfl g_809 rfl rfl rfl dX8_init_33 (fun H locs hS => ?_)
  refine lv_aload_n hx hb dX8_init_36 rfl (lv_at hl 0 rfl) ?_
  refine lv_bipush (v := 65) hx hb dX8_init_37 (by decide) ?_
  refine newA (atype := .int) (T := 8) (N := 65) C hS rfl (by decide) 0 rfl rfl g_181 rfl (by decide) (by decide) (Nat.le_of_ble_eq_true rfl) (Nat.le_of_ble_eq_true rfl) (Nat.le_of_ble_eq_true rfl) dX8_init_39 (fun H (hS : SV G 104 _ H _) => ?_)
  refine putF (a := 99) (T := 7) (Tb := TX8) (N := 34) C hS (by omega) rfl rfl rfl giX8 tyX8 tyX8_ok nmX8 5 (by decide) rfl g_810 hin rfl rfl rfl dX8_init_41 (fun H locs hS => ?_)
  have hS : SV G 104 (W8 G V 4) H locs := hS.to (fun b hb j hj => ?S3)
  case S3 =>
    by_cases e : b = 99
    · subst e
      rcases (show j = 0 ∨ j = 1 ∨ j = 2 ∨ j = 3 ∨ j = 4 ∨ j = 5 ∨ j = 6 ∨ j = 7 ∨ j = 8 ∨ j = 9 ∨ j = 10 ∨ j = 11 ∨ j = 12 ∨ j = 13 ∨ j = 14 ∨ j = 15 ∨ j = 16 ∨ j = 17 ∨ j = 18 ∨ j = 19 ∨ j = 20 ∨ j = 21 ∨ j = 22 ∨ j = 23 ∨ j = 24 ∨ j = 25 ∨ j = 26 ∨ j = 27 ∨ j = 28 ∨ j = 29 ∨ j = 30 ∨ j = 31 ∨ j = 32 ∨ j = 33 by (have : j < 34 := hj); omega) with rfl | rfl | rfl | rfl | rfl | rfl | rfl | rfl | rfl | rfl | rfl | rfl | rfl | rfl | rfl | rfl | rfl | rfl | rfl | rfl | rfl | rfl | rfl | rfl | rfl | rfl | rfl | rfl | rfl | rfl | rfl | rfl | rfl | rfl <;> rfl
    by_cases e1 : b = 103
    · subst e1
      rfl
    · exact congrFun ((uV_ne (by omega)).trans ((uV_ne (by omega)).trans ((uV_ne (by omega)).trans (W8_ne (by omega))))) j
  refine lv_aload_n hx hb dX8_init_44 rfl (lv_at hl 0 rfl) ?_
  refine lv_bipush (v := 96) hx hb dX8_init_45 (by decide) ?_
  refine newA (atype := .int) (T := 8) (N := 96) C hS rfl (by decide) 0 rfl rfl g_181 rfl (by decide) (by decide) (Nat.le_of_ble_eq_true rfl) (Nat.le_of_ble_eq_true rfl) (Nat.le_of_ble_eq_true rfl) dX8_init_47 (fun H (hS : SV G 105 _ H _) => ?_)
  refine putF (a := 99) (T := 7) (Tb := TX8) (N := 34) C hS (by omega) rfl rfl rfl giX8 tyX8 tyX8_ok nmX8 6 (by decide) rfl g_811 hin rfl rfl rfl dX8_init_49 (fun H locs hS => ?_)
  have hS : SV G 105 (W8 G V 5) H locs := hS.to (fun b hb j hj => ?S4)
  case S4 =>
    by_cases e : b = 99
    · subst e
      rcases (show j = 0 ∨ j = 1 ∨ j = 2 ∨ j = 3 ∨ j = 4 ∨ j = 5 ∨ j = 6 ∨ j = 7 ∨ j = 8 ∨ j = 9 ∨ j = 10 ∨ j = 11 ∨ j = 12 ∨ j = 13 ∨ j = 14 ∨ j = 15 ∨ j = 16 ∨ j = 17 ∨ j = 18 ∨ j = 19 ∨ j = 20 ∨ j = 21 ∨ j = 22 ∨ j = 23 ∨ j = 24 ∨ j = 25 ∨ j = 26 ∨ j = 27 ∨ j = 28 ∨ j = 29 ∨ j = 30 ∨ j = 31 ∨ j = 32 ∨ j = 33 by (have : j < 34 := hj); omega) with rfl | rfl | rfl | rfl | rfl | rfl | rfl | rfl | rfl | rfl | rfl | rfl | rfl | rfl | rfl | rfl | rfl | rfl | rfl | rfl | rfl | rfl | rfl | rfl | rfl | rfl | rfl | rfl | rfl | rfl | rfl | rfl | rfl | rfl <;> rfl
    by_cases e1 : b = 104
    · subst e1
      rfl
    · exact congrFun ((uV_ne (by omega)).trans ((uV_ne (by omega)).trans (W8_ne (by omega)))) j
  refine lv_aload_n hx hb dX8_init_52 rfl (lv_at hl 0 rfl) ?_
  refine lv_bipush (v := 12) hx hb dX8_init_53 (by decide) ?_
  refine newA (atype := .char) (T := 10) (N := 12) C hS rfl (by decide) 2 rfl rfl g_908 rfl (by decide) (by decide) (Nat.le_of_ble_eq_true rfl) (Nat.le_of_ble_eq_true rfl) (Nat.le_of_ble_eq_true rfl) dX8_init_55 (fun H (hS : SV G 106 _ H _) => ?_)
  refine lv_dup hx hb dX8_init_57 rfl ?_
  refine lv_iconst (v := 0) hx hb dX8_init_58 (by decide) ?_
  refine lv_bipush (v := 115) hx hb dX8_init_59 (by decide) ?_
  refine asCv (a := 105) (n := 12) C hS (by omega) rfl rfl (by decide) (by decide) dX8_init_61 (fun H locs hS => ?_)
  refine lv_dup hx hb dX8_init_62 rfl ?_
  refine lv_iconst (v := 1) hx hb dX8_init_63 (by decide) ?_
  refine lv_bipush (v := 104) hx hb dX8_init_64 (by decide) ?_
  refine asCv (a := 105) (n := 12) C hS (by omega) rfl rfl (by decide) (by decide) dX8_init_66 (fun H locs hS => ?_)
  refine lv_dup hx hb dX8_init_67 rfl ?_
  refine lv_iconst (v := 2) hx hb dX8_init_68 (by decide) ?_
  refine lv_bipush (v := 105) hx hb dX8_init_69 (by decide) ?_
  refine asCv (a := 105) (n := 12) C hS (by omega) rfl rfl (by decide) (by decide) dX8_init_71 (fun H locs hS => ?_)
  refine lv_dup hx hb dX8_init_72 rfl ?_
  refine lv_iconst (v := 3) hx hb dX8_init_73 (by decide) ?_
  refine lv_bipush (v := 110) hx hb dX8_init_74 (by decide) ?_
  refine asCv (a := 105) (n := 12) C hS (by omega) rfl rfl (by decide) (by decide) dX8_init_76 (fun H locs hS => ?_)
  refine lv_dup hx hb dX8_init_77 rfl ?_
  refine lv_iconst (v := 4) hx hb dX8_init_78 (by decide) ?_
  refine lv_bipush (v := 101) hx hb dX8_init_79 (by decide) ?_
  refine asCv (a := 105) (n := 12) C hS (by omega) rfl rfl (by decide) (by decide) dX8_init_81 (fun H locs hS => ?_)
  refine lv_dup hx hb dX8_init_82 rfl ?_
  refine lv_iconst (v := 5) hx hb dX8_init_83 (by decide) ?_
  refine lv_bipush (v := 102) hx hb dX8_init_84 (by decide) ?_
  refine asCv (a := 105) (n := 12) C hS (by omega) rfl rfl (by decide) (by decide) dX8_init_86 (fun H locs hS => ?_)
  refine lv_dup hx hb dX8_init_87 rfl ?_
  refine lv_bipush (v := 6) hx hb dX8_init_88 (by decide) ?_
  refine lv_bipush (v := 101) hx hb dX8_init_90 (by decide) ?_
  refine asCv (a := 105) (n := 12) C hS (by omega) rfl rfl (by decide) (by decide) dX8_init_92 (fun H locs hS => ?_)
  refine lv_dup hx hb dX8_init_93 rfl ?_
  refine lv_bipush (v := 7) hx hb dX8_init_94 (by decide) ?_
  refine lv_bipush (v := 101) hx hb dX8_init_96 (by decide) ?_
  refine asCv (a := 105) (n := 12) C hS (by omega) rfl rfl (by decide) (by decide) dX8_init_98 (fun H locs hS => ?_)
  refine lv_dup hx hb dX8_init_99 rfl ?_
  refine lv_bipush (v := 8) hx hb dX8_init_100 (by decide) ?_
  refine lv_bipush (v := 102) hx hb dX8_init_102 (by decide) ?_
  refine asCv (a := 105) (n := 12) C hS (by omega) rfl rfl (by decide) (by decide) dX8_init_104 (fun H locs hS => ?_)
  refine lv_dup hx hb dX8_init_105 rfl ?_
  refine lv_bipush (v := 9) hx hb dX8_init_106 (by decide) ?_
  refine lv_bipush (v := 105) hx hb dX8_init_108 (by decide) ?_
  refine asCv (a := 105) (n := 12) C hS (by omega) rfl rfl (by decide) (by decide) dX8_init_110 (fun H locs hS => ?_)
  refine lv_dup hx hb dX8_init_111 rfl ?_
  refine lv_bipush (v := 10) hx hb dX8_init_112 (by decide) ?_
  refine lv_bipush (v := 110) hx hb dX8_init_114 (by decide) ?_
  refine asCv (a := 105) (n := 12) C hS (by omega) rfl rfl (by decide) (by decide) dX8_init_116 (fun H locs hS => ?_)
  refine lv_dup hx hb dX8_init_117 rfl ?_
  refine lv_bipush (v := 11) hx hb dX8_init_118 (by decide) ?_
  refine lv_bipush (v := 101) hx hb dX8_init_120 (by decide) ?_
  refine asCv (a := 105) (n := 12) C hS (by omega) rfl rfl (by decide) (by decide) dX8_init_122 (fun H locs hS => ?_)
  refine putF (a := 99) (T := 7) (Tb := TX8) (N := 34) C hS (by omega) rfl rfl rfl giX8 tyX8 tyX8_ok nmX8 14 (by decide) rfl g_819 hin rfl rfl rfl dX8_init_123 (fun H locs hS => ?_)
  have hS : SV G 106 (W8 G V 6) H locs := hS.to (fun b hb j hj => ?S5)
  case S5 =>
    by_cases e : b = 99
    · subst e
      rcases (show j = 0 ∨ j = 1 ∨ j = 2 ∨ j = 3 ∨ j = 4 ∨ j = 5 ∨ j = 6 ∨ j = 7 ∨ j = 8 ∨ j = 9 ∨ j = 10 ∨ j = 11 ∨ j = 12 ∨ j = 13 ∨ j = 14 ∨ j = 15 ∨ j = 16 ∨ j = 17 ∨ j = 18 ∨ j = 19 ∨ j = 20 ∨ j = 21 ∨ j = 22 ∨ j = 23 ∨ j = 24 ∨ j = 25 ∨ j = 26 ∨ j = 27 ∨ j = 28 ∨ j = 29 ∨ j = 30 ∨ j = 31 ∨ j = 32 ∨ j = 33 by (have : j < 34 := hj); omega) with rfl | rfl | rfl | rfl | rfl | rfl | rfl | rfl | rfl | rfl | rfl | rfl | rfl | rfl | rfl | rfl | rfl | rfl | rfl | rfl | rfl | rfl | rfl | rfl | rfl | rfl | rfl | rfl | rfl | rfl | rfl | rfl | rfl | rfl <;> rfl
    by_cases e1 : b = 105
    · subst e1
      rcases (show j = 0 ∨ j = 1 ∨ j = 2 ∨ j = 3 ∨ j = 4 ∨ j = 5 ∨ j = 6 ∨ j = 7 ∨ j = 8 ∨ j = 9 ∨ j = 10 ∨ j = 11 by (have : j < 12 := hj); omega) with rfl | rfl | rfl | rfl | rfl | rfl | rfl | rfl | rfl | rfl | rfl | rfl <;> rfl
    · exact congrFun ((uV_ne (by omega)).trans ((uV_ne (by omega)).trans ((uV_ne (by omega)).trans ((uV_ne (by omega)).trans ((uV_ne (by omega)).trans ((uV_ne (by omega)).trans ((uV_ne (by omega)).trans ((uV_ne (by omega)).trans ((uV_ne (by omega)).trans ((uV_ne (by omega)).trans ((uV_ne (by omega)).trans ((uV_ne (by omega)).trans ((uV_ne (by omega)).trans ((uV_ne (by omega)).trans (W8_ne (by omega)))))))))))))))) j
  refine lv_aload_n hx hb dX8_init_126 rfl (lv_at hl 0 rfl) ?_
  refine lv_iconst (v := 4) hx hb dX8_init_127 (by decide) ?_
  refine newA (atype := .int) (T := 8) (N := 4) C hS rfl (by decide) 0 rfl rfl g_181 rfl (by decide) (by decide) (Nat.le_of_ble_eq_true rfl) (Nat.le_of_ble_eq_true rfl) (Nat.le_of_ble_eq_true rfl) dX8_init_128 (fun H (hS : SV G 107 _ H _) => ?_)
  refine lv_dup hx hb dX8_init_130 rfl ?_
  refine lv_iconst (v := 0) hx hb dX8_init_131 (by decide) ?_
  refine lv_iconst (v := 0) hx hb dX8_init_132 (by decide) ?_
  refine asIv (a := 106) (n := 4) C hS (by omega) rfl rfl (by decide) dX8_init_133 (fun H locs hS => ?_)
  refine lv_dup hx hb dX8_init_134 rfl ?_
  refine lv_iconst (v := 1) hx hb dX8_init_135 (by decide) ?_
  refine lv_iconst (v := 5) hx hb dX8_init_136 (by decide) ?_
  refine asIv (a := 106) (n := 4) C hS (by omega) rfl rfl (by decide) dX8_init_137 (fun H locs hS => ?_)
  refine lv_dup hx hb dX8_init_138 rfl ?_
  refine lv_iconst (v := 2) hx hb dX8_init_139 (by decide) ?_
  refine lv_bipush (v := 8) hx hb dX8_init_140 (by decide) ?_
  refine asIv (a := 106) (n := 4) C hS (by omega) rfl rfl (by decide) dX8_init_142 (fun H locs hS => ?_)
  refine lv_dup hx hb dX8_init_143 rfl ?_
  refine lv_iconst (v := 3) hx hb dX8_init_144 (by decide) ?_
  refine lv_bipush (v := 12) hx hb dX8_init_145 (by decide) ?_
  refine asIv (a := 106) (n := 4) C hS (by omega) rfl rfl (by decide) dX8_init_147 (fun H locs hS => ?_)
  refine putF (a := 99) (T := 7) (Tb := TX8) (N := 34) C hS (by omega) rfl rfl rfl giX8 tyX8 tyX8_ok nmX8 15 (by decide) rfl g_820 hin rfl rfl rfl dX8_init_148 (fun H locs hS => ?_)
  have hS : SV G 107 (W8 G V 7) H locs := hS.to (fun b hb j hj => ?S6)
  case S6 =>
    by_cases e : b = 99
    · subst e
      rcases (show j = 0 ∨ j = 1 ∨ j = 2 ∨ j = 3 ∨ j = 4 ∨ j = 5 ∨ j = 6 ∨ j = 7 ∨ j = 8 ∨ j = 9 ∨ j = 10 ∨ j = 11 ∨ j = 12 ∨ j = 13 ∨ j = 14 ∨ j = 15 ∨ j = 16 ∨ j = 17 ∨ j = 18 ∨ j = 19 ∨ j = 20 ∨ j = 21 ∨ j = 22 ∨ j = 23 ∨ j = 24 ∨ j = 25 ∨ j = 26 ∨ j = 27 ∨ j = 28 ∨ j = 29 ∨ j = 30 ∨ j = 31 ∨ j = 32 ∨ j = 33 by (have : j < 34 := hj); omega) with rfl | rfl | rfl | rfl | rfl | rfl | rfl | rfl | rfl | rfl | rfl | rfl | rfl | rfl | rfl | rfl | rfl | rfl | rfl | rfl | rfl | rfl | rfl | rfl | rfl | rfl | rfl | rfl | rfl | rfl | rfl | rfl | rfl | rfl <;> rfl
    by_cases e1 : b = 106
    · subst e1
      rcases (show j = 0 ∨ j = 1 ∨ j = 2 ∨ j = 3 by (have : j < 4 := hj); omega) with rfl | rfl | rfl | rfl <;> rfl
    · exact congrFun ((uV_ne (by omega)).trans ((uV_ne (by omega)).trans ((uV_ne (by omega)).trans ((uV_ne (by omega)).trans ((uV_ne (by omega)).trans ((uV_ne (by omega)).trans (W8_ne (by omega)))))))) j
  refine lv_aload_n hx hb dX8_init_151 rfl (lv_at hl 0 rfl) ?_
  refine lv_bipush (v := 96) hx hb dX8_init_152 (by decide) ?_
  refine newA (atype := .int) (T := 8) (N := 96) C hS rfl (by decide) 0 rfl rfl g_181 rfl (by decide) (by decide) (Nat.le_of_ble_eq_true rfl) (Nat.le_of_ble_eq_true rfl) (Nat.le_of_ble_eq_true rfl) dX8_init_154 (fun H (hS : SV G 108 _ H _) => ?_)
  refine putF (a := 99) (T := 7) (Tb := TX8) (N := 34) C hS (by omega) rfl rfl rfl giX8 tyX8 tyX8_ok nmX8 16 (by decide) rfl g_821 hin rfl rfl rfl dX8_init_156 (fun H locs hS => ?_)
  have hS : SV G 108 (W8 G V 8) H locs := hS.to (fun b hb j hj => ?S7)
  case S7 =>
    by_cases e : b = 99
    · subst e
      rcases (show j = 0 ∨ j = 1 ∨ j = 2 ∨ j = 3 ∨ j = 4 ∨ j = 5 ∨ j = 6 ∨ j = 7 ∨ j = 8 ∨ j = 9 ∨ j = 10 ∨ j = 11 ∨ j = 12 ∨ j = 13 ∨ j = 14 ∨ j = 15 ∨ j = 16 ∨ j = 17 ∨ j = 18 ∨ j = 19 ∨ j = 20 ∨ j = 21 ∨ j = 22 ∨ j = 23 ∨ j = 24 ∨ j = 25 ∨ j = 26 ∨ j = 27 ∨ j = 28 ∨ j = 29 ∨ j = 30 ∨ j = 31 ∨ j = 32 ∨ j = 33 by (have : j < 34 := hj); omega) with rfl | rfl | rfl | rfl | rfl | rfl | rfl | rfl | rfl | rfl | rfl | rfl | rfl | rfl | rfl | rfl | rfl | rfl | rfl | rfl | rfl | rfl | rfl | rfl | rfl | rfl | rfl | rfl | rfl | rfl | rfl | rfl | rfl | rfl <;> rfl
    by_cases e1 : b = 107
    · subst e1
      rfl
    · exact congrFun ((uV_ne (by omega)).trans ((uV_ne (by omega)).trans (W8_ne (by omega)))) j
  refine lv_aload_n hx hb dX8_init_159 rfl (lv_at hl 0 rfl) ?_
  refine lv_bipush (v := 96) hx hb dX8_init_160 (by decide) ?_
  refine newA (atype := .int) (T := 8) (N := 96) C hS rfl (by decide) 0 rfl rfl g_181 rfl (by decide) (by decide) (Nat.le_of_ble_eq_true rfl) (Nat.le_of_ble_eq_true rfl) (Nat.le_of_ble_eq_true rfl) dX8_init_162 (fun H (hS : SV G 109 _ H _) => ?_)
  refine putF (a := 99) (T := 7) (Tb := TX8) (N := 34) C hS (by omega) rfl rfl rfl giX8 tyX8 tyX8_ok nmX8 19 (by decide) rfl g_824 hin rfl rfl rfl dX8_init_164 (fun H locs hS => ?_)
  have hS : SV G 109 (W8 G V 9) H locs := hS.to (fun b hb j hj => ?S8)
  case S8 =>
    by_cases e : b = 99
    · subst e
      rcases (show j = 0 ∨ j = 1 ∨ j = 2 ∨ j = 3 ∨ j = 4 ∨ j = 5 ∨ j = 6 ∨ j = 7 ∨ j = 8 ∨ j = 9 ∨ j = 10 ∨ j = 11 ∨ j = 12 ∨ j = 13 ∨ j = 14 ∨ j = 15 ∨ j = 16 ∨ j = 17 ∨ j = 18 ∨ j = 19 ∨ j = 20 ∨ j = 21 ∨ j = 22 ∨ j = 23 ∨ j = 24 ∨ j = 25 ∨ j = 26 ∨ j = 27 ∨ j = 28 ∨ j = 29 ∨ j = 30 ∨ j = 31 ∨ j = 32 ∨ j = 33 by (have : j < 34 := hj); omega) with rfl | rfl | rfl | rfl | rfl | rfl | rfl | rfl | rfl | rfl | rfl | rfl | rfl | rfl | rfl | rfl | rfl | rfl | rfl | rfl | rfl | rfl | rfl | rfl | rfl | rfl | rfl | rfl | rfl | rfl | rfl | rfl | rfl | rfl <;> rfl
    by_cases e1 : b = 108
    · subst e1
      rfl
    · exact congrFun ((uV_ne (by omega)).trans ((uV_ne (by omega)).trans (W8_ne (by omega)))) j
  refine lv_aload_n hx hb dX8_init_167 rfl (lv_at hl 0 rfl) ?_
  refine lv_bipush (v := 10) hx hb dX8_init_168 (by decide) ?_
  refine newA (atype := .boolean) (T := 11) (N := 10) C hS rfl (by decide) 3 rfl rfl g_909 rfl (by decide) (by decide) (Nat.le_of_ble_eq_true rfl) (Nat.le_of_ble_eq_true rfl) (Nat.le_of_ble_eq_true rfl) dX8_init_170 (fun H (hS : SV G 110 _ H _) => ?_)
  refine putF (a := 99) (T := 7) (Tb := TX8) (N := 34) C hS (by omega) rfl rfl rfl giX8 tyX8 tyX8_ok nmX8 21 (by decide) rfl g_826 hin rfl rfl rfl dX8_init_172 (fun H locs hS => ?_)
  have hS : SV G 110 (W8 G V 10) H locs := hS.to (fun b hb j hj => ?S9)
  case S9 =>
    by_cases e : b = 99
    · subst e
      rcases (show j = 0 ∨ j = 1 ∨ j = 2 ∨ j = 3 ∨ j = 4 ∨ j = 5 ∨ j = 6 ∨ j = 7 ∨ j = 8 ∨ j = 9 ∨ j = 10 ∨ j = 11 ∨ j = 12 ∨ j = 13 ∨ j = 14 ∨ j = 15 ∨ j = 16 ∨ j = 17 ∨ j = 18 ∨ j = 19 ∨ j = 20 ∨ j = 21 ∨ j = 22 ∨ j = 23 ∨ j = 24 ∨ j = 25 ∨ j = 26 ∨ j = 27 ∨ j = 28 ∨ j = 29 ∨ j = 30 ∨ j = 31 ∨ j = 32 ∨ j = 33 by (have : j < 34 := hj); omega) with rfl | rfl | rfl | rfl | rfl | rfl | rfl | rfl | rfl | rfl | rfl | rfl | rfl | rfl | rfl | rfl | rfl | rfl | rfl | rfl | rfl | rfl | rfl | rfl | rfl | rfl | rfl | rfl | rfl | rfl | rfl | rfl | rfl | rfl <;> rfl
    by_cases e1 : b = 109
    · subst e1
      rfl
    · exact congrFun ((uV_ne (by omega)).trans ((uV_ne (by omega)).trans (W8_ne (by omega)))) j
  refine lv_aload_n hx hb dX8_init_175 rfl (lv_at hl 0 rfl) ?_
  refine lv_bipush (v := 96) hx hb dX8_init_176 (by decide) ?_
  refine newA (atype := .int) (T := 8) (N := 96) C hS rfl (by decide) 0 rfl rfl g_181 rfl (by decide) (by decide) (Nat.le_of_ble_eq_true rfl) (Nat.le_of_ble_eq_true rfl) (Nat.le_of_ble_eq_true rfl) dX8_init_178 (fun H (hS : SV G 111 _ H _) => ?_)
  refine putF (a := 99) (T := 7) (Tb := TX8) (N := 34) C hS (by omega) rfl rfl rfl giX8 tyX8 tyX8_ok nmX8 22 (by decide) rfl g_827 hin rfl rfl rfl dX8_init_180 (fun H locs hS => ?_)
  have hS : SV G 111 (W8 G V 11) H locs := hS.to (fun b hb j hj => ?S10)
  case S10 =>
    by_cases e : b = 99
    · subst e
      rcases (show j = 0 ∨ j = 1 ∨ j = 2 ∨ j = 3 ∨ j = 4 ∨ j = 5 ∨ j = 6 ∨ j = 7 ∨ j = 8 ∨ j = 9 ∨ j = 10 ∨ j = 11 ∨ j = 12 ∨ j = 13 ∨ j = 14 ∨ j = 15 ∨ j = 16 ∨ j = 17 ∨ j = 18 ∨ j = 19 ∨ j = 20 ∨ j = 21 ∨ j = 22 ∨ j = 23 ∨ j = 24 ∨ j = 25 ∨ j = 26 ∨ j = 27 ∨ j = 28 ∨ j = 29 ∨ j = 30 ∨ j = 31 ∨ j = 32 ∨ j = 33 by (have : j < 34 := hj); omega) with rfl | rfl | rfl | rfl | rfl | rfl | rfl | rfl | rfl | rfl | rfl | rfl | rfl | rfl | rfl | rfl | rfl | rfl | rfl | rfl | rfl | rfl | rfl | rfl | rfl | rfl | rfl | rfl | rfl | rfl | rfl | rfl | rfl | rfl <;> rfl
    by_cases e1 : b = 110
    · subst e1
      rfl
    · exact congrFun ((uV_ne (by omega)).trans ((uV_ne (by omega)).trans (W8_ne (by omega)))) j
  refine lv_aload_n hx hb dX8_init_183 rfl (lv_at hl 0 rfl) ?_
  refine lv_iconst (v := 4) hx hb dX8_init_184 (by decide) ?_
  refine newA (atype := .int) (T := 8) (N := 4) C hS rfl (by decide) 0 rfl rfl g_181 rfl (by decide) (by decide) (Nat.le_of_ble_eq_true rfl) (Nat.le_of_ble_eq_true rfl) (Nat.le_of_ble_eq_true rfl) dX8_init_185 (fun H (hS : SV G 112 _ H _) => ?_)
  refine putF (a := 99) (T := 7) (Tb := TX8) (N := 34) C hS (by omega) rfl rfl rfl giX8 tyX8 tyX8_ok nmX8 23 (by decide) rfl g_828 hin rfl rfl rfl dX8_init_187 (fun H locs hS => ?_)
  have hS : SV G 112 (W8 G V 12) H locs := hS.to (fun b hb j hj => ?S11)
  case S11 =>
    by_cases e : b = 99
    · subst e
      rcases (show j = 0 ∨ j = 1 ∨ j = 2 ∨ j = 3 ∨ j = 4 ∨ j = 5 ∨ j = 6 ∨ j = 7 ∨ j = 8 ∨ j = 9 ∨ j = 10 ∨ j = 11 ∨ j = 12 ∨ j = 13 ∨ j = 14 ∨ j = 15 ∨ j = 16 ∨ j = 17 ∨ j = 18 ∨ j = 19 ∨ j = 20 ∨ j = 21 ∨ j = 22 ∨ j = 23 ∨ j = 24 ∨ j = 25 ∨ j = 26 ∨ j = 27 ∨ j = 28 ∨ j = 29 ∨ j = 30 ∨ j = 31 ∨ j = 32 ∨ j = 33 by (have : j < 34 := hj); omega) with rfl | rfl | rfl | rfl | rfl | rfl | rfl | rfl | rfl | rfl | rfl | rfl | rfl | rfl | rfl | rfl | rfl | rfl | rfl | rfl | rfl | rfl | rfl | rfl | rfl | rfl | rfl | rfl | rfl | rfl | rfl | rfl | rfl | rfl <;> rfl
    by_cases e1 : b = 111
    · subst e1
      rfl
    · exact congrFun ((uV_ne (by omega)).trans ((uV_ne (by omega)).trans (W8_ne (by omega)))) j
  refine lv_aload_n hx hb dX8_init_190 rfl (lv_at hl 0 rfl) ?_
  refine lv_iconst (v := 4) hx hb dX8_init_191 (by decide) ?_
  refine newA (atype := .int) (T := 8) (N := 4) C hS rfl (by decide) 0 rfl rfl g_181 rfl (by decide) (by decide) (Nat.le_of_ble_eq_true rfl) (Nat.le_of_ble_eq_true rfl) (Nat.le_of_ble_eq_true rfl) dX8_init_192 (fun H (hS : SV G 113 _ H _) => ?_)
  refine lv_dup hx hb dX8_init_194 rfl ?_
  refine lv_iconst (v := 0) hx hb dX8_init_195 (by decide) ?_
  refine lv_iconst (v := (-1)) hx hb dX8_init_196 (by decide) ?_
  refine asIv (a := 112) (n := 4) C hS (by omega) rfl rfl (by decide) dX8_init_197 (fun H locs hS => ?_)
  refine lv_dup hx hb dX8_init_198 rfl ?_
  refine lv_iconst (v := 1) hx hb dX8_init_199 (by decide) ?_
  refine lv_iconst (v := (-1)) hx hb dX8_init_200 (by decide) ?_
  refine asIv (a := 112) (n := 4) C hS (by omega) rfl rfl (by decide) dX8_init_201 (fun H locs hS => ?_)
  refine lv_dup hx hb dX8_init_202 rfl ?_
  refine lv_iconst (v := 2) hx hb dX8_init_203 (by decide) ?_
  refine lv_iconst (v := (-1)) hx hb dX8_init_204 (by decide) ?_
  refine asIv (a := 112) (n := 4) C hS (by omega) rfl rfl (by decide) dX8_init_205 (fun H locs hS => ?_)
  refine lv_dup hx hb dX8_init_206 rfl ?_
  refine lv_iconst (v := 3) hx hb dX8_init_207 (by decide) ?_
  refine lv_iconst (v := (-1)) hx hb dX8_init_208 (by decide) ?_
  refine asIv (a := 112) (n := 4) C hS (by omega) rfl rfl (by decide) dX8_init_209 (fun H locs hS => ?_)
  refine putF (a := 99) (T := 7) (Tb := TX8) (N := 34) C hS (by omega) rfl rfl rfl giX8 tyX8 tyX8_ok nmX8 24 (by decide) rfl g_829 hin rfl rfl rfl dX8_init_210 (fun H locs hS => ?_)
  have hS : SV G 113 (W8 G V 13) H locs := hS.to (fun b hb j hj => ?S12)
  case S12 =>
    by_cases e : b = 99
    · subst e
      rcases (show j = 0 ∨ j = 1 ∨ j = 2 ∨ j = 3 ∨ j = 4 ∨ j = 5 ∨ j = 6 ∨ j = 7 ∨ j = 8 ∨ j = 9 ∨ j = 10 ∨ j = 11 ∨ j = 12 ∨ j = 13 ∨ j = 14 ∨ j = 15 ∨ j = 16 ∨ j = 17 ∨ j = 18 ∨ j = 19 ∨ j = 20 ∨ j = 21 ∨ j = 22 ∨ j = 23 ∨ j = 24 ∨ j = 25 ∨ j = 26 ∨ j = 27 ∨ j = 28 ∨ j = 29 ∨ j = 30 ∨ j = 31 ∨ j = 32 ∨ j = 33 by (have : j < 34 := hj); omega) with rfl | rfl | rfl | rfl | rfl | rfl | rfl | rfl | rfl | rfl | rfl | rfl | rfl | rfl | rfl | rfl | rfl | rfl | rfl | rfl | rfl | rfl | rfl | rfl | rfl | rfl | rfl | rfl | rfl | rfl | rfl | rfl | rfl | rfl <;> rfl
    by_cases e1 : b = 112
    · subst e1
      rcases (show j = 0 ∨ j = 1 ∨ j = 2 ∨ j = 3 by (have : j < 4 := hj); omega) with rfl | rfl | rfl | rfl <;> rfl
    · exact congrFun ((uV_ne (by omega)).trans ((uV_ne (by omega)).trans ((uV_ne (by omega)).trans ((uV_ne (by omega)).trans ((uV_ne (by omega)).trans ((uV_ne (by omega)).trans (W8_ne (by omega)))))))) j
  refine lv_aload_n hx hb dX8_init_213 rfl (lv_at hl 0 rfl) ?_
  refine lv_iconst (v := 4) hx hb dX8_init_214 (by decide) ?_
  refine newA (atype := .int) (T := 8) (N := 4) C hS rfl (by decide) 0 rfl rfl g_181 rfl (by decide) (by decide) (Nat.le_of_ble_eq_true rfl) (Nat.le_of_ble_eq_true rfl) (Nat.le_of_ble_eq_true rfl) dX8_init_215 (fun H (hS : SV G 114 _ H _) => ?_)
  refine putF (a := 99) (T := 7) (Tb := TX8) (N := 34) C hS (by omega) rfl rfl rfl giX8 tyX8 tyX8_ok nmX8 25 (by decide) rfl g_830 hin rfl rfl rfl dX8_init_217 (fun H locs hS => ?_)
  have hS : SV G 114 (W8 G V 14) H locs := hS.to (fun b hb j hj => ?S13)
  case S13 =>
    by_cases e : b = 99
    · subst e
      rcases (show j = 0 ∨ j = 1 ∨ j = 2 ∨ j = 3 ∨ j = 4 ∨ j = 5 ∨ j = 6 ∨ j = 7 ∨ j = 8 ∨ j = 9 ∨ j = 10 ∨ j = 11 ∨ j = 12 ∨ j = 13 ∨ j = 14 ∨ j = 15 ∨ j = 16 ∨ j = 17 ∨ j = 18 ∨ j = 19 ∨ j = 20 ∨ j = 21 ∨ j = 22 ∨ j = 23 ∨ j = 24 ∨ j = 25 ∨ j = 26 ∨ j = 27 ∨ j = 28 ∨ j = 29 ∨ j = 30 ∨ j = 31 ∨ j = 32 ∨ j = 33 by (have : j < 34 := hj); omega) with rfl | rfl | rfl | rfl | rfl | rfl | rfl | rfl | rfl | rfl | rfl | rfl | rfl | rfl | rfl | rfl | rfl | rfl | rfl | rfl | rfl | rfl | rfl | rfl | rfl | rfl | rfl | rfl | rfl | rfl | rfl | rfl | rfl | rfl <;> rfl
    by_cases e1 : b = 113
    · subst e1
      rfl
    · exact congrFun ((uV_ne (by omega)).trans ((uV_ne (by omega)).trans (W8_ne (by omega)))) j
  refine lv_aload_n hx hb dX8_init_220 rfl (lv_at hl 0 rfl) ?_
  refine lv_bipush (v := 96) hx hb dX8_init_221 (by decide) ?_
  refine newA (atype := .int) (T := 8) (N := 96) C hS rfl (by decide) 0 rfl rfl g_181 rfl (by decide) (by decide) (Nat.le_of_ble_eq_true rfl) (Nat.le_of_ble_eq_true rfl) (Nat.le_of_ble_eq_true rfl) dX8_init_223 (fun H (hS : SV G 115 _ H _) => ?_)
  refine putF (a := 99) (T := 7) (Tb := TX8) (N := 34) C hS (by omega) rfl rfl rfl giX8 tyX8 tyX8_ok nmX8 26 (by decide) rfl g_831 hin rfl rfl rfl dX8_init_225 (fun H locs hS => ?_)
  have hS : SV G 115 (W8 G V 15) H locs := hS.to (fun b hb j hj => ?S14)
  case S14 =>
    by_cases e : b = 99
    · subst e
      rcases (show j = 0 ∨ j = 1 ∨ j = 2 ∨ j = 3 ∨ j = 4 ∨ j = 5 ∨ j = 6 ∨ j = 7 ∨ j = 8 ∨ j = 9 ∨ j = 10 ∨ j = 11 ∨ j = 12 ∨ j = 13 ∨ j = 14 ∨ j = 15 ∨ j = 16 ∨ j = 17 ∨ j = 18 ∨ j = 19 ∨ j = 20 ∨ j = 21 ∨ j = 22 ∨ j = 23 ∨ j = 24 ∨ j = 25 ∨ j = 26 ∨ j = 27 ∨ j = 28 ∨ j = 29 ∨ j = 30 ∨ j = 31 ∨ j = 32 ∨ j = 33 by (have : j < 34 := hj); omega) with rfl | rfl | rfl | rfl | rfl | rfl | rfl | rfl | rfl | rfl | rfl | rfl | rfl | rfl | rfl | rfl | rfl | rfl | rfl | rfl | rfl | rfl | rfl | rfl | rfl | rfl | rfl | rfl | rfl | rfl | rfl | rfl | rfl | rfl <;> rfl
    by_cases e1 : b = 114
    · subst e1
      rfl
    · exact congrFun ((uV_ne (by omega)).trans ((uV_ne (by omega)).trans (W8_ne (by omega)))) j
  refine lv_aload_n hx hb dX8_init_228 rfl (lv_at hl 0 rfl) ?_
  refine lv_iconst (v := 5) hx hb dX8_init_229 (by decide) ?_
  refine newA (atype := .int) (T := 8) (N := 5) C hS rfl (by decide) 0 rfl rfl g_181 rfl (by decide) (by decide) (Nat.le_of_ble_eq_true rfl) (Nat.le_of_ble_eq_true rfl) (Nat.le_of_ble_eq_true rfl) dX8_init_230 (fun H (hS : SV G 116 _ H _) => ?_)
  refine putF (a := 99) (T := 7) (Tb := TX8) (N := 34) C hS (by omega) rfl rfl rfl giX8 tyX8 tyX8_ok nmX8 27 (by decide) rfl g_832 hin rfl rfl rfl dX8_init_232 (fun H locs hS => ?_)
  have hS : SV G 116 (W8 G V 16) H locs := hS.to (fun b hb j hj => ?S15)
  case S15 =>
    by_cases e : b = 99
    · subst e
      rcases (show j = 0 ∨ j = 1 ∨ j = 2 ∨ j = 3 ∨ j = 4 ∨ j = 5 ∨ j = 6 ∨ j = 7 ∨ j = 8 ∨ j = 9 ∨ j = 10 ∨ j = 11 ∨ j = 12 ∨ j = 13 ∨ j = 14 ∨ j = 15 ∨ j = 16 ∨ j = 17 ∨ j = 18 ∨ j = 19 ∨ j = 20 ∨ j = 21 ∨ j = 22 ∨ j = 23 ∨ j = 24 ∨ j = 25 ∨ j = 26 ∨ j = 27 ∨ j = 28 ∨ j = 29 ∨ j = 30 ∨ j = 31 ∨ j = 32 ∨ j = 33 by (have : j < 34 := hj); omega) with rfl | rfl | rfl | rfl | rfl | rfl | rfl | rfl | rfl | rfl | rfl | rfl | rfl | rfl | rfl | rfl | rfl | rfl | rfl | rfl | rfl | rfl | rfl | rfl | rfl | rfl | rfl | rfl | rfl | rfl | rfl | rfl | rfl | rfl <;> rfl
    by_cases e1 : b = 115
    · subst e1
      rfl
    · exact congrFun ((uV_ne (by omega)).trans ((uV_ne (by omega)).trans (W8_ne (by omega)))) j
  refine lv_aload_n hx hb dX8_init_235 rfl (lv_at hl 0 rfl) ?_
  refine lv_iconst (v := 5) hx hb dX8_init_236 (by decide) ?_
  refine newA (atype := .int) (T := 8) (N := 5) C hS rfl (by decide) 0 rfl rfl g_181 rfl (by decide) (by decide) (Nat.le_of_ble_eq_true rfl) (Nat.le_of_ble_eq_true rfl) (Nat.le_of_ble_eq_true rfl) dX8_init_237 (fun H (hS : SV G 117 _ H _) => ?_)
  refine putF (a := 99) (T := 7) (Tb := TX8) (N := 34) C hS (by omega) rfl rfl rfl giX8 tyX8 tyX8_ok nmX8 28 (by decide) rfl g_833 hin rfl rfl rfl dX8_init_239 (fun H locs hS => ?_)
  have hS : SV G 117 (W8 G V 17) H locs := hS.to (fun b hb j hj => ?S16)
  case S16 =>
    by_cases e : b = 99
    · subst e
      rcases (show j = 0 ∨ j = 1 ∨ j = 2 ∨ j = 3 ∨ j = 4 ∨ j = 5 ∨ j = 6 ∨ j = 7 ∨ j = 8 ∨ j = 9 ∨ j = 10 ∨ j = 11 ∨ j = 12 ∨ j = 13 ∨ j = 14 ∨ j = 15 ∨ j = 16 ∨ j = 17 ∨ j = 18 ∨ j = 19 ∨ j = 20 ∨ j = 21 ∨ j = 22 ∨ j = 23 ∨ j = 24 ∨ j = 25 ∨ j = 26 ∨ j = 27 ∨ j = 28 ∨ j = 29 ∨ j = 30 ∨ j = 31 ∨ j = 32 ∨ j = 33 by (have : j < 34 := hj); omega) with rfl | rfl | rfl | rfl | rfl | rfl | rfl | rfl | rfl | rfl | rfl | rfl | rfl | rfl | rfl | rfl | rfl | rfl | rfl | rfl | rfl | rfl | rfl | rfl | rfl | rfl | rfl | rfl | rfl | rfl | rfl | rfl | rfl | rfl <;> rfl
    by_cases e1 : b = 116
    · subst e1
      rfl
    · exact congrFun ((uV_ne (by omega)).trans ((uV_ne (by omega)).trans (W8_ne (by omega)))) j
  refine lv_aload_n hx hb dX8_init_242 rfl (lv_at hl 0 rfl) ?_
  refine lv_iconst (v := 5) hx hb dX8_init_243 (by decide) ?_
  refine newA (atype := .int) (T := 8) (N := 5) C hS rfl (by decide) 0 rfl rfl g_181 rfl (by decide) (by decide) (Nat.le_of_ble_eq_true rfl) (Nat.le_of_ble_eq_true rfl) (Nat.le_of_ble_eq_true rfl) dX8_init_244 (fun H (hS : SV G 118 _ H _) => ?_)
  refine putF (a := 99) (T := 7) (Tb := TX8) (N := 34) C hS (by omega) rfl rfl rfl giX8 tyX8 tyX8_ok nmX8 29 (by decide) rfl g_834 hin rfl rfl rfl dX8_init_246 (fun H locs hS => ?_)
  have hS : SV G 118 (W8 G V 18) H locs := hS.to (fun b hb j hj => ?S17)
  case S17 =>
    by_cases e : b = 99
    · subst e
      rcases (show j = 0 ∨ j = 1 ∨ j = 2 ∨ j = 3 ∨ j = 4 ∨ j = 5 ∨ j = 6 ∨ j = 7 ∨ j = 8 ∨ j = 9 ∨ j = 10 ∨ j = 11 ∨ j = 12 ∨ j = 13 ∨ j = 14 ∨ j = 15 ∨ j = 16 ∨ j = 17 ∨ j = 18 ∨ j = 19 ∨ j = 20 ∨ j = 21 ∨ j = 22 ∨ j = 23 ∨ j = 24 ∨ j = 25 ∨ j = 26 ∨ j = 27 ∨ j = 28 ∨ j = 29 ∨ j = 30 ∨ j = 31 ∨ j = 32 ∨ j = 33 by (have : j < 34 := hj); omega) with rfl | rfl | rfl | rfl | rfl | rfl | rfl | rfl | rfl | rfl | rfl | rfl | rfl | rfl | rfl | rfl | rfl | rfl | rfl | rfl | rfl | rfl | rfl | rfl | rfl | rfl | rfl | rfl | rfl | rfl | rfl | rfl | rfl | rfl <;> rfl
    by_cases e1 : b = 117
    · subst e1
      rfl
    · exact congrFun ((uV_ne (by omega)).trans ((uV_ne (by omega)).trans (W8_ne (by omega)))) j
  refine lv_aload_n hx hb dX8_init_249 rfl (lv_at hl 0 rfl) ?_
  refine lv_bipush (v := 120) hx hb dX8_init_250 (by decide) ?_
  refine newA (atype := .int) (T := 8) (N := 120) C hS rfl (by decide) 0 rfl rfl g_181 rfl (by decide) (by decide) (Nat.le_of_ble_eq_true rfl) (Nat.le_of_ble_eq_true rfl) (Nat.le_of_ble_eq_true rfl) dX8_init_252 (fun H (hS : SV G 119 _ H _) => ?_)
  refine putF (a := 99) (T := 7) (Tb := TX8) (N := 34) C hS (by omega) rfl rfl rfl giX8 tyX8 tyX8_ok nmX8 30 (by decide) rfl g_835 hin rfl rfl rfl dX8_init_254 (fun H locs hS => ?_)
  have hS : SV G 119 (W8 G V 19) H locs := hS.to (fun b hb j hj => ?S18)
  case S18 =>
    by_cases e : b = 99
    · subst e
      rcases (show j = 0 ∨ j = 1 ∨ j = 2 ∨ j = 3 ∨ j = 4 ∨ j = 5 ∨ j = 6 ∨ j = 7 ∨ j = 8 ∨ j = 9 ∨ j = 10 ∨ j = 11 ∨ j = 12 ∨ j = 13 ∨ j = 14 ∨ j = 15 ∨ j = 16 ∨ j = 17 ∨ j = 18 ∨ j = 19 ∨ j = 20 ∨ j = 21 ∨ j = 22 ∨ j = 23 ∨ j = 24 ∨ j = 25 ∨ j = 26 ∨ j = 27 ∨ j = 28 ∨ j = 29 ∨ j = 30 ∨ j = 31 ∨ j = 32 ∨ j = 33 by (have : j < 34 := hj); omega) with rfl | rfl | rfl | rfl | rfl | rfl | rfl | rfl | rfl | rfl | rfl | rfl | rfl | rfl | rfl | rfl | rfl | rfl | rfl | rfl | rfl | rfl | rfl | rfl | rfl | rfl | rfl | rfl | rfl | rfl | rfl | rfl | rfl | rfl <;> rfl
    by_cases e1 : b = 118
    · subst e1
      rfl
    · exact congrFun ((uV_ne (by omega)).trans ((uV_ne (by omega)).trans (W8_ne (by omega)))) j
  refine lv_aload_n hx hb dX8_init_257 rfl (lv_at hl 0 rfl) ?_
  refine lv_bipush (v := 24) hx hb dX8_init_258 (by decide) ?_
  refine newA (atype := .int) (T := 8) (N := 24) C hS rfl (by decide) 0 rfl rfl g_181 rfl (by decide) (by decide) (Nat.le_of_ble_eq_true rfl) (Nat.le_of_ble_eq_true rfl) (Nat.le_of_ble_eq_true rfl) dX8_init_260 (fun H (hS : SV G 120 _ H _) => ?_)
  refine putF (a := 99) (T := 7) (Tb := TX8) (N := 34) C hS (by omega) rfl rfl rfl giX8 tyX8 tyX8_ok nmX8 31 (by decide) rfl g_836 hin rfl rfl rfl dX8_init_262 (fun H locs hS => ?_)
  have hS : SV G 120 (W8 G V 20) H locs := hS.to (fun b hb j hj => ?S19)
  case S19 =>
    by_cases e : b = 99
    · subst e
      rcases (show j = 0 ∨ j = 1 ∨ j = 2 ∨ j = 3 ∨ j = 4 ∨ j = 5 ∨ j = 6 ∨ j = 7 ∨ j = 8 ∨ j = 9 ∨ j = 10 ∨ j = 11 ∨ j = 12 ∨ j = 13 ∨ j = 14 ∨ j = 15 ∨ j = 16 ∨ j = 17 ∨ j = 18 ∨ j = 19 ∨ j = 20 ∨ j = 21 ∨ j = 22 ∨ j = 23 ∨ j = 24 ∨ j = 25 ∨ j = 26 ∨ j = 27 ∨ j = 28 ∨ j = 29 ∨ j = 30 ∨ j = 31 ∨ j = 32 ∨ j = 33 by (have : j < 34 := hj); omega) with rfl | rfl | rfl | rfl | rfl | rfl | rfl | rfl | rfl | rfl | rfl | rfl | rfl | rfl | rfl | rfl | rfl | rfl | rfl | rfl | rfl | rfl | rfl | rfl | rfl | rfl | rfl | rfl | rfl | rfl | rfl | rfl | rfl | rfl <;> rfl
    by_cases e1 : b = 119
    · subst e1
      rfl
    · exact congrFun ((uV_ne (by omega)).trans ((uV_ne (by omega)).trans (W8_ne (by omega)))) j
  refine lv_aload_n hx hb dX8_init_265 rfl (lv_at hl 0 rfl) ?_
  refine lv_bipush (v := 60) hx hb dX8_init_266 (by decide) ?_
  refine newA (atype := .int) (T := 8) (N := 60) C hS rfl (by decide) 0 rfl rfl g_181 rfl (by decide) (by decide) (Nat.le_of_ble_eq_true rfl) (Nat.le_of_ble_eq_true rfl) (Nat.le_of_ble_eq_true rfl) dX8_init_268 (fun H (hS : SV G 121 _ H _) => ?_)
  refine putF (a := 99) (T := 7) (Tb := TX8) (N := 34) C hS (by omega) rfl rfl rfl giX8 tyX8 tyX8_ok nmX8 32 (by decide) rfl g_837 hin rfl rfl rfl dX8_init_270 (fun H locs hS => ?_)
  have hS : SV G 121 (W8 G V 21) H locs := hS.to (fun b hb j hj => ?S20)
  case S20 =>
    by_cases e : b = 99
    · subst e
      rcases (show j = 0 ∨ j = 1 ∨ j = 2 ∨ j = 3 ∨ j = 4 ∨ j = 5 ∨ j = 6 ∨ j = 7 ∨ j = 8 ∨ j = 9 ∨ j = 10 ∨ j = 11 ∨ j = 12 ∨ j = 13 ∨ j = 14 ∨ j = 15 ∨ j = 16 ∨ j = 17 ∨ j = 18 ∨ j = 19 ∨ j = 20 ∨ j = 21 ∨ j = 22 ∨ j = 23 ∨ j = 24 ∨ j = 25 ∨ j = 26 ∨ j = 27 ∨ j = 28 ∨ j = 29 ∨ j = 30 ∨ j = 31 ∨ j = 32 ∨ j = 33 by (have : j < 34 := hj); omega) with rfl | rfl | rfl | rfl | rfl | rfl | rfl | rfl | rfl | rfl | rfl | rfl | rfl | rfl | rfl | rfl | rfl | rfl | rfl | rfl | rfl | rfl | rfl | rfl | rfl | rfl | rfl | rfl | rfl | rfl | rfl | rfl | rfl | rfl <;> rfl
    by_cases e1 : b = 120
    · subst e1
      rfl
    · exact congrFun ((uV_ne (by omega)).trans ((uV_ne (by omega)).trans (W8_ne (by omega)))) j
  refine lv_aload_n hx hb dX8_init_273 rfl (lv_at hl 0 rfl) ?_
  refine getV (v := .ref (G.1 + 100)) (a := 99) (T := 7) (Tb := TX8) (N := 34) C hS (by omega) rfl rfl rfl giX8 0 (by decide) rfl g_805 rfl dX8_init_274 ?_
  refine lv_iconst (v := 0) hx hb dX8_init_277 (by decide) ?_
  refine lv_iconst (v := 1) hx hb dX8_init_278 (by decide) ?_
  refine asIv (a := 100) (n := 1437) C hS (by omega) rfl rfl (by decide) dX8_init_279 (fun H locs hS => ?_)
  refine lv_aload_n hx hb dX8_init_280 rfl (lv_at hl 0 rfl) ?_
  refine getV (v := .ref (G.1 + 100)) (a := 99) (T := 7) (Tb := TX8) (N := 34) C hS (by omega) rfl rfl rfl giX8 0 (by decide) rfl g_805 rfl dX8_init_281 ?_
  refine lv_iconst (v := 4) hx hb dX8_init_284 (by decide) ?_
  refine lv_bipush (v := 20) hx hb dX8_init_285 (by decide) ?_
  refine asIv (a := 100) (n := 1437) C hS (by omega) rfl rfl (by decide) dX8_init_287 (fun H locs hS => ?_)
  refine rtI0 C (hS.to (fun b hb j hj => ?_)) dX8_init_288
  by_cases e : b < 99
  · rw [fV_out (by omega)]
    refine congrFun ((uV_ne (by omega)).trans ((uV_ne (by omega)).trans ?_)) j
    unfold W8
    rw [if_neg (by omega), if_neg (by omega), if_neg (by omega)]
  rw [fV_in (by omega)]
  by_cases e1 : b = 99
  · subst e1
    rcases (show j = 0 ∨ j = 1 ∨ j = 2 ∨ j = 3 ∨ j = 4 ∨ j = 5 ∨ j = 6 ∨ j = 7 ∨ j = 8 ∨ j = 9 ∨ j = 10 ∨ j = 11 ∨ j = 12 ∨ j = 13 ∨ j = 14 ∨ j = 15 ∨ j = 16 ∨ j = 17 ∨ j = 18 ∨ j = 19 ∨ j = 20 ∨ j = 21 ∨ j = 22 ∨ j = 23 ∨ j = 24 ∨ j = 25 ∨ j = 26 ∨ j = 27 ∨ j = 28 ∨ j = 29 ∨ j = 30 ∨ j = 31 ∨ j = 32 ∨ j = 33 by (have : j < 34 := hj); omega) with rfl | rfl | rfl | rfl | rfl | rfl | rfl | rfl | rfl | rfl | rfl | rfl | rfl | rfl | rfl | rfl | rfl | rfl | rfl | rfl | rfl | rfl | rfl | rfl | rfl | rfl | rfl | rfl | rfl | rfl | rfl | rfl | rfl | rfl <;> rfl
  by_cases e2 : b = 100
  · subst e2
    by_cases j0 : j = 0
    · subst j0; rfl
    by_cases j4 : j = 4
    · subst j4; rfl
    have h0 : FIN G 100 j = .int 0 := by
      rw [show FIN G 100 j = .int (x0 100 j) from vwI rfl (by decide) rfl, show x0 100 j = 0 from by show (if j = 0 then (1 : Int32) else if j = 4 then 20 else 0) = 0; rw [if_neg j0, if_neg j4]]
    rw [h0]
    show (if j = 4 then _ else if j = 0 then _ else Value.int 0) = .int 0
    rw [if_neg j4, if_neg j0]
  · refine congrFun ((uV_ne (by omega)).trans ((uV_ne (by omega)).trans ?_)) j
    unfold W8
    rw [if_neg (by omega), if_neg (by omega), if_pos (by omega)]
