set_option maxRecDepth 100000 in
theorem cX7_init_ {G : GT} {l : Launch} {V : Nat → Nat → Value} : CtI G l yX7_init (.code yX7_init cX7_init 3 none) rmX7_init [.ref (G.1 + 0)] (1) V (99) (fV G V 0 99) := by
  refine CtI.of (by decide +kernel) rfl (Nat.le_of_ble_eq_true rfl) ?_
  intro p e s m args below meth c C hin hAO ls hl hS
  have C : CX G p s m args meth c cX7_init 3 none RX7 := C
  have hl : lv_has ls 3 [(0, .ref (G.1 + 0))] := hl
  have hx := C.1
  have hb := C.2.1
  refine lv_aload_n hx hb dX7_init_0 rfl (lv_at hl 0 rfl) ?_
  refine objI C g_22 g_23 g_24 hl.1 (Nat.le_of_ble_eq_true rfl) ⟨(Nat.le_of_ble_eq_true rfl), (Nat.le_of_ble_eq_true rfl)⟩ dX7_init_1 ?_
  refine lv_aload_n hx hb dX7_init_4 rfl (lv_at hl 0 rfl) ?_
  refine lv_bipush (v := 15) hx hb dX7_init_5 (by decide) ?_
  refine newQ (T := 15) (N := 15) C hS rfl (by decide) 7 rfl g_25 hAO.1 rfl (by decide) (by decide) (Nat.le_of_ble_eq_true rfl) (Nat.le_of_ble_eq_true rfl) (Nat.le_of_ble_eq_true rfl) dX7_init_7 (fun H (hS : SV G 2 _ H _) => ?_)
  refine putF (a := 0) (T := 6) (Tb := TX7) (N := 10) C hS (by omega) rfl rfl rfl giX7 tyX7 tyX7_ok nmX7 0 (by decide) rfl g_226 hin rfl rfl rfl dX7_init_10 (fun H locs hS => ?_)
  refine lv_aload_n hx hb dX7_init_13 rfl (lv_at hl 0 rfl) ?_
  refine newO (T := 4) C hS rfl rfl rfl giX5 tyX5 tyX5_ok g_27 g_28 g_2 (Nat.le_of_ble_eq_true rfl) (Nat.le_of_ble_eq_true rfl) dX7_init_14 (fun H (hS : SV G 3 _ H _) => ?_)
  refine lv_dup hx hb dX7_init_17 rfl ?_
  refine rcI (e := e) (a := 2) (As := []) (rest := [.ref (G.1 + 2), .ref (G.1 + 0)]) C hAO hS (cX5_init_ (a := 2) rfl) g_29 g_30 rfl g_2 g_31 ⟨by decide +kernel, by decide +kernel, by decide +kernel⟩ ⟨(Nat.le_of_ble_eq_true rfl), (Nat.le_of_ble_eq_true rfl)⟩ hl.1 rfl rfl (Nat.le_of_ble_eq_true rfl) ⟨(Nat.le_of_ble_eq_true rfl), (Nat.le_of_ble_eq_true rfl)⟩ dX7_init_18 (fun H locs (hS : SV G (4) _ H locs) => ?_)
  refine putF (a := 0) (T := 6) (Tb := TX7) (N := 10) C hS (by omega) rfl rfl rfl giX7 tyX7 tyX7_ok nmX7 1 (by decide) rfl g_227 hin rfl rfl rfl dX7_init_21 (fun H locs hS => ?_)
  refine lv_aload_n hx hb dX7_init_24 rfl (lv_at hl 0 rfl) ?_
  refine newO (T := 3) C hS rfl rfl rfl giX4 tyX4 tyX4_ok g_54 g_55 g_3 (Nat.le_of_ble_eq_true rfl) (Nat.le_of_ble_eq_true rfl) dX7_init_25 (fun H (hS : SV G 5 _ H _) => ?_)
  refine lv_dup hx hb dX7_init_28 rfl ?_
  refine rcI (e := e) (a := 4) (As := []) (rest := [.ref (G.1 + 4), .ref (G.1 + 0)]) C hAO hS (cX4_init_ (a := 4) rfl) g_56 g_57 rfl g_3 g_58 ⟨by decide +kernel, by decide +kernel, by decide +kernel⟩ ⟨(Nat.le_of_ble_eq_true rfl), (Nat.le_of_ble_eq_true rfl)⟩ hl.1 rfl rfl (Nat.le_of_ble_eq_true rfl) ⟨(Nat.le_of_ble_eq_true rfl), (Nat.le_of_ble_eq_true rfl)⟩ dX7_init_29 (fun H locs (hS : SV G (15) _ H locs) => ?_)
  refine putF (a := 0) (T := 6) (Tb := TX7) (N := 10) C hS (by omega) rfl rfl rfl giX7 tyX7 tyX7_ok nmX7 2 (by decide) rfl g_228 hin rfl rfl rfl dX7_init_32 (fun H locs hS => ?_)
  refine lv_aload_n hx hb dX7_init_35 rfl (lv_at hl 0 rfl) ?_
  refine newO (T := 3) C hS rfl rfl rfl giX4 tyX4 tyX4_ok g_54 g_55 g_3 (Nat.le_of_ble_eq_true rfl) (Nat.le_of_ble_eq_true rfl) dX7_init_36 (fun H (hS : SV G 16 _ H _) => ?_)
  refine lv_dup hx hb dX7_init_39 rfl ?_
  refine rcI (e := e) (a := 15) (As := []) (rest := [.ref (G.1 + 15), .ref (G.1 + 0)]) C hAO hS (cX4_init_ (a := 15) rfl) g_56 g_57 rfl g_3 g_58 ⟨by decide +kernel, by decide +kernel, by decide +kernel⟩ ⟨(Nat.le_of_ble_eq_true rfl), (Nat.le_of_ble_eq_true rfl)⟩ hl.1 rfl rfl (Nat.le_of_ble_eq_true rfl) ⟨(Nat.le_of_ble_eq_true rfl), (Nat.le_of_ble_eq_true rfl)⟩ dX7_init_40 (fun H locs (hS : SV G (26) _ H locs) => ?_)
  refine putF (a := 0) (T := 6) (Tb := TX7) (N := 10) C hS (by omega) rfl rfl rfl giX7 tyX7 tyX7_ok nmX7 3 (by decide) rfl g_229 hin rfl rfl rfl dX7_init_43 (fun H locs hS => ?_)
  refine lv_aload_n hx hb dX7_init_46 rfl (lv_at hl 0 rfl) ?_
  refine newO (T := 3) C hS rfl rfl rfl giX4 tyX4 tyX4_ok g_54 g_55 g_3 (Nat.le_of_ble_eq_true rfl) (Nat.le_of_ble_eq_true rfl) dX7_init_47 (fun H (hS : SV G 27 _ H _) => ?_)
  refine lv_dup hx hb dX7_init_50 rfl ?_
  refine rcI (e := e) (a := 26) (As := []) (rest := [.ref (G.1 + 26), .ref (G.1 + 0)]) C hAO hS (cX4_init_ (a := 26) rfl) g_56 g_57 rfl g_3 g_58 ⟨by decide +kernel, by decide +kernel, by decide +kernel⟩ ⟨(Nat.le_of_ble_eq_true rfl), (Nat.le_of_ble_eq_true rfl)⟩ hl.1 rfl rfl (Nat.le_of_ble_eq_true rfl) ⟨(Nat.le_of_ble_eq_true rfl), (Nat.le_of_ble_eq_true rfl)⟩ dX7_init_51 (fun H locs (hS : SV G (37) _ H locs) => ?_)
  refine putF (a := 0) (T := 6) (Tb := TX7) (N := 10) C hS (by omega) rfl rfl rfl giX7 tyX7 tyX7_ok nmX7 4 (by decide) rfl g_230 hin rfl rfl rfl dX7_init_54 (fun H locs hS => ?_)
  refine lv_aload_n hx hb dX7_init_57 rfl (lv_at hl 0 rfl) ?_
  refine lv_iconst (v := 4) hx hb dX7_init_58 (by decide) ?_
  refine newQ (T := 13) (N := 4) C hS rfl (by decide) 5 rfl g_149 hAO.2.2.1 rfl (by decide) (by decide) (Nat.le_of_ble_eq_true rfl) (Nat.le_of_ble_eq_true rfl) (Nat.le_of_ble_eq_true rfl) dX7_init_59 (fun H (hS : SV G 38 _ H _) => ?_)
  refine putF (a := 0) (T := 6) (Tb := TX7) (N := 10) C hS (by omega) rfl rfl rfl giX7 tyX7 tyX7_ok nmX7 5 (by decide) rfl g_231 hin rfl rfl rfl dX7_init_62 (fun H locs hS => ?_)
  refine lv_aload_n hx hb dX7_init_65 rfl (lv_at hl 0 rfl) ?_
  refine lv_iconst (v := 5) hx hb dX7_init_66 (by decide) ?_
  refine newQ (T := 14) (N := 5) C hS rfl (by decide) 6 rfl g_151 hAO.2.2.2 rfl (by decide) (by decide) (Nat.le_of_ble_eq_true rfl) (Nat.le_of_ble_eq_true rfl) (Nat.le_of_ble_eq_true rfl) dX7_init_67 (fun H (hS : SV G 39 _ H _) => ?_)
  refine putF (a := 0) (T := 6) (Tb := TX7) (N := 10) C hS (by omega) rfl rfl rfl giX7 tyX7 tyX7_ok nmX7 6 (by decide) rfl g_232 hin rfl rfl rfl dX7_init_70 (fun H locs hS => ?_)
  refine lv_aload_n hx hb dX7_init_73 rfl (lv_at hl 0 rfl) ?_
  refine lv_bipush (v := 60) hx hb dX7_init_74 (by decide) ?_
  refine newA (atype := .int) (T := 8) (N := 60) C hS rfl (by decide) 0 rfl rfl g_181 rfl (by decide) (by decide) (Nat.le_of_ble_eq_true rfl) (Nat.le_of_ble_eq_true rfl) (Nat.le_of_ble_eq_true rfl) dX7_init_76 (fun H (hS : SV G 40 _ H _) => ?_)
  refine putF (a := 0) (T := 6) (Tb := TX7) (N := 10) C hS (by omega) rfl rfl rfl giX7 tyX7 tyX7_ok nmX7 7 (by decide) rfl g_233 hin rfl rfl rfl dX7_init_78 (fun H locs hS => ?_)
  refine lv_aload_n hx hb dX7_init_81 rfl (lv_at hl 0 rfl) ?_
  refine lv_iconst (v := 0) hx hb dX7_init_82 (by decide) ?_
  refine putV (a := 0) (T := 6) (Tb := TX7) (N := 10) C hS (by omega) rfl rfl rfl giX7 tyX7 tyX7_ok nmX7 8 (by decide) rfl g_234 rfl rfl rfl dX7_init_83 (fun H locs hS => ?_)
  refine lv_aload_n hx hb dX7_init_86 rfl (lv_at hl 0 rfl) ?_
  refine lv_iconst (v := 0) hx hb dX7_init_87 (by decide) ?_
  refine putV (a := 0) (T := 6) (Tb := TX7) (N := 10) C hS (by omega) rfl rfl rfl giX7 tyX7 tyX7_ok nmX7 9 (by decide) rfl g_235 rfl rfl rfl dX7_init_88 (fun H locs hS => ?_)
  refine lv_bipush (v := 96) hx hb dX7_init_91 (by decide) ?_
  refine newA (atype := .int) (T := 8) (N := 96) C hS rfl (by decide) 0 rfl rfl g_181 rfl (by decide) (by decide) (Nat.le_of_ble_eq_true rfl) (Nat.le_of_ble_eq_true rfl) (Nat.le_of_ble_eq_true rfl) dX7_init_93 (fun H (hS : SV G 41 _ H _) => ?_)
  refine lv_astore_n (lv' := [(1, .ref (G.1 + 40)), (0, .ref (G.1 + 0))]) hx hb dX7_init_95 rfl hl (by decide) rfl (fun ls hl => ?_)
  refine lv_iconst (v := 0) hx hb dX7_init_96 (by decide) ?_
  refine lv_istore_n (lv' := [(2, .int 0), (1, .ref (G.1 + 40)), (0, .ref (G.1 + 0))]) hx hb dX7_init_97 rfl hl (by decide) rfl (fun ls hl => ?_)
  have hS : SV G 41 (V7 G V) H _ := hS.to (fun b hb j hj => ?V7)
  case V7 =>
    rcases (show b = 0 ∨ b = 1 ∨ b = 2 ∨ b = 3 ∨ b = 4 ∨ b = 5 ∨ b = 6 ∨ b = 7 ∨ b = 8 ∨ b = 9 ∨ b = 10 ∨ b = 11 ∨ b = 12 ∨ b = 13 ∨ b = 14 ∨ b = 15 ∨ b = 16 ∨ b = 17 ∨ b = 18 ∨ b = 19 ∨ b = 20 ∨ b = 21 ∨ b = 22 ∨ b = 23 ∨ b = 24 ∨ b = 25 ∨ b = 26 ∨ b = 27 ∨ b = 28 ∨ b = 29 ∨ b = 30 ∨ b = 31 ∨ b = 32 ∨ b = 33 ∨ b = 34 ∨ b = 35 ∨ b = 36 ∨ b = 37 ∨ b = 38 ∨ b = 39 ∨ b = 40 by omega) with rfl | rfl | rfl | rfl | rfl | rfl | rfl | rfl | rfl | rfl | rfl | rfl | rfl | rfl | rfl | rfl | rfl | rfl | rfl | rfl | rfl | rfl | rfl | rfl | rfl | rfl | rfl | rfl | rfl | rfl | rfl | rfl | rfl | rfl | rfl | rfl | rfl | rfl | rfl | rfl | rfl
    · rcases (show j = 0 ∨ j = 1 ∨ j = 2 ∨ j = 3 ∨ j = 4 ∨ j = 5 ∨ j = 6 ∨ j = 7 ∨ j = 8 ∨ j = 9 by (have : j < 10 := hj); omega) with rfl | rfl | rfl | rfl | rfl | rfl | rfl | rfl | rfl | rfl <;> rfl
    · rfl
    · rfl
    · rfl
    · rfl
    · rfl
    · rfl
    · rfl
    · rfl
    · rfl
    · rfl
    · rfl
    · rfl
    · rfl
    · rfl
    · rfl
    · rfl
    · rfl
    · rfl
    · rfl
    · rfl
    · rfl
    · rfl
    · rfl
    · rfl
    · rfl
    · rfl
    · rfl
    · rfl
    · rfl
    · rfl
    · rfl
    · rfl
    · rfl
    · rfl
    · rfl
    · rfl
    · rfl
    · rfl
    · rfl
    · rfl
  refine lpX7a C hAO (V := V7 G V) rfl (fun H locs ls hl hS => ?_) 15 0 _ _ _ _ _ (by omega) rfl rfl (by rw [LV_0]; exact hS) hl
  refine lv_iconst (v := 0) hx hb dX7_init_128 (by decide) ?_
  refine lv_istore_n (lv' := [(2, .int 0), (1, .ref (G.1 + 40)), (0, .ref (G.1 + 0))]) hx hb dX7_init_129 rfl hl (by decide) rfl (fun ls hl => ?_)
  refine lpX7b C hAO (V := LV G (V7 G V) 1 41 2 15) (LV_off rfl (by omega) (by omega)) (fun H locs ls hl hS => ?_) 4 0 _ _ _ _ _ (by omega) rfl rfl (by rw [LV_0]; exact hS) hl
  refine lv_iconst (v := 0) hx hb dX7_init_158 (by decide) ?_
  refine lv_istore_n (lv' := [(2, .int 0), (1, .ref (G.1 + 40)), (0, .ref (G.1 + 0))]) hx hb dX7_init_159 rfl hl (by decide) rfl (fun ls hl => ?_)
  refine lpX7c C hAO (V := LV G (LV G (V7 G V) 1 41 2 15) 37 71 2 4) (LV_off (LV_off rfl (by omega) (by omega)) (by omega) (by omega)) (fun H locs ls hl hS => ?_) 5 0 _ _ _ _ _ (by omega) rfl rfl (by rw [LV_0]; exact hS) hl
  refine rtI0 C (hS.to (fun b hb j hj => ?_)) dX7_init_188
  have e9 : fV G V 0 99 b j = FIN G b j := by unfold fV; rw [if_pos (by omega)]
  rw [e9]
  by_cases e : b = 38
  · subst e
    rw [LV_r (show j < 5 from hj)]
    exact (vwR rfl (by decide) rfl).symm
  by_cases e1 : b = 37
  · subst e1
    refine LV_off ?_ (by omega) (by omega)
    rw [LV_r (show j < 4 from hj)]
    exact (vwR rfl (by decide) rfl).symm
  by_cases e2 : b = 1
  · subst e2
    refine LV_off (LV_off ?_ (by omega) (by omega)) (by omega) (by omega)
    rw [LV_r (show j < 15 from hj)]
    exact (vwR rfl (by decide) rfl).symm
  by_cases e3 : 79 ≤ b
  · exact LV_in e e3 hb
  refine LV_off ?_ e (by omega)
  by_cases e4 : 71 ≤ b
  · exact LV_in e1 e4 (by omega)
  refine LV_off ?_ e1 (by omega)
  by_cases e5 : 41 ≤ b
  · exact LV_in e2 e5 (by omega)
  refine LV_off ?_ e2 (by omega)
  unfold V7
  rw [if_neg (by omega), if_pos (by omega)]
