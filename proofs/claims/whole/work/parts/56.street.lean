/-- a row of references at cell r, filled up to i with the objects made at c, c + z, .. -/
def LV (G : GT) (V : Nat → Nat → Value) (r c z i : Nat) : Nat → Nat → Value := fun b => if b = r then (fun j => if j < i then .ref (G.1 + (c + z * j)) else V r j) else if c ≤ b ∧ b < c + z * i then FIN G b else V b
theorem LV_off {G : GT} {V : Nat → Nat → Value} {r c z i a j : Nat} {v : Value} (h : V a j = v) (h1 : a ≠ r) (h2 : a < c) : LV G V r c z i a j = v := by
  unfold LV
  rw [if_neg h1, if_neg (by omega), h]
theorem LV_0 (G : GT) (V : Nat → Nat → Value) (r c z : Nat) : LV G V r c z 0 = V := by
  funext b j
  unfold LV
  by_cases e : b = r
  · rw [if_pos e]; subst e; rfl
  · rw [if_neg e, if_neg (by omega)]
theorem LV_step {G : GT} {V : Nat → Nat → Value} {r c z i k : Nat} {f : Nat → Value} {H : Heap} {locs : List Loc} (hr : r < c) (hi : i < 1000) (hk : k = c + z * i) (hS : SV G (k + z) (uV (fV G (uV (LV G V r c z i) k f) k z) r (updV (fV G (uV (LV G V r c z i) k f) k z r) (ix (nI i)) (.ref (G.1 + k)))) H locs) : SV G (c + z * (i + 1)) (LV G V r c z (i + 1)) H locs := by
  have e1 : c + z * (i + 1) = k + z := by rw [hk, Nat.mul_add]; omega
  rw [e1]
  refine hS.to (fun b hb j hj => ?_)
  rw [ix_nI (by omega)]
  have hz : z * (i + 1) = z * i + z := by rw [Nat.mul_add]; omega
  by_cases e : b = r
  · subst e
    have hf : fV G (uV (LV G V b c z i) k f) k z b = LV G V b c z i b := by
      unfold fV
      rw [if_neg (by omega)]
      unfold uV
      rw [if_neg (by omega)]
    show uV _ b _ b j = _
    unfold uV
    rw [if_pos rfl]
    have hf : fV G (uV (LV G V b c z i) k f) k z b = LV G V b c z i b := hf
    unfold uV at hf
    rw [hf]
    unfold updV LV
    rw [if_pos rfl, if_pos rfl]
    by_cases e2 : j = i
    · rw [if_pos e2, if_pos (by omega), e2, hk]
    · rw [if_neg e2]
      by_cases e3 : j < i
      · rw [if_pos e3, if_pos (by omega)]
      · rw [if_neg e3, if_neg (by omega)]
  · have h0 : uV (fV G (uV (LV G V r c z i) k f) k z) r (updV (fV G (uV (LV G V r c z i) k f) k z r) i (.ref (G.1 + k))) b = fV G (uV (LV G V r c z i) k f) k z b := by
      unfold uV; rw [if_neg e]
    rw [h0]
    unfold fV
    by_cases e2 : k ≤ b ∧ b < k + z
    · rw [if_pos e2]
      unfold LV
      rw [if_neg e, if_pos (by omega)]
    · rw [if_neg e2]
      unfold uV
      rw [if_neg (by omega)]
      unfold LV
      rw [if_neg e, if_neg e]
      by_cases e3 : c ≤ b ∧ b < c + z * i
      · rw [if_pos e3, if_pos (by omega)]
      · rw [if_neg e3, if_neg (by omega)]
theorem st_k : ∀ b : Fin 121, tg b.val = 3 → (∀ i : Fin 8, tg (b.val + 3 + 1 * i.val) = 0) ∧ b.val + 11 ≤ 99 := by decide
theorem st_i {a i : Nat} (h : tg a = 3) (hi : i < 8) : tg (a + 3 + 1 * i) = 0 := (st_k ⟨a, tg_lt h (by decide)⟩ h).1 ⟨i, hi⟩
theorem x0_16 {a j : Nat} (h : tg a = 16) : x0 a j = 0 := by
  have n : ∀ b, tg b ≠ 16 → ¬ a = b := fun b hb e => hb (e ▸ h)
  unfold x0
  rw [if_neg (n 99 (by decide)), if_neg (n 100 (by decide)), if_neg (n 105 (by decide)), if_neg (n 106 (by decide)), if_neg (n 112 (by decide)), h]
  rfl
abbrev rmX4_init : Room := { frames := 2, cells := 10, slots := 67, locals := 40 }
section LPX4
variable {p : Program} {l : Launch} {e : Env} {s : State} {m : MethodId} {args : Array Value} {below : List Frame} {meth : Method} {c : Code} {Q : State → Prop} {G : GT}
set_option maxRecDepth 100000 in
theorem lpX4 {a : Nat} (ha : tg a = 3) (C : CX G p s m args meth c cX4_init 2 none RX4) (hAO : AOs s) {V : Nat → Nat → Value} (hV : V a 0 = .ref (G.1 + (a + 1)))
    (kend : ∀ (H : Heap) (locs : List Loc) (ls : Array Slot), lv_has ls 2 [(1, .int (nI (8))), (0, .ref (G.1 + a))] → SV G (a + 3 + 1 * 8) (LV G V (a + 1) (a + 3) 1 8) H locs → W p l e rmX4_init s m args below meth c H locs 10 67 Q (F0 m 102 ls [])) :
    ∀ (d i cells slots : Nat) (H : Heap) (locs : List Loc) (ls : Array Slot), i + d = 8 → cells = 2 + 1 * i → slots = 11 + 7 * i → SV G (a + 3 + 1 * i) (LV G V (a + 1) (a + 3) 1 i) H locs → lv_has ls 2 [(1, .int (nI (i))), (0, .ref (G.1 + a))] → W p l e rmX4_init s m args below meth c H locs cells slots Q (F0 m 74 ls []) := by
  have hx := C.1
  have hb := C.2.1
  intro d
  induction d with
  | zero =>
    intro i cells slots H locs ls hd hc hs hS hl
    obtain rfl : i = 8 := by omega
    subst hc hs
    refine lv_iload_n hx hb dX4_init_74 rfl (lv_at hl 0 rfl) ?_
    refine lv_aload_n hx hb dX4_init_75 rfl (lv_at hl 1 rfl) ?_
    refine getV (v := .ref (G.1 + (a + 1))) C hS (by omega) ha rfl rfl giX4 0 (by decide) rfl g_101 (LV_off hV (by omega) (by omega)) dX4_init_76 ?_
    refine alNv C hS (by omega) (st_b ha) (by decide) 4 rfl (ln12 (st_b ha)) (v := nI 8) rfl dX4_init_79 ?_
    exact lv_icmp_ge (tgt := 102) hx hb dX4_init_80 (by decide) (fun _ => kend _ _ _ hl hS) (fun h => absurd (nI_le (Nat.le_refl 8) (by omega)) h)
  | succ d ih =>
    intro i cells slots H locs ls hd hc hs hS hl
    refine lv_iload_n hx hb dX4_init_74 rfl (lv_at hl 0 rfl) ?_
    refine lv_aload_n hx hb dX4_init_75 rfl (lv_at hl 1 rfl) ?_
    refine getV (v := .ref (G.1 + (a + 1))) C hS (by omega) ha rfl rfl giX4 0 (by decide) rfl g_101 (LV_off hV (by omega) (by omega)) dX4_init_76 ?_
    refine alNv C hS (by omega) (st_b ha) (by decide) 4 rfl (ln12 (st_b ha)) (v := nI 8) rfl dX4_init_79 ?_
    refine lv_icmp_ge (tgt := 102) hx hb dX4_init_80 (by decide) (fun h => absurd h (nI_ge (by omega) (by omega))) (fun _ => ?_)
    refine lv_aload_n hx hb dX4_init_83 rfl (lv_at hl 1 rfl) ?_
    refine getV (v := .ref (G.1 + (a + 1))) C hS (by omega) ha rfl rfl giX4 0 (by decide) rfl g_101 (LV_off hV (by omega) (by omega)) dX4_init_84 ?_
    refine lv_iload_n hx hb dX4_init_87 rfl (lv_at hl 0 rfl) ?_
    refine newO C hS (st_i ha (by omega)) rfl rfl giX0 tyX0 tyX0_ok g_60 g_63 g_4 (Nat.le_trans (show _ ≤ 10 by omega) (Nat.le_of_ble_eq_true rfl)) (Nat.le_trans (show _ ≤ 67 by omega) (Nat.le_of_ble_eq_true rfl)) dX4_init_88 (fun H hS => ?_)
    refine lv_dup hx hb dX4_init_91 rfl ?_
    refine rcI (e := e) (n := 0) (a := a + 3 + 1 * i) (As := []) (rest := [.ref (G.1 + (a + 3 + 1 * i)), .int (nI i), .ref (G.1 + (a + 1))]) C hAO hS (cX0_init_ (st_i ha (by omega))) g_64 g_65 rfl g_4 g_66 ⟨by decide +kernel, by decide +kernel, by decide +kernel⟩ ⟨(Nat.le_of_ble_eq_true rfl), (Nat.le_of_ble_eq_true rfl)⟩ hl.1 rfl rfl (Nat.le_of_ble_eq_true rfl) ⟨Nat.le_trans (show _ ≤ 10 by simp only []; omega) (Nat.le_of_ble_eq_true rfl), Nat.le_trans (show _ ≤ 67 by simp only []; omega) (Nat.le_of_ble_eq_true rfl)⟩ dX4_init_92 (fun H locs hS => ?_)
    refine asQv (n := 8) (b := a + 3 + 1 * i) C hS (by omega) (st_b ha) (by decide) (ln12 (st_b ha)) (by omega) (st_i ha (by omega)) rfl 4 rfl (inb_nI (show i < 8 by omega) (by omega)) dX4_init_95 (fun H locs hS => ?_)
    refine lv_iinc (v := nI (i + 1)) (lv' := [(1, .int (nI (i + 1))), (0, .ref (G.1 + a))]) (k := 0) hx hb dX4_init_96 hl rfl (nI_add i 1) (by decide) rfl (fun ls hl => ?_)
    refine lv_goto (tgt := 74) hx hb dX4_init_99 (by decide) ?_
    exact ih (i + 1) _ _ _ _ _ (by omega) (by simp only []; omega) (by simp only []; omega) (LV_step (by omega) (by omega) rfl hS) hl
end LPX4
set_option maxRecDepth 100000 in
theorem cX4_init_ {G : GT} {l : Launch} {a : Nat} {V : Nat → Nat → Value} (ha : tg a = 3) : CtI G l yX4_init (.code yX4_init cX4_init 2 none) rmX4_init [.ref (G.1 + a)] (a + 1) V (a + 11) (fV G V a 11) := by
  refine CtI.of (by decide +kernel) rfl (Nat.le_of_ble_eq_true rfl) ?_
  intro p e s m args below meth c C hin hAO ls hl hS
  have C : CX G p s m args meth c cX4_init 2 none RX4 := C
  have hl : lv_has ls 2 [(0, .ref (G.1 + a))] := hl
  have hx := C.1
  have hb := C.2.1
  refine lv_aload_n hx hb dX4_init_0 rfl (lv_at hl 0 rfl) ?_
  refine objI C g_59 g_23 g_24 hl.1 (Nat.le_of_ble_eq_true rfl) ⟨(Nat.le_of_ble_eq_true rfl), (Nat.le_of_ble_eq_true rfl)⟩ dX4_init_1 ?_
  refine lv_aload_n hx hb dX4_init_4 rfl (lv_at hl 0 rfl) ?_
  refine lv_bipush (v := 8) hx hb dX4_init_5 (by decide) ?_
  refine newQ C hS (st_b ha) (by decide) 4 rfl g_60 hAO.2.1 (ln12 (st_b ha)) (by decide) (by decide) (Nat.le_of_ble_eq_true rfl) (Nat.le_of_ble_eq_true rfl) (Nat.le_of_ble_eq_true rfl) dX4_init_7 (fun H (hS : SV G (a + 1 + 1) _ H _) => ?_)
  refine putF C hS (by omega) ha rfl rfl giX4 tyX4 tyX4_ok nmX4 0 (by decide) rfl g_101 hin rfl rfl rfl dX4_init_10 (fun H locs hS => ?_)
  refine lv_aload_n hx hb dX4_init_13 rfl (lv_at hl 0 rfl) ?_
  refine lv_iconst (v := 3) hx hb dX4_init_14 (by decide) ?_
  refine newQ C hS (st_l ha) (by decide) 8 rfl g_62 hAO.1 (ln16 (st_l ha)) (by decide) (by decide) (Nat.le_of_ble_eq_true rfl) (Nat.le_of_ble_eq_true rfl) (Nat.le_of_ble_eq_true rfl) dX4_init_15 (fun H (hS : SV G (a + 1 + 1 + 1) _ H _) => ?_)
  refine putF C hS (by omega) ha rfl rfl giX4 tyX4 tyX4_ok nmX4 1 (by decide) rfl g_103 hin rfl rfl rfl dX4_init_18 (fun H locs hS => ?_)
  refine lv_aload_n hx hb dX4_init_21 rfl (lv_at hl 0 rfl) ?_
  refine lv_iconst (v := 0) hx hb dX4_init_22 (by decide) ?_
  refine putV C hS (by omega) ha rfl rfl giX4 tyX4 tyX4_ok nmX4 2 (by decide) rfl g_104 rfl rfl rfl dX4_init_23 (fun H locs hS => ?_)
  refine lv_aload_n hx hb dX4_init_26 rfl (lv_at hl 0 rfl) ?_
  refine lv_iconst (v := 0) hx hb dX4_init_27 (by decide) ?_
  refine putV C hS (by omega) ha rfl rfl giX4 tyX4 tyX4_ok nmX4 3 (by decide) rfl g_106 rfl rfl rfl dX4_init_28 (fun H locs hS => ?_)
  refine lv_aload_n hx hb dX4_init_31 rfl (lv_at hl 0 rfl) ?_
  refine lv_iconst (v := 0) hx hb dX4_init_32 (by decide) ?_
  refine putV C hS (by omega) ha rfl rfl giX4 tyX4 tyX4_ok nmX4 4 (by decide) rfl g_108 rfl rfl rfl dX4_init_33 (fun H locs hS => ?_)
  refine lv_aload_n hx hb dX4_init_36 rfl (lv_at hl 0 rfl) ?_
  refine lv_iconst (v := 0) hx hb dX4_init_37 (by decide) ?_
  refine putV C hS (by omega) ha rfl rfl giX4 tyX4 tyX4_ok nmX4 5 (by decide) rfl g_110 rfl rfl rfl dX4_init_38 (fun H locs hS => ?_)
  refine lv_aload_n hx hb dX4_init_41 rfl (lv_at hl 0 rfl) ?_
  refine lv_bipush (v := 20) hx hb dX4_init_42 (by decide) ?_
  refine putV C hS (by omega) ha rfl rfl giX4 tyX4 tyX4_ok nmX4 6 (by decide) rfl g_112 rfl rfl rfl dX4_init_44 (fun H locs hS => ?_)
  refine lv_aload_n hx hb dX4_init_47 rfl (lv_at hl 0 rfl) ?_
  refine lv_iconst (v := 0) hx hb dX4_init_48 (by decide) ?_
  refine putV C hS (by omega) ha rfl rfl giX4 tyX4 tyX4_ok nmX4 7 (by decide) rfl g_114 rfl rfl rfl dX4_init_49 (fun H locs hS => ?_)
  refine lv_aload_n hx hb dX4_init_52 rfl (lv_at hl 0 rfl) ?_
  refine lv_iconst (v := 0) hx hb dX4_init_53 (by decide) ?_
  refine putV C hS (by omega) ha rfl rfl giX4 tyX4 tyX4_ok nmX4 8 (by decide) rfl g_116 rfl rfl rfl dX4_init_54 (fun H locs hS => ?_)
  refine lv_aload_n hx hb dX4_init_57 rfl (lv_at hl 0 rfl) ?_
  refine lv_iconst (v := 1) hx hb dX4_init_58 (by decide) ?_
  refine putV C hS (by omega) ha rfl rfl giX4 tyX4 tyX4_ok nmX4 9 (by decide) rfl g_118 rfl rfl rfl dX4_init_59 (fun H locs hS => ?_)
  refine lv_aload_n hx hb dX4_init_62 rfl (lv_at hl 0 rfl) ?_
  refine lv_iconst (v := 0) hx hb dX4_init_63 (by decide) ?_
  refine putV C hS (by omega) ha rfl rfl giX4 tyX4 tyX4_ok nmX4 10 (by decide) rfl g_120 rfl rfl rfl dX4_init_64 (fun H locs hS => ?_)
  refine lv_aload_n hx hb dX4_init_67 rfl (lv_at hl 0 rfl) ?_
  refine lv_iconst (v := (-1)) hx hb dX4_init_68 (by decide) ?_
  refine putV C hS (by omega) ha rfl rfl giX4 tyX4 tyX4_ok nmX4 11 (by decide) rfl g_122 rfl rfl rfl dX4_init_69 (fun H locs hS => ?_)
  refine lv_iconst (v := 0) hx hb dX4_init_72 (by decide) ?_
  refine lv_istore_n (lv' := [(1, .int 0), (0, .ref (G.1 + a))]) hx hb dX4_init_73 rfl hl (by decide) rfl (fun ls hl => ?_)
  refine lpX4 ha C hAO (V := _) ?_ (fun H locs ls hl hS => ?_) 8 0 _ _ _ _ _ (by omega) rfl rfl (by rw [LV_0]; exact hS) hl
  · simp [uV, updV, show ¬ (a = a + 1 + 1) by omega]
  refine rtI0 C (hS.to (fun b hb j hj => ?_)) dX4_init_102
  by_cases e : b = a
  · subst e
    have h7 : j < 12 := by unfold szc at hj; rw [ha] at hj; exact hj
    have e9 : fV G V b 11 b j = FIN G b j := by unfold fV; rw [if_pos (by omega)]
    rw [e9]
    refine LV_off ?_ (by omega) (by omega)
    rcases (show j = 0 ∨ j = 1 ∨ j = 2 ∨ j = 3 ∨ j = 4 ∨ j = 5 ∨ j = 6 ∨ j = 7 ∨ j = 8 ∨ j = 9 ∨ j = 10 ∨ j = 11 by omega) with rfl | rfl | rfl | rfl | rfl | rfl | rfl | rfl | rfl | rfl | rfl | rfl
    · rw [show FIN G b 0 = .ref (G.1 + (b + 1)) from vwR ha (by decide) rfl]; simp [uV, updV, show ¬ (b = b + 1 + 1) by omega]
    · rw [show FIN G b 1 = .ref (G.1 + (b + 2)) from vwR ha (by decide) rfl]; simp [uV, updV, show ¬ (b = b + 1 + 1) by omega]
    · rw [show FIN G b 2 = .int (x0 b 2) from vwI ha (by decide) rfl, x0_off (by rw [ha]; decide), ha]; simp [uV, updV]
    · rw [show FIN G b 3 = .int (x0 b 3) from vwI ha (by decide) rfl, x0_off (by rw [ha]; decide), ha]; simp [uV, updV]
    · rw [show FIN G b 4 = .int (x0 b 4) from vwI ha (by decide) rfl, x0_off (by rw [ha]; decide), ha]; simp [uV, updV]
    · rw [show FIN G b 5 = .int (x0 b 5) from vwI ha (by decide) rfl, x0_off (by rw [ha]; decide), ha]; simp [uV, updV]
    · rw [show FIN G b 6 = .int (x0 b 6) from vwI ha (by decide) rfl, x0_off (by rw [ha]; decide), ha]; simp [uV, updV]
    · rw [show FIN G b 7 = .int (x0 b 7) from vwI ha (by decide) rfl, x0_off (by rw [ha]; decide), ha]; simp [uV, updV]
    · rw [show FIN G b 8 = .int (x0 b 8) from vwI ha (by decide) rfl, x0_off (by rw [ha]; decide), ha]; simp [uV, updV]
    · rw [show FIN G b 9 = .int (x0 b 9) from vwI ha (by decide) rfl, x0_off (by rw [ha]; decide), ha]; simp [uV, updV]
    · rw [show FIN G b 10 = .int (x0 b 10) from vwI ha (by decide) rfl, x0_off (by rw [ha]; decide), ha]; simp [uV, updV]
    · rw [show FIN G b 11 = .int (x0 b 11) from vwI ha (by decide) rfl, x0_off (by rw [ha]; decide), ha]; simp [uV, updV]
  by_cases e1 : b = a + 1
  · subst e1
    have h7 : j < 8 := by unfold szc at hj; rw [st_b ha] at hj; rw [if_neg (by decide), ln12 (st_b ha)] at hj; exact hj
    have e9 : fV G V a 11 (a + 1) j = FIN G (a + 1) j := by unfold fV; rw [if_pos (by omega)]
    rw [e9, show FIN G (a + 1) j = .ref (G.1 + (a + 1 + 2 + j)) from vwR (st_b ha) (by decide) rfl]
    unfold LV
    rw [if_pos rfl, if_pos h7]
    rw [show a + 3 + 1 * j = a + 1 + 2 + j by omega]
  by_cases e2 : b = a + 2
  · subst e2
    have e9 : fV G V a 11 (a + 2) j = FIN G (a + 2) j := by unfold fV; rw [if_pos (by omega)]
    rw [e9]
    refine LV_off ?_ (by omega) (by omega)
    have hx0 : x0 (a + 2) j = 0 := x0_16 (st_l ha)
    have : FIN G (a + 2) j = .null := by
      show vw G.1 x0 (a + 2) j = .null
      unfold vw
      rw [if_pos (st_l ha), hx0]
      rfl
    rw [this]
    simp [uV, updV]
  · unfold LV fV
    rw [if_neg (by omega)]
    by_cases e3 : a + 3 ≤ b ∧ b < a + 3 + 1 * 8
    · rw [if_pos e3, if_pos (by omega)]
    · rw [if_neg e3, if_neg (by omega)]
      simp [uV, e, e1, e2]
