theorem LV_r {G : GT} {V : Nat → Nat → Value} {r c z i j : Nat} (h : j < i) : LV G V r c z i r j = .ref (G.1 + (c + z * j)) := by
  unfold LV
  rw [if_pos rfl, if_pos h]
theorem LV_in {G : GT} {V : Nat → Nat → Value} {r c z i b j : Nat} (h : b ≠ r) (h1 : c ≤ b) (h2 : b < c + z * i) : LV G V r c z i b j = FIN G b j := by
  unfold LV
  rw [if_neg h, if_pos ⟨h1, h2⟩]
theorem tkT : ∀ i : Fin 15, tg (41 + 2 * i.val) = 5 := by decide
theorem tkS : ∀ i : Fin 4, tg (71 + 2 * i.val) = 1 := by decide
theorem tkO : ∀ i : Fin 5, tg (79 + 4 * i.val) = 2 := by decide
theorem xkT : ∀ i : Fin 15, x0 (41 + 2 * i.val) 0 = nI i.val := by decide
/-- the cells up to 40 are made, the rows are still empty -/
def V7 (G : GT) (V : Nat → Nat → Value) : Nat → Nat → Value := fun b => if b = 1 ∨ b = 37 ∨ b = 38 then (fun _ => .null) else if b < 41 then FIN G b else V b
abbrev rmX7_init : Room := { frames := 3, cells := 98, slots := 2347, locals := 61 }
section LPX7A
variable {p : Program} {l : Launch} {e : Env} {s : State} {m : MethodId} {args : Array Value} {below : List Frame} {meth : Method} {c : Code} {Q : State → Prop} {G : GT}
set_option maxRecDepth 100000 in
theorem lpX7a (C : CX G p s m args meth c cX7_init 3 none RX7) (hAO : AOs s) {V : Nat → Nat → Value} (hV : V 0 0 = .ref (G.1 + 1))
    (kend : ∀ (H : Heap) (locs : List Loc) (ls : Array Slot), lv_has ls 3 [(2, .int (nI (15))), (1, .ref (G.1 + 40)), (0, .ref (G.1 + 0))] → SV G (41 + 2 * 15) (LV G V 1 (41) 2 15) H locs → W p l e rmX7_init s m args below meth c H locs 70 2049 Q (F0 m 128 ls [])) :
    ∀ (d i cells slots : Nat) (H : Heap) (locs : List Loc) (ls : Array Slot), i + d = 15 → cells = 40 + 2 * i → slots = 519 + 102 * i → SV G (41 + 2 * i) (LV G V 1 (41) 2 i) H locs → lv_has ls 3 [(2, .int (nI (i))), (1, .ref (G.1 + 40)), (0, .ref (G.1 + 0))] → W p l e rmX7_init s m args below meth c H locs cells slots Q (F0 m 98 ls []) := by
  have hx := C.1
  have hb := C.2.1
  intro d
  induction d with
  | zero =>
    intro i cells slots H locs ls hd hc hs hS hl
    obtain rfl : i = 15 := by omega
    subst hc hs
    refine lv_iload_n hx hb dX7_init_98 rfl (lv_at hl 0 rfl) ?_
    refine lv_aload_n hx hb dX7_init_99 rfl (lv_at hl 2 rfl) ?_
    refine getV (v := .ref (G.1 + 1)) C hS (by omega) rfl rfl rfl giX7 0 (by decide) rfl g_226 (LV_off hV (by omega) (by omega)) dX7_init_100 ?_
    refine alNv C hS (by omega) rfl (by decide) 7 rfl rfl (v := nI 15) rfl dX7_init_103 ?_
    exact lv_icmp_ge (tgt := 128) hx hb dX7_init_104 (by decide) (fun _ => kend _ _ _ hl hS) (fun h => absurd (nI_le (Nat.le_refl 15) (by omega)) h)
  | succ d ih =>
    intro i cells slots H locs ls hd hc hs hS hl
    refine lv_iload_n hx hb dX7_init_98 rfl (lv_at hl 0 rfl) ?_
    refine lv_aload_n hx hb dX7_init_99 rfl (lv_at hl 2 rfl) ?_
    refine getV (v := .ref (G.1 + 1)) C hS (by omega) rfl rfl rfl giX7 0 (by decide) rfl g_226 (LV_off hV (by omega) (by omega)) dX7_init_100 ?_
    refine alNv C hS (by omega) rfl (by decide) 7 rfl rfl (v := nI 15) rfl dX7_init_103 ?_
    refine lv_icmp_ge (tgt := 128) hx hb dX7_init_104 (by decide) (fun h => absurd h (nI_ge (by omega) (by omega))) (fun _ => ?_)
    refine lv_aload_n hx hb dX7_init_107 rfl (lv_at hl 2 rfl) ?_
    refine getV (v := .ref (G.1 + 1)) C hS (by omega) rfl rfl rfl giX7 0 (by decide) rfl g_226 (LV_off hV (by omega) (by omega)) dX7_init_108 ?_
    refine lv_iload_n hx hb dX7_init_111 rfl (lv_at hl 0 rfl) ?_
    refine newO C hS (tkT ⟨i, by omega⟩) rfl rfl giX6 tyX6 tyX6_ok g_25 g_153 g_5 (Nat.le_trans (show _ ≤ 70 by omega) (Nat.le_of_ble_eq_true rfl)) (Nat.le_trans (show _ ≤ 2049 by omega) (Nat.le_of_ble_eq_true rfl)) dX7_init_112 (fun H hS => ?_)
    refine lv_dup hx hb dX7_init_115 rfl ?_
    refine lv_iload_n hx hb dX7_init_116 rfl (lv_at hl 0 rfl) ?_
    refine lv_aload_n hx hb dX7_init_117 rfl (lv_at hl 1 rfl) ?_
    refine rcI (e := e) (n := 2) (a := 41 + 2 * i) (As := [.int (nI i), .ref (G.1 + 40)]) (rest := [.ref (G.1 + (41 + 2 * i)), .int (nI i), .ref (G.1 + 1)]) C hAO hS (cX6_init_ (tkT ⟨i, by omega⟩) (xkT ⟨i, by omega⟩)) g_154 g_155 rfl g_5 g_156 ⟨by decide +kernel, by decide +kernel, by decide +kernel⟩ ⟨(Nat.le_of_ble_eq_true rfl), (Nat.le_of_ble_eq_true rfl)⟩ hl.1 rfl rfl (Nat.le_of_ble_eq_true rfl) ⟨Nat.le_trans (show _ ≤ 70 by simp only []; omega) (Nat.le_of_ble_eq_true rfl), Nat.le_trans (show _ ≤ 2049 by simp only []; omega) (Nat.le_of_ble_eq_true rfl)⟩ dX7_init_118 (fun H locs hS => ?_)
    refine asQv (n := 15) (b := 41 + 2 * i) C hS (by omega) rfl (by decide) rfl (by omega) (tkT ⟨i, by omega⟩) rfl 7 rfl (inb_nI (show i < 15 by omega) (by omega)) dX7_init_121 (fun H locs hS => ?_)
    refine lv_iinc (v := nI (i + 1)) (lv' := [(2, .int (nI (i + 1))), (1, .ref (G.1 + 40)), (0, .ref (G.1 + 0))]) (k := 0) hx hb dX7_init_122 hl rfl (nI_add i 1) (by decide) rfl (fun ls hl => ?_)
    refine lv_goto (tgt := 98) hx hb dX7_init_125 (by decide) ?_
    exact ih (i + 1) _ _ _ _ _ (by omega) (by simp only []; omega) (by simp only []; omega) (LV_step (by omega) (by omega) rfl hS) hl
end LPX7A
section LPX7B
variable {p : Program} {l : Launch} {e : Env} {s : State} {m : MethodId} {args : Array Value} {below : List Frame} {meth : Method} {c : Code} {Q : State → Prop} {G : GT}
set_option maxRecDepth 100000 in
theorem lpX7b (C : CX G p s m args meth c cX7_init 3 none RX7) (hAO : AOs s) {V : Nat → Nat → Value} (hV : V 0 5 = .ref (G.1 + 37))
    (kend : ∀ (H : Heap) (locs : List Loc) (ls : Array Slot), lv_has ls 3 [(2, .int (nI (4))), (1, .ref (G.1 + 40)), (0, .ref (G.1 + 0))] → SV G (71 + 2 * 4) (LV G V 37 (71) 2 4) H locs → W p l e rmX7_init s m args below meth c H locs 78 2157 Q (F0 m 158 ls [])) :
    ∀ (d i cells slots : Nat) (H : Heap) (locs : List Loc) (ls : Array Slot), i + d = 4 → cells = 70 + 2 * i → slots = 2049 + 27 * i → SV G (71 + 2 * i) (LV G V 37 (71) 2 i) H locs → lv_has ls 3 [(2, .int (nI (i))), (1, .ref (G.1 + 40)), (0, .ref (G.1 + 0))] → W p l e rmX7_init s m args below meth c H locs cells slots Q (F0 m 130 ls []) := by
  have hx := C.1
  have hb := C.2.1
  intro d
  induction d with
  | zero =>
    intro i cells slots H locs ls hd hc hs hS hl
    obtain rfl : i = 4 := by omega
    subst hc hs
    refine lv_iload_n hx hb dX7_init_130 rfl (lv_at hl 0 rfl) ?_
    refine lv_aload_n hx hb dX7_init_131 rfl (lv_at hl 2 rfl) ?_
    refine getV (v := .ref (G.1 + 37)) C hS (by omega) rfl rfl rfl giX7 5 (by decide) rfl g_231 (LV_off hV (by omega) (by omega)) dX7_init_132 ?_
    refine alNv C hS (by omega) rfl (by decide) 5 rfl rfl (v := nI 4) rfl dX7_init_135 ?_
    exact lv_icmp_ge (tgt := 158) hx hb dX7_init_136 (by decide) (fun _ => kend _ _ _ hl hS) (fun h => absurd (nI_le (Nat.le_refl 4) (by omega)) h)
  | succ d ih =>
    intro i cells slots H locs ls hd hc hs hS hl
    refine lv_iload_n hx hb dX7_init_130 rfl (lv_at hl 0 rfl) ?_
    refine lv_aload_n hx hb dX7_init_131 rfl (lv_at hl 2 rfl) ?_
    refine getV (v := .ref (G.1 + 37)) C hS (by omega) rfl rfl rfl giX7 5 (by decide) rfl g_231 (LV_off hV (by omega) (by omega)) dX7_init_132 ?_
    refine alNv C hS (by omega) rfl (by decide) 5 rfl rfl (v := nI 4) rfl dX7_init_135 ?_
    refine lv_icmp_ge (tgt := 158) hx hb dX7_init_136 (by decide) (fun h => absurd h (nI_ge (by omega) (by omega))) (fun _ => ?_)
    refine lv_aload_n hx hb dX7_init_139 rfl (lv_at hl 2 rfl) ?_
    refine getV (v := .ref (G.1 + 37)) C hS (by omega) rfl rfl rfl giX7 5 (by decide) rfl g_231 (LV_off hV (by omega) (by omega)) dX7_init_140 ?_
    refine lv_iload_n hx hb dX7_init_143 rfl (lv_at hl 0 rfl) ?_
    refine newO C hS (tkS ⟨i, by omega⟩) rfl rfl giX2 tyX2 tyX2_ok g_149 g_182 g_6 (Nat.le_trans (show _ ≤ 78 by omega) (Nat.le_of_ble_eq_true rfl)) (Nat.le_trans (show _ ≤ 2157 by omega) (Nat.le_of_ble_eq_true rfl)) dX7_init_144 (fun H hS => ?_)
    refine lv_dup hx hb dX7_init_147 rfl ?_
    refine rcI (e := e) (n := 0) (a := 71 + 2 * i) (As := []) (rest := [.ref (G.1 + (71 + 2 * i)), .int (nI i), .ref (G.1 + 37)]) C hAO hS (cX2_init_ (tkS ⟨i, by omega⟩)) g_183 g_184 rfl g_6 g_185 ⟨by decide +kernel, by decide +kernel, by decide +kernel⟩ ⟨(Nat.le_of_ble_eq_true rfl), (Nat.le_of_ble_eq_true rfl)⟩ hl.1 rfl rfl (Nat.le_of_ble_eq_true rfl) ⟨Nat.le_trans (show _ ≤ 78 by simp only []; omega) (Nat.le_of_ble_eq_true rfl), Nat.le_trans (show _ ≤ 2157 by simp only []; omega) (Nat.le_of_ble_eq_true rfl)⟩ dX7_init_148 (fun H locs hS => ?_)
    refine asQv (n := 4) (b := 71 + 2 * i) C hS (by omega) rfl (by decide) rfl (by omega) (tkS ⟨i, by omega⟩) rfl 5 rfl (inb_nI (show i < 4 by omega) (by omega)) dX7_init_151 (fun H locs hS => ?_)
    refine lv_iinc (v := nI (i + 1)) (lv' := [(2, .int (nI (i + 1))), (1, .ref (G.1 + 40)), (0, .ref (G.1 + 0))]) (k := 0) hx hb dX7_init_152 hl rfl (nI_add i 1) (by decide) rfl (fun ls hl => ?_)
    refine lv_goto (tgt := 130) hx hb dX7_init_155 (by decide) ?_
    exact ih (i + 1) _ _ _ _ _ (by omega) (by simp only []; omega) (by simp only []; omega) (LV_step (by omega) (by omega) rfl hS) hl
end LPX7B
section LPX7C
variable {p : Program} {l : Launch} {e : Env} {s : State} {m : MethodId} {args : Array Value} {below : List Frame} {meth : Method} {c : Code} {Q : State → Prop} {G : GT}
set_option maxRecDepth 100000 in
theorem lpX7c (C : CX G p s m args meth c cX7_init 3 none RX7) (hAO : AOs s) {V : Nat → Nat → Value} (hV : V 0 6 = .ref (G.1 + 38))
    (kend : ∀ (H : Heap) (locs : List Loc) (ls : Array Slot), lv_has ls 3 [(2, .int (nI (5))), (1, .ref (G.1 + 40)), (0, .ref (G.1 + 0))] → SV G (79 + 4 * 5) (LV G V 38 (79) 4 5) H locs → W p l e rmX7_init s m args below meth c H locs 98 2347 Q (F0 m 188 ls [])) :
    ∀ (d i cells slots : Nat) (H : Heap) (locs : List Loc) (ls : Array Slot), i + d = 5 → cells = 78 + 4 * i → slots = 2157 + 38 * i → SV G (79 + 4 * i) (LV G V 38 (79) 4 i) H locs → lv_has ls 3 [(2, .int (nI (i))), (1, .ref (G.1 + 40)), (0, .ref (G.1 + 0))] → W p l e rmX7_init s m args below meth c H locs cells slots Q (F0 m 160 ls []) := by
  have hx := C.1
  have hb := C.2.1
  intro d
  induction d with
  | zero =>
    intro i cells slots H locs ls hd hc hs hS hl
    obtain rfl : i = 5 := by omega
    subst hc hs
    refine lv_iload_n hx hb dX7_init_160 rfl (lv_at hl 0 rfl) ?_
    refine lv_aload_n hx hb dX7_init_161 rfl (lv_at hl 2 rfl) ?_
    refine getV (v := .ref (G.1 + 38)) C hS (by omega) rfl rfl rfl giX7 6 (by decide) rfl g_232 (LV_off hV (by omega) (by omega)) dX7_init_162 ?_
    refine alNv C hS (by omega) rfl (by decide) 6 rfl rfl (v := nI 5) rfl dX7_init_165 ?_
    exact lv_icmp_ge (tgt := 188) hx hb dX7_init_166 (by decide) (fun _ => kend _ _ _ hl hS) (fun h => absurd (nI_le (Nat.le_refl 5) (by omega)) h)
  | succ d ih =>
    intro i cells slots H locs ls hd hc hs hS hl
    refine lv_iload_n hx hb dX7_init_160 rfl (lv_at hl 0 rfl) ?_
    refine lv_aload_n hx hb dX7_init_161 rfl (lv_at hl 2 rfl) ?_
    refine getV (v := .ref (G.1 + 38)) C hS (by omega) rfl rfl rfl giX7 6 (by decide) rfl g_232 (LV_off hV (by omega) (by omega)) dX7_init_162 ?_
    refine alNv C hS (by omega) rfl (by decide) 6 rfl rfl (v := nI 5) rfl dX7_init_165 ?_
    refine lv_icmp_ge (tgt := 188) hx hb dX7_init_166 (by decide) (fun h => absurd h (nI_ge (by omega) (by omega))) (fun _ => ?_)
    refine lv_aload_n hx hb dX7_init_169 rfl (lv_at hl 2 rfl) ?_
    refine getV (v := .ref (G.1 + 38)) C hS (by omega) rfl rfl rfl giX7 6 (by decide) rfl g_232 (LV_off hV (by omega) (by omega)) dX7_init_170 ?_
    refine lv_iload_n hx hb dX7_init_173 rfl (lv_at hl 0 rfl) ?_
    refine newO C hS (tkO ⟨i, by omega⟩) rfl rfl giX3 tyX3 tyX3_ok g_151 g_200 g_7 (Nat.le_trans (show _ ≤ 98 by omega) (Nat.le_of_ble_eq_true rfl)) (Nat.le_trans (show _ ≤ 2347 by omega) (Nat.le_of_ble_eq_true rfl)) dX7_init_174 (fun H hS => ?_)
    refine lv_dup hx hb dX7_init_177 rfl ?_
    refine rcI (e := e) (n := 0) (a := 79 + 4 * i) (As := []) (rest := [.ref (G.1 + (79 + 4 * i)), .int (nI i), .ref (G.1 + 38)]) C hAO hS (cX3_init_ (tkO ⟨i, by omega⟩)) g_201 g_202 rfl g_7 g_203 ⟨by decide +kernel, by decide +kernel, by decide +kernel⟩ ⟨(Nat.le_of_ble_eq_true rfl), (Nat.le_of_ble_eq_true rfl)⟩ hl.1 rfl rfl (Nat.le_of_ble_eq_true rfl) ⟨Nat.le_trans (show _ ≤ 98 by simp only []; omega) (Nat.le_of_ble_eq_true rfl), Nat.le_trans (show _ ≤ 2347 by simp only []; omega) (Nat.le_of_ble_eq_true rfl)⟩ dX7_init_178 (fun H locs hS => ?_)
    refine asQv (n := 5) (b := 79 + 4 * i) C hS (by omega) rfl (by decide) rfl (by omega) (tkO ⟨i, by omega⟩) rfl 6 rfl (inb_nI (show i < 5 by omega) (by omega)) dX7_init_181 (fun H locs hS => ?_)
    refine lv_iinc (v := nI (i + 1)) (lv' := [(2, .int (nI (i + 1))), (1, .ref (G.1 + 40)), (0, .ref (G.1 + 0))]) (k := 0) hx hb dX7_init_182 hl rfl (nI_add i 1) (by decide) rfl (fun ls hl => ?_)
    refine lv_goto (tgt := 160) hx hb dX7_init_185 (by decide) ?_
    exact ih (i + 1) _ _ _ _ _ (by omega) (by simp only []; omega) (by simp only []; omega) (LV_step (by omega) (by omega) rfl hS) hl
end LPX7C
