def rmEP (d : Nat) : Room := { frames := d + 7, cells := 0, slots := 0, locals := 40 * d + 400 }
theorem rEP1 (d : Nat) : (rmEP d).frames + 1 ≤ (rmEP (d + 1)).frames := by show d + 7 + 1 ≤ d + 1 + 7; omega
theorem rEP2 (d : Nat) {n : Nat} (h : n ≤ 21) : 8 + (n + 11) + (rmEP d).locals ≤ (rmEP (d + 1)).locals := by show 8 + (n + 11) + (40 * d + 400) ≤ 40 * (d + 1) + 400; omega
theorem rEP3 {d : Nat} {rm : Room} (h : rm.frames ≤ 7) : rm.frames + 1 ≤ (rmEP (d + 1)).frames := by show rm.frames + 1 ≤ d + 1 + 7; omega
theorem rEP4 {d : Nat} {rm : Room} {n : Nat} (h : 8 + (n + 11) + rm.locals ≤ 440) : 8 + (n + 11) + rm.locals ≤ (rmEP (d + 1)).locals := by show 8 + (n + 11) + rm.locals ≤ 40 * (d + 1) + 400; omega
section RZ
variable {p : Program} {l : Launch} {e : Env} {R : Room} {s : State} {m : MethodId} {args : Array Value} {below : List Frame} {meth : Method} {c : Code} {H : Heap} {locs : List Loc} {cells slots : Nat} {Q : State → Prop} {cc : ByteArray} {nL : Nat} {ret : Option FieldType} {own : String} {G : GT} {x z : XS} {pc : Nat} {ls : Array Slot} {rest st0 : List Value} {i : Nat}
theorem gfSv (C : CX G p s m args meth c cc nL ret own) (hS : SR G x H locs) (hi : i < 6) {index : Nat} (hlink : Cond.fieldLink own index "java/lang/String" "value" "[B" ∈ gT) (hdg : decode cc pc = .ok (.getfield index, 3)) (kk : W p l e R s m args below meth c H locs cells slots Q (F0 m (pc + 3) ls (.ref (G.2.2.2.2 (7 + i)) :: rest))) : W p l e R s m args below meth c H locs cells slots Q (F0 m pc ls (.ref (G.2.2.2.2 (1 + i)) :: rest)) := by
  have ho := SR.old C hS
  obtain ⟨hx, hb, -, -, -, hown, hw, hK, hE, -⟩ := C
  obtain ⟨cf, k, fi, f, cell, h1, h2, h3, h4, h5, h6⟩ := (hE.2.2.1.1 i hi).2.2.1.kept ho
  exact W.getf hx hb hown (hw _ hlink) h1 h2 h3 h4 h5 rfl rfl hdg kk
theorem gfSc (C : CX G p s m args meth c cc nL ret own) (hS : SR G x H locs) (hi : i < 6) {index : Nat} (hlink : Cond.fieldLink own index "java/lang/String" "coder" "B" ∈ gT) (hdg : decode cc pc = .ok (.getfield index, 3)) (kk : W p l e R s m args below meth c H locs cells slots Q (F0 m (pc + 3) ls (.int 0 :: rest))) : W p l e R s m args below meth c H locs cells slots Q (F0 m pc ls (.ref (G.2.2.2.2 (1 + i)) :: rest)) := by
  have ho := SR.old C hS
  obtain ⟨hx, hb, -, -, -, hown, hw, hK, hE, -⟩ := C
  obtain ⟨cf, k, fi, f, cell, h1, h2, h3, h4, h5, h6⟩ := (hE.2.2.1.1 i hi).2.1.kept ho
  exact W.getf hx hb hown (hw _ hlink) h1 h2 h3 h4 h5 rfl rfl hdg kk
theorem gsCS (C : CX G p s m args meth c cc nL ret own) (hS : SR G x H locs) {index : Nat} (hlink : Cond.fieldLink own index "java/lang/String" "COMPACT_STRINGS" "Z" ∈ gT) (hdg : decode cc pc = .ok (.getstatic index, 3))
    (kk : W p l e R s m args below meth c H locs cells slots Q (F0 m (pc + 3) ls (.int 1 :: rest))) : W p l e R s m args below meth c H locs cells slots Q (F0 m pc ls rest) := by
  have ho := SR.old C hS
  obtain ⟨hx, hb, -, -, -, hown, hw, hK, hE, -⟩ := C
  obtain ⟨cf, kf, fi, f, q, cell, h1, h2, h3, h4, h5, h6, h7, h8⟩ := hE.2.2.2.2.1.kept ho
  exact W.gets hx hb hown (hw _ hlink) h1 h2 h3 h4 h5 (fun e => by rw [e] at h6; cases h6) h7 rfl hdg kk
theorem gsSF (C : CX G p s m args meth c cc nL ret own) (hS : SR G x H locs) {index : Nat} (hlink : Cond.fieldLink own index "jdk/internal/util/Preconditions" "SIOOBE_FORMATTER" "Ljava/util/function/BiFunction;" ∈ gT) (hdg : decode cc pc = .ok (.getstatic index, 3))
    (kk : ∀ w : Value, (w = .null ∨ ∃ t : Nat, w = .ref t) → W p l e R s m args below meth c H locs cells slots Q (F0 m (pc + 3) ls (w :: rest))) : W p l e R s m args below meth c H locs cells slots Q (F0 m pc ls rest) := by
  have ho := SR.old C hS
  obtain ⟨hx, hb, -, -, -, hown, hw, hK, hE, -⟩ := C
  rcases hE.2.2.2.2.2.kept ho with hz | ⟨t, hz⟩
  · obtain ⟨cf, kf, fi, f, q, cell, h1, h2, h3, h4, h5, h6, h7, h8⟩ := hz
    exact W.gets hx hb hown (hw _ hlink) h1 h2 h3 h4 h5 (fun e => by rw [e] at h6; cases h6) h7 rfl hdg (kk _ (Or.inl rfl))
  · obtain ⟨cf, kf, fi, f, q, cell, h1, h2, h3, h4, h5, h6, h7, h8⟩ := hz
    exact W.gets hx hb hown (hw _ hlink) h1 h2 h3 h4 h5 (fun e => by rw [e] at h6; cases h6) h7 rfl hdg (kk _ (Or.inr ⟨t, rfl⟩))
theorem alSb (C : CX G p s m args meth c cc nL ret own) (hS : SR G x H locs) (hs : i < 6) {k : Int32} (hi : inb k (slen.getD i 0) = true) (hdg : decode cc pc = .ok (.baload, 1))
    (kk : W p l e R s m args below meth c H locs cells slots Q (F0 m (pc + 1) ls (.int ((sbyt.getD i []).getD (ix k) 0) :: rest))) : W p l e R s m args below meth c H locs cells slots Q (F0 m pc ls (.int k :: .ref (G.2.2.2.2 (7 + i)) :: rest)) := by
  have ho := SR.old C hS
  obtain ⟨hx, hb, -, -, -, hown, hw, hK, hE, -⟩ := C
  obtain ⟨cell, h1, h2, h3, h4, h5, h6, h7⟩ := (hE.2.2.1.1 i hs).2.2.2.kept ho
  have hin := of_decide_eq_true hi
  have hlt := inb_lt hi
  exact W.bald (v := .int ((sbyt.getD i []).getD (ix k) 0)) hx hb h1 h2 h3 (fun q => by
    rcases q with q | q
    · exact hin (Or.inl q)
    · exact Nat.lt_irrefl _ (Nat.lt_of_lt_of_le hlt (Nat.le_trans h4 q))) (h6 _ hlt) rfl rfl hdg kk
theorem anSb (C : CX G p s m args meth c cc nL ret own) (hS : SR G x H locs) (hs : i < 6) (hdg : decode cc pc = .ok (.arraylength, 1))
    (kk : W p l e R s m args below meth c H locs cells slots Q (F0 m (pc + 1) ls (.int (nI (slen.getD i 0)) :: rest))) : W p l e R s m args below meth c H locs cells slots Q (F0 m pc ls (.ref (G.2.2.2.2 (7 + i)) :: rest)) := by
  have ho := SR.old C hS
  obtain ⟨hx, hb, -, -, -, hown, hw, hK, hE, -⟩ := C
  obtain ⟨cell, h1, h2, h3, h4, h5, h6, h7⟩ := (hE.2.2.1.1 i hs).2.2.2.kept ho
  exact W.alen hx hb h1 h2 (by rw [h5]; rfl) rfl rfl hdg kk
theorem ldS0 (C : CX G p s m args meth c cc nL ret RX5) (hdg : decode cc pc = .ok (.ldc 48, 2)) (kk : W p l e R s m args below meth c H locs cells slots Q (F0 m (pc + 2) ls (.ref (G.2.2.2.2 (1 + 0)) :: rest))) : W p l e R s m args below meth c H locs cells slots Q (F0 m pc ls rest) := va_ldcS C.1 C.2.1 C.2.2.2.2.2.1 C.2.2.2.2.2.2.2.2.1.2.2.2.1.1 hdg kk
theorem ldS1 (C : CX G p s m args meth c cc nL ret RX5) (hdg : decode cc pc = .ok (.ldc 54, 2)) (kk : W p l e R s m args below meth c H locs cells slots Q (F0 m (pc + 2) ls (.ref (G.2.2.2.2 (1 + 1)) :: rest))) : W p l e R s m args below meth c H locs cells slots Q (F0 m pc ls rest) := va_ldcS C.1 C.2.1 C.2.2.2.2.2.1 C.2.2.2.2.2.2.2.2.1.2.2.2.1.2.1 hdg kk
theorem ldS2 (C : CX G p s m args meth c cc nL ret RX5) (hdg : decode cc pc = .ok (.ldc 56, 2)) (kk : W p l e R s m args below meth c H locs cells slots Q (F0 m (pc + 2) ls (.ref (G.2.2.2.2 (1 + 2)) :: rest))) : W p l e R s m args below meth c H locs cells slots Q (F0 m pc ls rest) := va_ldcS C.1 C.2.1 C.2.2.2.2.2.1 C.2.2.2.2.2.2.2.2.1.2.2.2.1.2.2.1 hdg kk
theorem ldS3 (C : CX G p s m args meth c cc nL ret RX6) (hdg : decode cc pc = .ok (.ldc 45, 2)) (kk : W p l e R s m args below meth c H locs cells slots Q (F0 m (pc + 2) ls (.ref (G.2.2.2.2 (1 + 3)) :: rest))) : W p l e R s m args below meth c H locs cells slots Q (F0 m pc ls rest) := va_ldcS C.1 C.2.1 C.2.2.2.2.2.1 C.2.2.2.2.2.2.2.2.1.2.2.2.1.2.2.2.1 hdg kk
theorem ldS4 (C : CX G p s m args meth c cc nL ret RX6) (hdg : decode cc pc = .ok (.ldc 47, 2)) (kk : W p l e R s m args below meth c H locs cells slots Q (F0 m (pc + 2) ls (.ref (G.2.2.2.2 (1 + 4)) :: rest))) : W p l e R s m args below meth c H locs cells slots Q (F0 m pc ls rest) := va_ldcS C.1 C.2.1 C.2.2.2.2.2.1 C.2.2.2.2.2.2.2.2.1.2.2.2.1.2.2.2.2.1 hdg kk
theorem ldS5 (C : CX G p s m args meth c cc nL ret RX6) (hdg : decode cc pc = .ok (.ldc 49, 2)) (kk : W p l e R s m args below meth c H locs cells slots Q (F0 m (pc + 2) ls (.ref (G.2.2.2.2 (1 + 5)) :: rest))) : W p l e R s m args below meth c H locs cells slots Q (F0 m pc ls rest) := va_ldcS C.1 C.2.1 C.2.2.2.2.2.1 C.2.2.2.2.2.2.2.2.1.2.2.2.1.2.2.2.2.2 hdg kk
theorem rcVs (C : CX G p s m args meth c cc nL ret own) (hS : SR G x H locs) (hi : i < 6) {Cn : String} (hCn : Cn = "java/lang/String") {y : MethodName} {bytes : ByteArray} {maxL : Nat} {rt : Option FieldType} {rm : Room} {As : List Value} {o : Option Value} (hM : Ct G l y (.code y bytes maxL rt) rm (.ref (G.2.2.2.2 (1 + i)) :: As) x o z)
    {index n : Nat} (hyc : y.cls = Cn) (hlink : Cond.methodLink own index y ∈ gT) (hinst : Cond.instanceMethod y ∈ gT) (hsel : Cond.selects Cn y y ∈ gT) (hini : Cond.initialized y.cls ∈ gT) (hcode : Cond.code y bytes maxL rt ∈ gT)
    (hd : y.cls ≠ "java/lang/invoke/MethodHandle" ∧ y.cls ≠ "java/lang/invoke/VarHandle" ∧ (parseMethodDescriptor y.desc).map (fun d => d.parameters.length) = some n) (hR0 : rm.cells = 0 ∧ rm.slots = 0) (hR : rm.frames + 1 ≤ R.frames ∧ 8 + (maxL + 11) + rm.locals ≤ R.locals) (hsz : ls.size = nL) (hn : As.length = n) (hst : st0 = As.reverse ++ .ref (G.2.2.2.2 (1 + i)) :: rest) (hW : (rest.map fun v => v.category).sum ≤ 8) (hf : cells ≤ R.cells ∧ slots ≤ R.slots) (hdg : decode cc pc = .ok (.invokevirtual index, 3))
    (kk : ∀ (H1 : Heap) (locs1 : List Loc), SR G z H1 locs1 → W p l e R s m args below meth c H1 locs1 cells slots Q (F0 m (pc + 3) ls (o.toList ++ rest))) : W p l e R s m args below meth c H locs cells slots Q (F0 m pc ls st0) := by
  have ho := SR.old C hS
  obtain ⟨hx, hb, hml, -, -, hown, hw, hK⟩ := C
  subst hst
  subst hCn
  obtain ⟨cell, q1, q2, q3, -⟩ := (hK.2.1.2.2.1.1 i hi).1.kept ho
  refine rcK (va_runV (C := "java/lang/String") (As := As) (rest := rest) ⟨hx, hb, hml, hown, hw⟩ hM ⟨callB_of n hw (good_all hcode) rfl hR0.1 hR0.2 (hw _ hini) (hw _ hlink) hd hR, hw _ hinst, hw _ hsel⟩ ⟨PCn.blind, ⟨cell, q1, q2, q3⟩, fun U hU hWm => ⟨rfl, GK.warm hWm hK, by rw [hU]; exact hS.1⟩⟩ rfl hn hsz rfl (lv_room hW) hdg hf) hS kk
theorem rzI (C : CX G p s m args meth c cc nL ret own) (hS : SR G x H locs) (hi : i < 6) {y : MethodName} {bytes : ByteArray} {maxL : Nat} {rt : Option FieldType} {rm : Room} {As : List Value} {r : Int32} {n : Nat} (K : KV y RJ0 bytes maxL rt n) (hM : Ct G l y (.code y bytes maxL rt) rm (.ref (G.2.2.2.2 (1 + i)) :: As) x (some (.int r)) z) {index : Nat} (hlink : Cond.methodLink own index y ∈ gT) (hR0 : rm.cells = 0 ∧ rm.slots = 0) (hR : rm.frames + 1 ≤ R.frames ∧ 8 + (maxL + 11) + rm.locals ≤ R.locals) (hsz : ls.size = nL) (hn : As.length = n) (hst : st0 = As.reverse ++ .ref (G.2.2.2.2 (1 + i)) :: rest) (hW : (rest.map fun v => v.category).sum ≤ 8) (hf : cells ≤ R.cells ∧ slots ≤ R.slots) (hdg : decode cc pc = .ok (.invokevirtual index, 3))
    (kk : ∀ (H1 : Heap) (locs1 : List Loc), SR G z H1 locs1 → W p l e R s m args below meth c H1 locs1 cells slots Q (F0 m (pc + 3) ls (.int r :: rest))) : W p l e R s m args below meth c H locs cells slots Q (F0 m pc ls st0) := rcVs C hS hi (Cn := RJ0) rfl hM K.1 hlink K.2.1 K.2.2.1 K.2.2.2.1 K.2.2.2.2.1 K.2.2.2.2.2 hR0 hR hsz hn hst hW hf hdg kk
theorem rtC (C : CX G p s m args meth c cc nL (some .char) own) (hS : SR G x H locs) {v r : Int32} (hg : decide (ji2c v = v) = true) (hf : some (v, x) = some (r, z)) (hdg : decode cc pc = .ok (.ireturn, 1)) : W p l e R s m args below meth c H locs cells slots (MQ below (QC G (some (.int r)) z) args s cells slots (AB G)) (F0 m pc ls [.int v]) := by
  cases hf
  obtain ⟨hx, hb, -, hr, hlocks, -⟩ := C
  have h1 : narrow .char (.int v) = .int v := by
    have h2 := pk_nc v
    rw [show (v.toUInt32 % 65536).toInt32 = v from of_decide_eq_true hg] at h2
    exact h2
  exact W.zret hx hb hr h1 (fun t ht _ => ⟨rfl, by rw [ht]; exact hS.1⟩) hS.2 hdg hlocks
theorem rtB (C : CX G p s m args meth c cc nL (some .byte) own) (hS : SR G x H locs) {v r : Int32} (hg : decide (ji2b v = v) = true) (hf : some (v, x) = some (r, z)) (hdg : decode cc pc = .ok (.ireturn, 1)) : W p l e R s m args below meth c H locs cells slots (MQ below (QC G (some (.int r)) z) args s cells slots (AB G)) (F0 m pc ls [.int v]) := by
  cases hf
  obtain ⟨hx, hb, -, hr, hlocks, -⟩ := C
  have h1 : narrow .byte (.int v) = .int v := by
    have h2 := pk_nb v
    rw [show v.toInt8.toInt32 = v from of_decide_eq_true hg] at h2
    exact h2
  exact W.zret hx hb hr h1 (fun t ht _ => ⟨rfl, by rw [ht]; exact hS.1⟩) hS.2 hdg hlocks
end RZ
