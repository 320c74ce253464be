def isB (v : Int32) : Bool := decide (v = 0 ∨ v = 1)
theorem isB_n {v : Int32} (h : isB v = true) : narrow .boolean (.int v) = .int v := by
  rcases of_decide_eq_true h with rfl | rfl <;> rfl
theorem isB_f {v : Int32} (h : isB v = true) : fits .boolean (.int v) = true := by
  rcases of_decide_eq_true h with rfl | rfl <;> rfl
theorem giX0 : ∀ w ∈ wsX00, w ∈ gT := inG inX0 (by decide +kernel)
theorem giX2 : ∀ w ∈ wsX20, w ∈ gT := inG inX2 (by decide +kernel)
theorem giX3 : ∀ w ∈ wsX30, w ∈ gT := inG inX3 (by decide +kernel)
theorem giX4 : ∀ w ∈ wsX40, w ∈ gT := inG inX4 (by decide +kernel)
theorem giX5 : ∀ w ∈ wsX50, w ∈ gT := inG inX5 (by decide +kernel)
theorem giX6 : ∀ w ∈ wsX60, w ∈ gT := inG inX6 (by decide +kernel)
theorem giX7 : ∀ w ∈ wsX70, w ∈ gT := inG inX7 (by decide +kernel)
theorem giX8 : ∀ w ∈ wsX80, w ∈ gT := inG inX8 (by decide +kernel)
theorem ly_all : ∀ a, a < 121 → (tg a = 3 → tg (a + 1) = 12 ∧ tg (a + 2) = 16) ∧ (tg a = 12 → ln a = 8 ∧ ∀ i, i < 8 → tg (a + 2 + i) = 0) ∧ (tg a = 16 → ln a = 3) ∧ (tg a = 1 → tg (a + 1) = 8 ∧ ln (a + 1) = 24) ∧ (tg a = 2 → tg (a + 1) = 0 ∧ tg (a + 2) = 1) ∧ (tg a = 5 → tg (a + 1) = 8 ∧ ln (a + 1) = 96) := by decide +kernel
theorem st_b {a : Nat} (h : tg a = 3) : tg (a + 1) = 12 := ((ly_all a (tg_lt h (by decide))).1 h).1
theorem st_l {a : Nat} (h : tg a = 3) : tg (a + 2) = 16 := ((ly_all a (tg_lt h (by decide))).1 h).2
theorem ln12 {a : Nat} (h : tg a = 12) : ln a = 8 := ((ly_all a (tg_lt h (by decide))).2.1 h).1
theorem inb_lt {i : Int32} {n : Nat} (g : inb i n = true) : ix i < n := Nat.not_le.mp fun q => (of_decide_eq_true g) (Or.inr q)
theorem el12 {a : Nat} {i : Int32} (h : tg a = 12) (g : inb i 8 = true) : tg (a + 2 + ix i) = 0 := ((ly_all a (tg_lt h (by decide))).2.1 h).2 _ (inb_lt g)
theorem ln16 {a : Nat} (h : tg a = 16) : ln a = 3 := (ly_all a (tg_lt h (by decide))).2.2.1 h
theorem sh_p {a : Nat} (h : tg a = 1) : tg (a + 1) = 8 := ((ly_all a (tg_lt h (by decide))).2.2.2.1 h).1
theorem sh_n {a : Nat} (h : tg a = 1) : ln (a + 1) = 24 := ((ly_all a (tg_lt h (by decide))).2.2.2.1 h).2
theorem sl_b {a : Nat} (h : tg a = 2) : tg (a + 1) = 0 := ((ly_all a (tg_lt h (by decide))).2.2.2.2.1 h).1
theorem sl_s {a : Nat} (h : tg a = 2) : tg (a + 2) = 1 := ((ly_all a (tg_lt h (by decide))).2.2.2.2.1 h).2
theorem tx_i {a : Nat} (h : tg a = 5) : tg (a + 1) = 8 := ((ly_all a (tg_lt h (by decide))).2.2.2.2.2 h).1
theorem tx_n {a : Nat} (h : tg a = 5) : ln (a + 1) = 96 := ((ly_all a (tg_lt h (by decide))).2.2.2.2.2 h).2
theorem el13_all : ∀ i, i < 4 → tg (71 + 2 * i) = 1 := by decide +kernel
theorem el14_all : ∀ i, i < 5 → tg (79 + 4 * i) = 2 := by decide +kernel
theorem el15_all : ∀ i, i < 15 → tg (41 + 2 * i) = 5 := by decide +kernel
theorem el13 {i : Int32} (g : inb i 4 = true) : tg (71 + 2 * ix i) = 1 := el13_all _ (inb_lt g)
theorem el14 {i : Int32} (g : inb i 5 = true) : tg (79 + 4 * ix i) = 2 := el14_all _ (inb_lt g)
theorem el15 {i : Int32} (g : inb i 15 = true) : tg (41 + 2 * ix i) = 5 := el15_all _ (inb_lt g)
theorem lwv_ref {b : Nat} {v : Int32} (h : ¬ v = 0) : lwv b v = .ref (b + ix v) := by simp [lwv, h]
theorem lwv_cat (b : Nat) (v : Int32) : (lwv b v).category = 1 := by
  rcases lwv_or b v with h | ⟨a, h⟩ <;> rw [h] <;> rfl
theorem tg_pos {a : Nat} (h : tg a = 5) : a ≠ 0 := by
  rintro rfl
  exact absurd h (by decide)
theorem lwv_nI {b t : Nat} (h : tg t = 5) : lwv b (nI t) = .ref (b + t) := by
  have h1 := tg_lt h (by decide)
  have h2 := tg_pos h
  rw [lwv_ref (nI_ne0 (by omega) (by omega))]
  rw [show ix (nI t) = t from nI_clamp (by omega)]
theorem lawok_nI {t : Nat} (h : tg t = 5) : lawok (nI t) = true := by
  have h1 := tg_lt h (by decide)
  unfold lawok
  rw [show ix (nI t) = t from nI_clamp (by omega), h]
  simp
section RM
variable {p : Program} {l : Launch} {e : Env} {R : Room} {s : State} {m : MethodId} {args : Array Value} {below : List Frame} {meth : Method} {c : Code} {H : Heap} {locs : List Loc} {cells slots : Nat} {Q : State → Prop} {cc : ByteArray} {nL : Nat} {ret : Option FieldType} {own : String} {G : GT} {x z : XS} {pc : Nat} {ls : Array Slot} {rest st0 : List Value} {a : Nat}
theorem ldL_n (hx : p.tables.exec = Jvm.exec) (hb : c.code = cc) {k : Fin 4} {i : Nat} {b : Nat} {v : Int32} (hdg : decode cc pc = .ok (.aload_n k, 1)) (hi : (k : Nat) = i) (hl : ls[i]? = some (.val (lwv b v)))
    (kk : W p l e R s m args below meth c H locs cells slots Q (F0 m (pc + 1) ls (lwv b v :: rest))) : W p l e R s m args below meth c H locs cells slots Q (F0 m pc ls rest) := by
  rcases lwv_or b v with h | ⟨q, h⟩ <;> rw [h] at hl kk
  · exact lv_aload_nN hx hb hdg hi hl kk
  · exact lv_aload_n hx hb hdg hi hl kk
theorem ldL (hx : p.tables.exec = Jvm.exec) (hb : c.code = cc) {i : Nat} {b : Nat} {v : Int32} (hdg : decode cc pc = .ok (.aload i, 2)) (hl : ls[i]? = some (.val (lwv b v)))
    (kk : W p l e R s m args below meth c H locs cells slots Q (F0 m (pc + 2) ls (lwv b v :: rest))) : W p l e R s m args below meth c H locs cells slots Q (F0 m pc ls rest) := by
  rcases lwv_or b v with h | ⟨q, h⟩ <;> rw [h] at hl kk
  · exact lv_aloadN hx hb hdg hl kk
  · exact lv_aload hx hb hdg hl kk
theorem stL_n (hx : p.tables.exec = Jvm.exec) (hb : c.code = cc) {k : Fin 4} {i : Nat} {b : Nat} {v : Int32} {lv lv' : List (Nat × Value)} (hdg : decode cc pc = .ok (.astore_n k, 1)) (hi : (k : Nat) = i) (h : lv_has ls nL lv) (hn : i < nL) (hl : (i, lwv b v) :: lv.filter (fun q => !(q.1 == i) && !(q.1 + 1 == i && q.2.category == 2)) = lv')
    (kk : ∀ ls' : Array Slot, lv_has ls' nL lv' → W p l e R s m args below meth c H locs cells slots Q (F0 m (pc + 1) ls' rest)) : W p l e R s m args below meth c H locs cells slots Q (F0 m pc ls (lwv b v :: rest)) := by
  rcases lwv_or b v with q | ⟨q0, q⟩ <;> rw [q] at hl ⊢
  · exact lv_astore_nN hx hb hdg hi h hn hl kk
  · exact lv_astore_n hx hb hdg hi h hn hl kk
theorem stL (hx : p.tables.exec = Jvm.exec) (hb : c.code = cc) {i : Nat} {b : Nat} {v : Int32} {lv lv' : List (Nat × Value)} (hdg : decode cc pc = .ok (.astore i, 2)) (h : lv_has ls nL lv) (hn : i < nL) (hl : (i, lwv b v) :: lv.filter (fun q => !(q.1 == i) && !(q.1 + 1 == i && q.2.category == 2)) = lv')
    (kk : ∀ ls' : Array Slot, lv_has ls' nL lv' → W p l e R s m args below meth c H locs cells slots Q (F0 m (pc + 2) ls' rest)) : W p l e R s m args below meth c H locs cells slots Q (F0 m pc ls (lwv b v :: rest)) := by
  rcases lwv_or b v with q | ⟨q0, q⟩ <;> rw [q] at hl ⊢
  · exact lv_astoreN hx hb hdg h hn hl kk
  · exact lv_astore hx hb hdg h hn hl kk
theorem asT (C : CX G p s m args meth c cc nL ret own) (hS : SR G x H locs) (ht : tg a = 16) {i : Int32} (hi : inb i 3 = true) {t : Nat} (htt : tg t = 5) {y : XS} (hy : y = wr x a (ix i) (nI t)) (hdg : decode cc pc = .ok (.aastore, 1))
    (kk : ∀ (H1 : Heap) (locs1 : List Loc), SR G y H1 locs1 → W p l e R s m args below meth c H1 locs1 cells slots Q (F0 m (pc + 1) ls rest)) : W p l e R s m args below meth c H locs cells slots Q (F0 m pc ls (.ref (G.1 + t) :: .int i :: .ref (G.1 + a) :: rest)) := by
  rw [← lwv_nI htt]
  exact asL C hS ht (ln16 ht) hi (lawok_nI htt) hy hdg kk
theorem SR.old (C : CX G p s m args meth c cc nL ret own) (hS : SR G x H locs) : ∀ q : Nat, q < G.2.1.size → ¬ AB G q → H[q]? = G.2.1[q]? := fun q hq _ => hS.1.2.1 q (by rw [← C.2.2.2.2.2.2.2.2.2]; exact hq)
theorem gsA (C : CX G p s m args meth c cc nL ret own) (hS : SR G x H locs) {index : Nat} (hlink : Cond.fieldLink own index "ShoeCorner$Kinds" "ABOVE" "[I" ∈ gT) (hdg : decode cc pc = .ok (.getstatic index, 3))
    (kk : W p l e R s m args below meth c H locs cells slots Q (F0 m (pc + 3) ls (.ref (G.2.2.2.2 0) :: rest))) : W p l e R s m args below meth c H locs cells slots Q (F0 m pc ls rest) := by
  have ho := SR.old C hS
  obtain ⟨hx, hb, -, -, -, hown, hw, hK, hE, -⟩ := C
  obtain ⟨cf, kf, fi, f, q, cell, h1, h2, h3, h4, h5, h6, h7, h8⟩ := hE.1.kept ho
  exact W.gets hx hb hown (hw _ hlink) h1 h2 h3 h4 h5 (fun e => by rw [e] at h6; cases h6) h7 rfl hdg kk
theorem alA (C : CX G p s m args meth c cc nL ret own) (hS : SR G x H locs) {i : Int32} (hi : inb i 6 = true) (hdg : decode cc pc = .ok (.iaload, 1))
    (kk : W p l e R s m args below meth c H locs cells slots Q (F0 m (pc + 1) ls (.int (sAbove.getD (ix i) 0) :: rest))) : W p l e R s m args below meth c H locs cells slots Q (F0 m pc ls (.int i :: .ref (G.2.2.2.2 0) :: rest)) := by
  have ho := SR.old C hS
  obtain ⟨hx, hb, -, -, -, hown, hw, hK, hE, -⟩ := C
  obtain ⟨cell, h1, h2, h3, h4, h5, h6, h7⟩ := hE.2.1.kept ho
  have hin := of_decide_eq_true hi
  have hlt := inb_lt hi
  exact W.iald (v := .int (sAbove.getD (ix i) 0)) hx hb h1 h2 h3 (fun q => by
    rcases q with q | q
    · exact hin (Or.inl q)
    · exact Nat.lt_irrefl _ (Nat.lt_of_lt_of_le hlt (Nat.le_trans h4 q))) (h6 _ hlt) rfl rfl hdg kk
theorem anA (C : CX G p s m args meth c cc nL ret own) (hS : SR G x H locs) (hdg : decode cc pc = .ok (.arraylength, 1))
    (kk : W p l e R s m args below meth c H locs cells slots Q (F0 m (pc + 1) ls (.int 6 :: rest))) : W p l e R s m args below meth c H locs cells slots Q (F0 m pc ls (.ref (G.2.2.2.2 0) :: rest)) := by
  have ho := SR.old C hS
  obtain ⟨hx, hb, -, -, -, hown, hw, hK, hE, -⟩ := C
  obtain ⟨cell, h1, h2, h3, h4, h5, h6, h7⟩ := hE.2.1.kept ho
  exact W.alen hx hb h1 h2 (by rw [h5]; rfl) rfl rfl hdg kk
/-- System.arraycopy of int rows: places sp .. of a0 come to places dp .. of a -/
def cpx (x : XS) (a0 a sp dp n : Nat) : XS := fun j => if j = a then va_cpy (x a0) (x a) sp dp n else x j
def cpok (sp dp n : Int32) (n0 n1 : Nat) : Bool := decide (¬ sp < 0 ∧ ¬ dp < 0 ∧ ¬ n < 0 ∧ ix sp + ix n ≤ n0 ∧ ix dp + ix n ≤ n1)
theorem acp (C : CX G p s m args meth c cc nL ret own) (hS : SR G x H locs) {a0 n0 n1 : Nat} (ht0 : tg a0 = 8) (hn0 : ln a0 = n0) (ht : tg a = 8) (hn1 : ln a = n1) {sp dp n : Int32} (hok : cpok sp dp n n0 n1 = true) {index : Nat} (hlink : Cond.methodLink own index arraycopyName ∈ gT) (hnat : Cond.native arraycopyName ∈ gT) (hstat : Cond.static arraycopyName ∈ gT) (hini : Cond.initialized "java/lang/System" ∈ gT)
    {y : XS} (hy : y = cpx x a0 a (ix sp) (ix dp) (ix n)) (hsz : ls.size = nL) (hframes : 1 ≤ R.frames) (hlocals : (rest.map fun v => v.category).sum + (nativeFrameWords "java/lang/System" "arraycopy" 5 + 11) ≤ R.locals) (hdg : decode cc pc = .ok (.invokestatic index, 3))
    (kk : ∀ (H1 : Heap) (locs1 : List Loc), SR G y H1 locs1 → W p l e R s m args below meth c H1 locs1 cells slots Q (F0 m (pc + 3) ls rest)) : W p l e R s m args below meth c H locs cells slots Q (F0 m pc ls (.int n :: .int dp :: .ref (G.1 + a) :: .int sp :: .ref (G.1 + a0) :: rest)) := by
  subst hy
  obtain ⟨hx, hb, hml, -, -, hown, hw, hK, -⟩ := C
  obtain ⟨h1, h2, h3, h4, h5⟩ := of_decide_eq_true hok
  have e0 : vw G.1 x a0 = fun j => .int (x a0 j) := funext fun k => vwI ht0 (by omega) rfl
  have e1 : vw G.1 x a = fun j => .int (x a j) := funext fun k => vwI ht (by omega) rfl
  have c0 := hS.1.arr ht0 (by omega) (by omega)
  have c1 := hS.1.arr ht (by omega) (by omega)
  rw [hn0, e0] at c0
  rw [hn1, e1] at c1
  have nn : ∀ z : Int32, ¬ z < 0 → z.toInt = (z.toNatClampNeg : Int) := by
    intro z hz
    have hz0 : (0 : Int) ≤ z.toInt := by
      have := Int32.not_lt.mp hz
      simpa using Int32.le_iff_toInt_le.mp this
    show z.toInt = ((z.toInt.toNat : Nat) : Int)
    omega
  intro T hT X
  obtain ⟨-, k0, hk0, cm0, hkk0⟩ := (hK.2 0 _ rfl).1 n0 (fun j => .int (x a0 j))
  obtain ⟨-, k1, hk1, cm1, hkk1⟩ := (hK.2 0 _ rfl).1 n1 (fun j => .int (x a j))
  obtain ⟨vm', X', step⟩ := X.arraycopy hx hown (hw _ hlink) (hw _ hnat) (hw _ hstat) (hw _ hini) (src := G.1 + a0) (dst := G.1 + a) (cs := arrV (G.2.2.2.1 8) n0 (fun j => .int (x a0 j))) (cd := arrV (G.2.2.2.1 8) n1 (fun j => .int (x a j))) (srcPos := sp) (destPos := dp) (n := n) (by rw [hT]; exact c0) (by rw [hT]; exact c1)
    (fun _ h => by cases h) (fun _ h => by cases h) (fun h => by cases h) (fun h => by cases h) hk0 hk1 hkk0 hkk1 (by simp [refKind]) h1 h2 h3
    (by rw [nn sp h1, nn n h3]; show ¬ _ > ((arrV _ n0 _).slots.size : Int); rw [arrV_size]; have := h4; unfold ix at this; omega)
    (by rw [nn dp h2, nn n h3]; show ¬ _ > ((arrV _ n1 _).slots.size : Int); rw [arrV_size]; have := h5; unfold ix at this; omega)
    (fun vm₁ _ i hi => by
      have e : (arrV (G.2.2.2.1 8) n0 (fun j => Value.int (x a0 j))).slots.getD (sp.toNatClampNeg + i) .null = .int (x a0 (sp.toNatClampNeg + i)) := by
        rw [Array.getD_eq_getD_getElem?, arrV_read _ _ (by have := h4; unfold ix at this; omega)]
        rfl
      refine ⟨?_, ?_⟩
      · rw [e]; rfl
      · rw [e]; exact trivial)
    (g := F0 m pc ls (.int n :: .int dp :: .ref (G.1 + a) :: .int sp :: .ref (G.1 + a0) :: rest)) rfl (by rw [hml, ← hsz]) (rest := rest) rfl (by rw [hb]; exact hdg) hframes (by show 2 * 0 + _ + _ ≤ _; omega)
  have e2 : copied (arrV (G.2.2.2.1 8) n0 (fun j => .int (x a0 j))) (arrV (G.2.2.2.1 8) n1 (fun j => .int (x a j))) sp dp n = arrV (G.2.2.2.1 8) n1 (fun j => .int (va_cpy (x a0) (x a) (ix sp) (ix dp) (ix n) j)) := va_copied (fun z => .int z) _ _ (x a0) (x a) h4
  rw [e2] at X' step
  have hl : G.1 + a < H.size := (Array.getElem?_eq_some_iff.mp c1).1
  generalize hcl : arrV (G.2.2.2.1 8) n1 (fun j => Value.int (va_cpy (x a0) (x a) (ix sp) (ix dp) (ix n) j)) = cl at X' step
  have hheap : ((T.setVm vm').setCell (G.1 + a) cl).heap = H.setIfInBounds (G.1 + a) cl := by rw [← hT]; rfl
  have oq : ∀ q : Nat, q ≠ G.1 + a → (H.setIfInBounds (G.1 + a) cl)[q]? = H[q]? := fun q hq => by simp [Array.getElem?_setIfInBounds, Ne.symm hq]
  have hne : ∀ j, j ≠ a → x j = cpx x a0 a (ix sp) (ix dp) (ix n) j := fun j hj => by unfold cpx; rw [if_neg hj]
  have hput := hS.put (y := cpx x a0 a (ix sp) (ix dp) (ix n)) (a := a) hne (H1 := H.setIfInBounds (G.1 + a) cl) (cOK_arr ht (by omega) hn1 (by
      have e3 : vw G.1 (cpx x a0 a (ix sp) (ix dp) (ix n)) a = fun j => .int (va_cpy (x a0) (x a) (ix sp) (ix dp) (ix n) j) := funext fun k => by
        rw [vwI ht (by omega) rfl]
        unfold cpx
        rw [if_pos rfl]
      rw [e3, hcl]
      simp [Array.getElem?_setIfInBounds, hl])) (by simp) oq 0
  obtain ⟨t, a1, b1⟩ := kk _ _ ⟨hput.1, fun q hq => by
      rcases List.mem_append.mp hq with h | h
      · exact hS.2 q h
      · obtain ⟨z, -, hz⟩ := List.mem_map.mp h
        rw [← hz]
        exact Nat.le_add_right _ _⟩ _ hheap X'
  exact ⟨t, step t a1, b1⟩
end RM
