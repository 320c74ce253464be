abbrev XS : Type := Nat → Nat → Int32
abbrev GT : Type := Nat × Heap × va_G × (Nat → ClassId) × (Nat → Nat)
def wr (x : XS) (i k : Nat) (v : Int32) : XS := fun j => if j = i then upd (x i) k v else x j
def tgL : List Nat := [6, 15, 4, 9, 3, 12, 16, 0, 0, 0, 0, 0, 0, 0, 0, 3, 12, 16, 0, 0, 0, 0, 0, 0, 0, 0, 3, 12, 16, 0, 0, 0, 0, 0, 0, 0, 0, 13, 14, 8, 8, 5, 8, 5, 8, 5, 8, 5, 8, 5, 8, 5, 8, 5, 8, 5, 8, 5, 8, 5, 8, 5, 8, 5, 8, 5, 8, 5, 8, 5, 8, 1, 8, 1, 8, 1, 8, 1, 8, 2, 0, 1, 8, 2, 0, 1, 8, 2, 0, 1, 8, 2, 0, 1, 8, 2, 0, 1, 8, 7, 8, 8, 8, 8, 8, 10, 8, 8, 8, 11, 8, 8, 8, 8, 8, 8, 8, 8, 8, 8, 8]
def lnL : List Nat := [0, 15, 0, 96, 0, 8, 3, 0, 0, 0, 0, 0, 0, 0, 0, 0, 8, 3, 0, 0, 0, 0, 0, 0, 0, 0, 0, 8, 3, 0, 0, 0, 0, 0, 0, 0, 0, 4, 5, 60, 96, 0, 96, 0, 96, 0, 96, 0, 96, 0, 96, 0, 96, 0, 96, 0, 96, 0, 96, 0, 96, 0, 96, 0, 96, 0, 96, 0, 96, 0, 96, 0, 24, 0, 24, 0, 24, 0, 24, 0, 0, 0, 24, 0, 0, 0, 24, 0, 0, 0, 24, 0, 0, 0, 24, 0, 0, 0, 24, 0, 1437, 1437, 1437, 65, 96, 12, 4, 96, 96, 10, 96, 4, 4, 4, 96, 5, 5, 5, 120, 24, 60]
def tg (i : Nat) : Nat := tgL.getD i 99
def ln (i : Nat) : Nat := lnL.getD i 0
def rf (T a k : Nat) : Option Nat := match T with
  | 1 => match k with | 2 => some (a + 1) | _ => none
  | 2 => match k with | 2 => some (a + 1) | 3 => some (a + 2) | _ => none
  | 3 => match k with | 0 => some (a + 1) | 1 => some (a + 2) | _ => none
  | 4 => match k with | 1 => some (a + 1) | _ => none
  | 5 => match k with | 4 => some (a + 1) | 5 => some 40 | _ => none
  | 6 => match k with | 0 => some 1 | 1 => some 2 | 2 => some 4 | 3 => some 15 | 4 => some 26 | 5 => some 37 | 6 => some 38 | 7 => some 39 | _ => none
  | 7 => match k with | 0 => some 100 | 1 => some 101 | 2 => some 102 | 5 => some 103 | 6 => some 104 | 14 => some 105 | 15 => some 106 | 16 => some 107 | 19 => some 108 | 21 => some 109 | 22 => some 110 | 23 => some 111 | 24 => some 112 | 25 => some 113 | 26 => some 114 | 27 => some 115 | 28 => some 116 | 29 => some 117 | 30 => some 118 | 31 => some 119 | 32 => some 120 | _ => none
  | 12 => some (a + 2 + k)
  | 13 => some (71 + 2 * k)
  | 14 => some (79 + 4 * k)
  | 15 => some (41 + 2 * k)
  | _ => none
def nf (T : Nat) : Nat := match T with
  | 0 => 7 | 1 => 3 | 2 => 4 | 3 => 12 | 4 => 6 | 5 => 6 | 6 => 10 | _ => 34
def lwv (b : Nat) (v : Int32) : Value := if v = 0 then .null else .ref (b + v.toNatClampNeg)
def vw (b : Nat) (x : XS) (a k : Nat) : Value := if tg a = 16 then lwv b (x a k) else match rf (tg a) a k with
  | some j => .ref (b + j)
  | none => .int (x a k)
def cOK (G : GT) (x : XS) (a : Nat) (H : Heap) : Prop := if tg a < 8 then t_OB (G.1 + a) (G.2.2.1.1 (tg a)) (nf (tg a)) (G.2.2.1.2 (tg a)) H (vw G.1 x a) else H[G.1 + a]? = some (arrV (G.2.2.2.1 (tg a)) (ln a) (vw G.1 x a))
def RP (G : GT) (x : XS) (H : Heap) : Prop := H.size = G.1 + 121 ∧ (∀ q : Nat, q < G.1 → H[q]? = G.2.1[q]?) ∧ ∀ a : Nat, a < 121 → cOK G x a H
def SR (G : GT) (x : XS) (H : Heap) (locs : List Loc) : Prop := RP G x H ∧ ∀ q ∈ locs, G.1 ≤ q.base
abbrev tysG (G : GT) : List (ClassId × FieldType) := [(G.2.2.2.1 8, .int), (G.2.2.2.1 9, .byte), (G.2.2.2.1 10, .char), (G.2.2.2.1 11, .boolean), (G.2.2.2.1 12, .object "ShoeCorner$Boy"), (G.2.2.2.1 13, .object "ShoeCorner$Sheet"), (G.2.2.2.1 14, .object "ShoeCorner$Slot"), (G.2.2.2.1 15, .object "ShoeCorner$Text"), (G.2.2.2.1 16, .object "ShoeCorner$Text")]
def AB (G : GT) : Nat → Prop := fun q => G.1 ≤ q
abbrev slen : List Nat := [5, 3, 4, 3, 2, 2]
abbrev sbyt : List (List Int32) := [[115, 104, 105, 110, 101], [102, 101, 101], [102, 105, 110, 101], [114, 100, 112], [108, 115], [112, 100]]
abbrev sAbove : List Int32 := [-1, 0, 0, 1, 2, 0]
/-- what lies below the law's start: the static table of kinds, the texts' constants, what the library's classes hold -/
def EK (G : GT) (U : State) : Prop := va_Z "ShoeCorner$Kinds" "ABOVE" "[I" (.ref (G.2.2.2.2 0)) (AB G) U G.2.1 ∧ va_T .int (G.2.2.2.2 0) 6 (fun j => .int (sAbove.getD j 0)) (AB G) U G.2.1 ∧ vk_S 6 slen sbyt (fun i => G.2.2.2.2 (1 + i)) (fun i => G.2.2.2.2 (7 + i)) (AB G) U G.2.1 ∧ (vk_R "ShoeCorner$Tape" 48 "shine" (G.2.2.2.2 1) U ∧ vk_R "ShoeCorner$Tape" 54 "fee" (G.2.2.2.2 2) U ∧ vk_R "ShoeCorner$Tape" 56 "fine" (G.2.2.2.2 3) U ∧ vk_R "ShoeCorner$Text" 45 "rdp" (G.2.2.2.2 4) U ∧ vk_R "ShoeCorner$Text" 47 "ls" (G.2.2.2.2 5) U ∧ vk_R "ShoeCorner$Text" 49 "pd" (G.2.2.2.2 6) U) ∧ va_Z "java/lang/String" "COMPACT_STRINGS" "Z" (.int 1) (AB G) U G.2.1 ∧ va_Zq "jdk/internal/util/Preconditions" "SIOOBE_FORMATTER" "Ljava/util/function/BiFunction;" (AB G) U G.2.1
def GK (G : GT) (U : State) : Prop := va_K G.2.2.1 vwCl (tysG G) U ∧ EK G U ∧ G.2.1.size = G.1
theorem EK.warm {G : GT} {u U : State} (hW : u.WarmedH U.vm) (h : EK G u) : EK G U := ⟨h.1.moved hW.alike, h.2.1.moved hW.alike, h.2.2.1.moved hW.alike, ⟨h.2.2.2.1.1.warm hW, h.2.2.2.1.2.1.warm hW, h.2.2.2.1.2.2.1.warm hW, h.2.2.2.1.2.2.2.1.warm hW, h.2.2.2.1.2.2.2.2.1.warm hW, h.2.2.2.1.2.2.2.2.2.warm hW⟩, h.2.2.2.2.1.moved hW.alike, h.2.2.2.2.2.moved hW.alike⟩
theorem EK.same {G : GT} {u U : State} (hv : U.vm = u.vm) (h : EK G u) : EK G U := by
  have ha : u.vm.Alike U.vm := by rw [hv]; exact Vm.Alike.refl _
  exact ⟨h.1.moved ha, h.2.1.moved ha, h.2.2.1.moved ha, ⟨h.2.2.2.1.1.same hv, h.2.2.2.1.2.1.same hv, h.2.2.2.1.2.2.1.same hv, h.2.2.2.1.2.2.2.1.same hv, h.2.2.2.1.2.2.2.2.1.same hv, h.2.2.2.1.2.2.2.2.2.same hv⟩, h.2.2.2.2.1.moved ha, h.2.2.2.2.2.moved ha⟩
theorem GK.warm {G : GT} {u U : State} (hW : u.WarmedH U.vm) (h : GK G u) : GK G U := ⟨va_K.moved hW.alike h.1, h.2.1.warm hW, h.2.2⟩
theorem GK.same {G : GT} {u U : State} (hv : U.vm = u.vm) (h : GK G u) : GK G U := ⟨va_K.moved (by rw [hv]; exact Vm.Alike.refl _) h.1, h.2.1.same hv, h.2.2⟩
/-- the tables' words that any method may rest on -/
def gT : List Cond := lw_tbl.filter goodWord
theorem gtw {w : Cond} (i : Nat) (h : tables_1[i]? = some w) (hg : goodWord w = true) : w ∈ gT := List.mem_filter.mpr ⟨tw i h, hg⟩
theorem gts {w : Cond} (i : Nat) (h : (k2_sels lw_privs)[i]? = some w) (hg : goodWord w = true) : w ∈ gT := List.mem_filter.mpr ⟨List.mem_append_left _ (List.mem_of_getElem? h), hg⟩
theorem inG {ws : List Cond} (h : ∀ w ∈ ws, w ∈ lw_tbl) (hg : ws.all goodWord = true) : ∀ w ∈ ws, w ∈ gT := fun w hw => List.mem_filter.mpr ⟨h w hw, List.all_eq_true.mp hg w hw⟩
def CX (G : GT) (p : Program) (s : State) (m : MethodId) (args : Array Value) (meth : Method) (c : Code) (cc : ByteArray) (nL : Nat) (ret : Option FieldType) (own : String) : Prop :=
  p.tables.exec = Jvm.exec ∧ c.code = cc ∧ c.maxLocals = nL ∧ meth.sig.returnType = ret ∧ meth.locks = false ∧ s.vm.findClass own = some m.cls ∧ (∀ w ∈ gT, w.before args s = true) ∧ GK G s
theorem tg_lt {a T : Nat} (h : tg a = T) (hT : T < 99) : a < 121 := by
  by_cases hl : a < 121
  · exact hl
  · exfalso
    have : tgL.length ≤ a := by show 121 ≤ a; omega
    have e : tg a = 99 := by unfold tg; rw [List.getD_eq_getElem?_getD, List.getElem?_eq_none this]; rfl
    omega
theorem RP.obj {G : GT} {x : XS} {H : Heap} (h : RP G x H) {a T : Nat} (ht : tg a = T) (hT : T < 8) : t_OB (G.1 + a) (G.2.2.1.1 T) (nf T) (G.2.2.1.2 T) H (vw G.1 x a) := by
  have h1 := h.2.2 a (tg_lt ht (by omega))
  unfold cOK at h1
  rw [ht, if_pos hT] at h1
  exact h1
theorem RP.arr {G : GT} {x : XS} {H : Heap} (h : RP G x H) {a T : Nat} (ht : tg a = T) (hT : 8 ≤ T) (hT2 : T < 99) : H[G.1 + a]? = some (arrV (G.2.2.2.1 T) (ln a) (vw G.1 x a)) := by
  have h1 := h.2.2 a (tg_lt ht hT2)
  unfold cOK at h1
  rw [ht, if_neg (by omega)] at h1
  exact h1
theorem vwI {b : Nat} {x : XS} {a k T : Nat} (ht : tg a = T) (h16 : T ≠ 16) (hr : rf T a k = none) : vw b x a k = .int (x a k) := by
  unfold vw
  rw [ht, if_neg h16, hr]
theorem vwR {b : Nat} {x : XS} {a k T j : Nat} (ht : tg a = T) (h16 : T ≠ 16) (hr : rf T a k = some j) : vw b x a k = .ref (b + j) := by
  unfold vw
  rw [ht, if_neg h16, hr]
theorem vwL {b : Nat} {x : XS} {a k : Nat} (ht : tg a = 16) : vw b x a k = lwv b (x a k) := by
  unfold vw
  rw [if_pos ht]
theorem wr_ne {x : XS} {i k j : Nat} {v : Int32} (h : j ≠ i) : wr x i k v j = x j := by
  unfold wr
  rw [if_neg h]
theorem wr_self {x : XS} {i k : Nat} {v : Int32} : wr x i k v i = upd (x i) k v := by
  unfold wr
  rw [if_pos rfl]
theorem vw_congr {b : Nat} {x y : XS} {a : Nat} (h : x a = y a) : vw b x a = vw b y a := by
  funext k
  unfold vw
  rw [h]
theorem cOK.kept {G : GT} {x y : XS} {a : Nat} {H H1 : Heap} (h : cOK G x a H) (hx : x a = y a) (hH : H1[G.1 + a]? = H[G.1 + a]?) : cOK G y a H1 := by
  unfold cOK at h ⊢
  rw [← vw_congr hx]
  by_cases ht : tg a < 8
  · rw [if_pos ht] at h ⊢
    exact h.kept hH
  · rw [if_neg ht] at h ⊢
    rw [hH]; exact h
theorem SR.put {G : GT} {x y : XS} {H H1 : Heap} {locs : List Loc} {a : Nat} (h : SR G x H locs) (hx : ∀ j, j ≠ a → x j = y j) (hc : cOK G y a H1) (z : H1.size = H.size) (oq : ∀ q : Nat, q ≠ G.1 + a → H1[q]? = H[q]?) (k : Nat) : SR G y H1 (locs ++ [⟨G.1 + a, k⟩]) := by
  refine ⟨⟨by rw [z]; exact h.1.1, fun q hq => by rw [oq q (by omega)]; exact h.1.2.1 q hq, fun j hj => ?_⟩, fun q hq => ?_⟩
  · by_cases e : j = a
    · subst e; exact hc
    · exact (h.1.2.2 j hj).kept (hx j e) (oq _ (by omega))
  · rcases List.mem_append.mp hq with h1 | h1
    · exact h.2 q h1
    · rw [List.mem_singleton.mp h1]; exact Nat.le_add_right _ _
abbrev ix (i : Int32) : Nat := i.toNatClampNeg
def inb (i : Int32) (n : Nat) : Bool := decide (¬ (i < 0 ∨ n ≤ i.toNatClampNeg))
def gd {α : Type} (c : Bool) (k : Option α) : Option α := if c then k else none
theorem gd_out {α : Type} {c : Bool} {k : Option α} {r : α} (h : gd c k = some r) : c = true ∧ k = some r := by
  cases c with
  | true => exact ⟨rfl, h⟩
  | false => exact absurd h (by intro q; cases q)
def st_ {α β : Type} (a : α) (k : α → β) : β := k a
theorem st_out {α β : Type} {a : α} {k : α → β} {r : β} (h : st_ a k = r) : ∃ y, y = a ∧ k y = r := ⟨a, rfl, h⟩
def bd {α β : Type} (o : Option (α × XS)) (k : α → XS → Option β) : Option β := match o with
  | some q => k q.1 q.2
  | none => none
theorem bd_out {α β : Type} {o : Option (α × XS)} {k : α → XS → Option β} {r : β} (h : bd o k = some r) : ∃ v y, o = some (v, y) ∧ k v y = some r := by
  cases o with
  | none => exact absurd h (by intro q; cases q)
  | some q => exact ⟨q.1, q.2, rfl, h⟩
theorem if_p {α : Type} {c : Prop} [Decidable c] {a b : α} {r : α} (hc : c) (h : (if c then a else b) = r) : a = r := by rw [if_pos hc] at h; exact h
theorem if_n {α : Type} {c : Prop} [Decidable c] {a b : α} {r : α} (hc : ¬ c) (h : (if c then a else b) = r) : b = r := by rw [if_neg hc] at h; exact h
section RW
variable {p : Program} {l : Launch} {e : Env} {R : Room} {s : State} {m : MethodId} {args : Array Value} {below : List Frame} {meth : Method} {c : Code} {H : Heap} {locs : List Loc} {cells slots : Nat} {Q : State → Prop} {cc : ByteArray} {nL : Nat} {ret : Option FieldType} {own : String} {G : GT} {x : XS} {pc : Nat} {ls : Array Slot} {rest : List Value} {a : Nat}
theorem gV (C : CX G p s m args meth c cc nL ret own) (hS : SR G x H locs) {T : Nat} (ht : tg a = T) {Cn : String} {Tb : u_T} {N : Nat} (hc : vwCl[T]? = some (Cn, Tb, N)) (hN : N = nf T) (hin : ∀ w ∈ u_ws Cn Tb N, w ∈ gT) (k : Nat) (hk : k < N) {index : Nat} {ref nm ds : String} (hT3 : ((Tb k).1, (Tb k).2.1, (Tb k).2.2.1) = (ref, nm, ds)) (hlink : Cond.fieldLink own index ref nm ds ∈ gT) {v : Value} (hv : vw G.1 x a k = v) (hdg : decode cc pc = .ok (.getfield index, 3))
    (kk : W p l e R s m args below meth c H locs cells slots Q (F0 m (pc + 3) ls (v :: rest))) : W p l e R s m args below meth c H locs cells slots Q (F0 m pc ls (.ref (G.1 + a) :: rest)) := by
  obtain ⟨hx, hb, -, -, -, hown, hw, hK, -⟩ := C
  obtain ⟨cell, q1, q2, q3, q4⟩ := hS.1.obj ht (List.getElem?_eq_some_iff.mp hc).1
  obtain ⟨hSl, hfc, kC, hkC, hkind⟩ := hK.1 T _ hc
  obtain ⟨cf, kf, fi, f, hi, hsl⟩ := hSl k hk
  have e1 : (Tb k).1 = ref := congrArg (fun z => z.1) hT3
  have e2 : (Tb k).2.1 = nm := congrArg (fun z => z.2.1) hT3
  have e3 : (Tb k).2.2.1 = ds := congrArg (fun z => z.2.2) hT3
  have hst := (u_facts hfc hkC (u_lays hw hin hk) hi).1
  refine W.getf hx hb hown (hw _ hlink) (by rw [← e1, ← e2, ← e3]; exact hi) hst q1 (by rw [q3]; exact fun h => by cases h) (v := v) ?_ rfl rfl hdg kk
  rw [hsl, q4 k (by omega), hv]
theorem vw_upd {b : Nat} {v : Int32} {k T : Nat} (ht : tg a = T) (h16 : T ≠ 16) (hr : rf T a k = none) : updV (vw b x a) k (.int v) = vw b (wr x a k v) a := by
  funext j
  by_cases hjk : j = k
  · subst hjk
    rw [vwI ht h16 hr, wr_self]
    simp [updV, upd]
  · simp only [updV, if_neg hjk]
    unfold vw
    rw [wr_self]
    simp [upd, hjk]
theorem pV (C : CX G p s m args meth c cc nL ret own) (hS : SR G x H locs) {T : Nat} (ht : tg a = T) {Cn : String} {Tb : u_T} {N : Nat} (hc : vwCl[T]? = some (Cn, Tb, N)) (hN : N = nf T) (hin : ∀ w ∈ u_ws Cn Tb N, w ∈ gT) (ty0 : Nat → FieldType) (hty : ∀ k, k < N → parseFieldDescriptor (Tb k).2.2.1 = some (ty0 k)) (hnm : ∀ a, a < N → ∀ b, b < N → a ≠ b → (Tb a).2.1 ≠ (Tb b).2.1) (k : Nat) (hk : k < N) {index : Nat} {ref nm ds : String} (hT3 : Tb k = (ref, nm, ds, false)) (hlink : Cond.fieldLink own index ref nm ds ∈ gT) {ty : FieldType} {v : Int32} (hd : ty0 k = ty) (hn : narrow ty (.int v) = .int v) (hfit : fits ty (.int v) = true) (hr : rf T a k = none) {y : XS} (hy : y = wr x a k v) (hdg : decode cc pc = .ok (.putfield index, 3))
    (kk : ∀ (H1 : Heap) (locs1 : List Loc), SR G y H1 locs1 → W p l e R s m args below meth c H1 locs1 cells slots Q (F0 m (pc + 3) ls rest)) : W p l e R s m args below meth c H locs cells slots Q (F0 m pc ls (.int v :: .ref (G.1 + a) :: rest)) := by
  subst hy
  obtain ⟨hx, hb, -, -, -, hown, hw, hK, -⟩ := C
  have hT8 : T < 8 := (List.getElem?_eq_some_iff.mp hc).1
  have hap := va_apart (own := own) hw hin ty0 hty hnm hK hc
  obtain ⟨cell, q1, q2, q3, q4⟩ := hS.1.obj ht hT8
  obtain ⟨hSl, hfc, kC, hkC, hkind⟩ := hK.1 T _ hc
  obtain ⟨cf, kf, fi, f, hi, hsl⟩ := hSl k hk
  have e1 : (Tb k).1 = ref := congrArg (fun z => z.1) hT3
  have e2 : (Tb k).2.1 = nm := congrArg (fun z => z.2.1) hT3
  have e3 : (Tb k).2.2.1 = ds := congrArg (fun z => z.2.2.1) hT3
  have e4 : (Tb k).2.2.2 = false := congrArg (fun z => z.2.2.2) hT3
  have hlay := hw _ (hin _ (u_in_lay hk))
  unfold u_lay at hlay
  rw [if_neg (by rw [e4]; decide)] at hlay
  have hst := (u_facts hfc hkC (u_lays hw hin hk) hi).1
  have h6 := u_store hfc hkC hkind hlay hi (by rw [hty k hk, hd]) hn hfit
  refine W.putK hx hb (f := f) ⟨hown, hw _ hlink, ⟨_, _, _, by rw [← e1, ← e2, ← e3]; exact hi⟩, hst⟩ (by rw [q2]; exact h6) q1 q3 (by rw [hsl]; exact k2_hasslot (q4 k (by omega))) rfl rfl hdg fun H' d1 d2 d3 => ?_
  rw [hsl] at d1 ⊢
  refine kk H' _ (hS.put (a := a) (fun j hj => (wr_ne hj).symm) ?_ d2 d3 _)
  unfold cOK
  rw [ht, if_pos hT8]
  refine t_OB.to (V := updV (vw G.1 x a) k (.int v)) ⟨_, d1, q2, q3, t_set q4 (fun x y hx hy => hap x y (by omega) (by omega)) (by omega) _⟩ (fun j _ => ?_)
  exact congrFun (vw_upd ht (by omega) hr) j
theorem alI (C : CX G p s m args meth c cc nL ret own) (hS : SR G x H locs) (ht : tg a = 8) {n : Nat} (hn : ln a = n) {i : Int32} (hi : inb i n = true) (hdg : decode cc pc = .ok (.iaload, 1))
    (kk : W p l e R s m args below meth c H locs cells slots Q (F0 m (pc + 1) ls (.int (x a (ix i)) :: rest))) : W p l e R s m args below meth c H locs cells slots Q (F0 m pc ls (.int i :: .ref (G.1 + a) :: rest)) := by
  obtain ⟨hx, hb, -, -, -, hown, hw, hK, -⟩ := C
  have hin := of_decide_eq_true hi
  have hlt : i.toNatClampNeg < n := Nat.not_le.mp fun q => hin (Or.inr q)
  have hc := hS.1.arr ht (by omega) (by omega)
  rw [hn] at hc
  exact W.iald (v := .int (x a (ix i))) hx hb hc ((hK.2 0 _ rfl).1 n _) (fun q => by cases q) (by rw [arrV_size]; exact hin) (by rw [arrV_read _ _ hlt, vwI ht (by omega) rfl]) rfl rfl hdg kk
theorem alB (C : CX G p s m args meth c cc nL ret own) (hS : SR G x H locs) (ht : tg a = 9) {n : Nat} (hn : ln a = n) {i : Int32} (hi : inb i n = true) (hdg : decode cc pc = .ok (.baload, 1))
    (kk : W p l e R s m args below meth c H locs cells slots Q (F0 m (pc + 1) ls (.int (x a (ix i)) :: rest))) : W p l e R s m args below meth c H locs cells slots Q (F0 m pc ls (.int i :: .ref (G.1 + a) :: rest)) := by
  obtain ⟨hx, hb, -, -, -, hown, hw, hK, -⟩ := C
  have hin := of_decide_eq_true hi
  have hlt : i.toNatClampNeg < n := Nat.not_le.mp fun q => hin (Or.inr q)
  have hc := hS.1.arr ht (by omega) (by omega)
  rw [hn] at hc
  exact W.bald (v := .int (x a (ix i))) hx hb hc ((hK.2 1 _ rfl).1 n _) (fun q => by cases q) (by rw [arrV_size]; exact hin) (by rw [arrV_read _ _ hlt, vwI ht (by omega) rfl]) rfl rfl hdg kk
theorem alC (C : CX G p s m args meth c cc nL ret own) (hS : SR G x H locs) (ht : tg a = 10) {n : Nat} (hn : ln a = n) {i : Int32} (hi : inb i n = true) (hdg : decode cc pc = .ok (.caload, 1))
    (kk : W p l e R s m args below meth c H locs cells slots Q (F0 m (pc + 1) ls (.int (x a (ix i)) :: rest))) : W p l e R s m args below meth c H locs cells slots Q (F0 m pc ls (.int i :: .ref (G.1 + a) :: rest)) := by
  obtain ⟨hx, hb, -, -, -, hown, hw, hK, -⟩ := C
  have hin := of_decide_eq_true hi
  have hlt : i.toNatClampNeg < n := Nat.not_le.mp fun q => hin (Or.inr q)
  have hc := hS.1.arr ht (by omega) (by omega)
  rw [hn] at hc
  exact W.cald (v := .int (x a (ix i))) hx hb hc ((hK.2 2 _ rfl).1 n _) (fun q => by cases q) (by rw [arrV_size]; exact hin) (by rw [arrV_read _ _ hlt, vwI ht (by omega) rfl]) rfl rfl hdg kk
theorem alZ (C : CX G p s m args meth c cc nL ret own) (hS : SR G x H locs) (ht : tg a = 11) {n : Nat} (hn : ln a = n) {i : Int32} (hi : inb i n = true) (hdg : decode cc pc = .ok (.baload, 1))
    (kk : W p l e R s m args below meth c H locs cells slots Q (F0 m (pc + 1) ls (.int (x a (ix i)) :: rest))) : W p l e R s m args below meth c H locs cells slots Q (F0 m pc ls (.int i :: .ref (G.1 + a) :: rest)) := by
  obtain ⟨hx, hb, -, -, -, hown, hw, hK, -⟩ := C
  have hin := of_decide_eq_true hi
  have hlt : i.toNatClampNeg < n := Nat.not_le.mp fun q => hin (Or.inr q)
  have hc := hS.1.arr ht (by omega) (by omega)
  rw [hn] at hc
  exact W.zald (v := .int (x a (ix i))) hx hb hc ((hK.2 3 _ rfl).1 n _) (fun q => by cases q) (by rw [arrV_size]; exact hin) (by rw [arrV_read _ _ hlt, vwI ht (by omega) rfl]) rfl rfl hdg kk
/-- a row of references: t0 its place in tysG -/
theorem alV (C : CX G p s m args meth c cc nL ret own) (hS : SR G x H locs) {T : Nat} (ht : tg a = T) (hT : 8 ≤ T) (hT2 : T < 99) {cn : String} (t0 : Nat) (h0 : (tysG G)[t0]? = some (G.2.2.2.1 T, .object cn)) {n : Nat} (hn : ln a = n) {i : Int32} (hi : inb i n = true) {v : Value} (hv : vw G.1 x a (ix i) = v) (hdg : decode cc pc = .ok (.aaload, 1))
    (kk : W p l e R s m args below meth c H locs cells slots Q (F0 m (pc + 1) ls (v :: rest))) : W p l e R s m args below meth c H locs cells slots Q (F0 m pc ls (.int i :: .ref (G.1 + a) :: rest)) := by
  obtain ⟨hx, hb, -, -, -, hown, hw, hK, -⟩ := C
  have hin := of_decide_eq_true hi
  have hlt : i.toNatClampNeg < n := Nat.not_le.mp fun q => hin (Or.inr q)
  have hc := hS.1.arr ht hT hT2
  rw [hn] at hc
  exact W.aald (v := v) (ty := .object cn) hx hb hc ((hK.2 t0 _ h0).1 n _) rfl (fun q => by cases q) (by rw [arrV_size]; exact hin) (by rw [arrV_read _ _ hlt, hv]) rfl rfl hdg kk
theorem cOK_arr {T : Nat} (ht : tg a = T) (hT : 8 ≤ T) {y : XS} {n : Nat} (hn : ln a = n) (h : H[G.1 + a]? = some (arrV (G.2.2.2.1 T) n (vw G.1 y a))) : cOK G y a H := by
  unfold cOK
  rw [ht, if_neg (by omega), hn]
  exact h
theorem asI (C : CX G p s m args meth c cc nL ret own) (hS : SR G x H locs) (ht : tg a = 8) {n : Nat} (hn : ln a = n) {i v : Int32} (hi : inb i n = true) {y : XS} (hy : y = wr x a (ix i) v) (hdg : decode cc pc = .ok (.iastore, 1))
    (kk : ∀ (H1 : Heap) (locs1 : List Loc), SR G y H1 locs1 → W p l e R s m args below meth c H1 locs1 cells slots Q (F0 m (pc + 1) ls rest)) : W p l e R s m args below meth c H locs cells slots Q (F0 m pc ls (.int v :: .int i :: .ref (G.1 + a) :: rest)) := by
  subst hy
  obtain ⟨hx, hb, -, -, -, hown, hw, hK, -⟩ := C
  have hin := of_decide_eq_true hi
  have hc := hS.1.arr ht (by omega) (by omega)
  rw [hn] at hc
  refine W.iast hx hb hc ((hK.2 0 _ rfl).1 n _) (fun q => by cases q) (by rw [arrV_size]; exact hin) rfl rfl hdg fun H1 d1 d2 d3 => ?_
  refine kk H1 _ (hS.put (a := a) (fun j hj => (wr_ne hj).symm) (cOK_arr ht (by omega) hn ?_) d2 d3 _)
  rw [d1, arrV_store, vw_upd ht (by omega) rfl]
theorem asB (C : CX G p s m args meth c cc nL ret own) (hS : SR G x H locs) (ht : tg a = 9) {n : Nat} (hn : ln a = n) {i v : Int32} (hi : inb i n = true) {y : XS} (hy : y = wr x a (ix i) v.toInt8.toInt32) (hdg : decode cc pc = .ok (.bastore, 1))
    (kk : ∀ (H1 : Heap) (locs1 : List Loc), SR G y H1 locs1 → W p l e R s m args below meth c H1 locs1 cells slots Q (F0 m (pc + 1) ls rest)) : W p l e R s m args below meth c H locs cells slots Q (F0 m pc ls (.int v :: .int i :: .ref (G.1 + a) :: rest)) := by
  subst hy
  obtain ⟨hx, hb, -, -, -, hown, hw, hK, -⟩ := C
  have hin := of_decide_eq_true hi
  have hc := hS.1.arr ht (by omega) (by omega)
  rw [hn] at hc
  refine W.bast hx hb hc ((hK.2 1 _ rfl).1 n _) (fun q => by cases q) (by rw [arrV_size]; exact hin) rfl rfl hdg fun H1 d1 d2 d3 => ?_
  refine kk H1 _ (hS.put (a := a) (fun j hj => (wr_ne hj).symm) (cOK_arr ht (by omega) hn ?_) d2 d3 _)
  rw [d1, arrV_store]
  exact congrArg (fun z => some (arrV _ _ z)) (vw_upd (v := v.toInt8.toInt32) ht (by omega) rfl)
theorem asZ (C : CX G p s m args meth c cc nL ret own) (hS : SR G x H locs) (ht : tg a = 11) {n : Nat} (hn : ln a = n) {i v : Int32} (hi : inb i n = true) {y : XS} (hy : y = wr x a (ix i) (vp_nar .boolean v)) (hdg : decode cc pc = .ok (.bastore, 1))
    (kk : ∀ (H1 : Heap) (locs1 : List Loc), SR G y H1 locs1 → W p l e R s m args below meth c H1 locs1 cells slots Q (F0 m (pc + 1) ls rest)) : W p l e R s m args below meth c H locs cells slots Q (F0 m pc ls (.int v :: .int i :: .ref (G.1 + a) :: rest)) := by
  subst hy
  obtain ⟨hx, hb, -, -, -, hown, hw, hK, -⟩ := C
  have hin := of_decide_eq_true hi
  have hc := hS.1.arr ht (by omega) (by omega)
  rw [hn] at hc
  refine W.zast hx hb hc ((hK.2 3 _ rfl).1 n _) (fun q => by cases q) (by rw [arrV_size]; exact hin) rfl rfl hdg fun H1 d1 d2 d3 => ?_
  refine kk H1 _ (hS.put (a := a) (fun j hj => (wr_ne hj).symm) (cOK_arr ht (by omega) hn ?_) d2 d3 _)
  rw [d1, arrV_store]
  exact congrArg (fun z => some (arrV _ _ z)) (vw_upd (v := vp_nar .boolean v) ht (by omega) rfl)
theorem alN (C : CX G p s m args meth c cc nL ret own) (hS : SR G x H locs) {T : Nat} (ht : tg a = T) (hT : 8 ≤ T) (hT2 : T < 99) {ty : FieldType} (t0 : Nat) (h0 : (tysG G)[t0]? = some (G.2.2.2.1 T, ty)) {n : Nat} (hn : ln a = n) {v : Int32} (hv : Int32.ofNat n = v) (hdg : decode cc pc = .ok (.arraylength, 1))
    (kk : W p l e R s m args below meth c H locs cells slots Q (F0 m (pc + 1) ls (.int v :: rest))) : W p l e R s m args below meth c H locs cells slots Q (F0 m pc ls (.ref (G.1 + a) :: rest)) := by
  obtain ⟨hx, hb, -, -, -, hown, hw, hK, -⟩ := C
  have hc := hS.1.arr ht hT hT2
  rw [hn] at hc
  exact W.alen hx hb hc ((hK.2 t0 _ h0).1 n _) (by rw [arrV_size]; exact hv) rfl rfl hdg kk
def lawok (v : Int32) : Bool := decide (v = 0) || (tg (ix v) == 5)
theorem vw_updL {b : Nat} {v : Int32} {k : Nat} (ht : tg a = 16) : updV (vw b x a) k (lwv b v) = vw b (wr x a k v) a := by
  funext j
  by_cases hjk : j = k
  · subst hjk
    rw [vwL ht, wr_self]
    simp [updV, upd]
  · simp only [updV, if_neg hjk]
    unfold vw
    rw [wr_self]
    simp [upd, hjk]
theorem asL (C : CX G p s m args meth c cc nL ret own) (hS : SR G x H locs) (ht : tg a = 16) {n : Nat} (hn : ln a = n) {i v : Int32} (hi : inb i n = true) (hv : lawok v = true) {y : XS} (hy : y = wr x a (ix i) v) (hdg : decode cc pc = .ok (.aastore, 1))
    (kk : ∀ (H1 : Heap) (locs1 : List Loc), SR G y H1 locs1 → W p l e R s m args below meth c H1 locs1 cells slots Q (F0 m (pc + 1) ls rest)) : W p l e R s m args below meth c H locs cells slots Q (F0 m pc ls (lwv G.1 v :: .int i :: .ref (G.1 + a) :: rest)) := by
  subst hy
  obtain ⟨hx, hb, -, -, -, hown, hw, hK, -⟩ := C
  have hin := of_decide_eq_true hi
  have hlt : i.toNatClampNeg < n := Nat.not_le.mp fun q => hin (Or.inr q)
  have hc := hS.1.arr ht (by omega) (by omega)
  rw [hn] at hc
  by_cases h0 : v = 0
  · subst h0
    have ev : lwv G.1 0 = .null := by simp [lwv]
    rw [ev]
    refine va_WaastN (C := "ShoeCorner$Text") hx hb hc ((hK.2 8 _ rfl).1 n _) (fun q => by cases q) (by rw [arrV_size]; exact hin) rfl rfl hdg fun H1 d1 d2 d3 => ?_
    refine kk H1 _ (hS.put (a := a) (fun j hj => (wr_ne hj).symm) (cOK_arr ht (by omega) hn ?_) d2 d3 _)
    rw [d1, arrV_store, ← ev, vw_updL ht]
  · have ev : lwv G.1 v = .ref (G.1 + ix v) := by simp [lwv, h0]
    have htv : tg (ix v) = 5 := by
      unfold lawok at hv
      simpa [h0] using hv
    obtain ⟨cellV, g1, g2, g3, -⟩ := hS.1.obj htv (by omega)
    have hcls := (hK.1 5 _ rfl).2
    obtain ⟨kA, comp, k1, k2, k3, -⟩ := (hK.2 8 _ rfl).2
    have hcomp : comp = G.2.2.1.1 5 := Option.some.inj (k3.symm.trans hcls.1)
    subst hcomp
    obtain ⟨kC, hkC, -⟩ := hcls.2
    rw [ev]
    refine W.aast hx hb hc (fun q h => by cases h) (fun h => by cases h) k1 k2 rfl hkC ⟨fun q => hin (Or.inl q), by rw [arrV_size]; exact hlt⟩ g1 (fun q h => by rw [g3] at h; cases h) (by rw [g2]; exact hkC) (by rw [g2]; exact va_assign hcls) rfl rfl hdg fun H1 d1 d2 d3 => ?_
    refine kk H1 _ (hS.put (a := a) (fun j hj => (wr_ne hj).symm) (cOK_arr ht (by omega) hn ?_) d2 d3 _)
    rw [d1, arrV_store, ← ev, vw_updL ht]
end RW
