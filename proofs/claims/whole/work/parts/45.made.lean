/-- cells made so far, with any values -/
def cV (G : GT) (V : Nat → Nat → Value) (a : Nat) (H : Heap) : Prop := if tg a < 8 then t_OB (G.1 + a) (G.2.2.1.1 (tg a)) (nf (tg a)) (G.2.2.1.2 (tg a)) H (V a) else H[G.1 + a]? = some (arrV (G.2.2.2.1 (tg a)) (ln a) (V a))
def PV (G : GT) (k : Nat) (V : Nat → Nat → Value) (H : Heap) : Prop := H.size = G.1 + k ∧ (∀ q : Nat, q < G.1 → H[q]? = G.2.1[q]?) ∧ ∀ a : Nat, a < k → cV G V a H
def SV (G : GT) (k : Nat) (V : Nat → Nat → Value) (H : Heap) (locs : List Loc) : Prop := PV G k V H ∧ ∀ q ∈ locs, G.1 ≤ q.base
def uV (V : Nat → Nat → Value) (a : Nat) (f : Nat → Value) : Nat → Nat → Value := fun j => if j = a then f else V j
theorem cV.kept {G : GT} {V V1 : Nat → Nat → Value} {a : Nat} {H H1 : Heap} (h : cV G V a H) (hx : V a = V1 a) (hH : H1[G.1 + a]? = H[G.1 + a]?) : cV G V1 a H1 := by
  unfold cV at h ⊢
  rw [← hx]
  by_cases ht : tg a < 8
  · rw [if_pos ht] at h ⊢
    exact h.kept hH
  · rw [if_neg ht] at h ⊢
    rw [hH]; exact h
theorem SV.grow {G : GT} {k : Nat} {V : Nat → Nat → Value} {H H1 : Heap} {locs : List Loc} {f : Nat → Value} (h : SV G k V H locs) (z : H1.size = G.1 + k + 1) (o : ∀ q, q < G.1 + k → H1[q]? = H[q]?) (hc : cV G (uV V k f) k H1) : SV G (k + 1) (uV V k f) H1 locs := by
  refine ⟨⟨by omega, fun q hq => by rw [o q (by omega)]; exact h.1.2.1 q hq, fun a ha => ?_⟩, h.2⟩
  by_cases e : a = k
  · subst e; exact hc
  · refine (h.1.2.2 a (by omega)).kept ?_ (o _ (by omega))
    unfold uV
    rw [if_neg e]
section MADE
variable {p : Program} {l : Launch} {e : Env} {R : Room} {s : State} {m : MethodId} {args : Array Value} {below : List Frame} {meth : Method} {c : Code} {H : Heap} {locs : List Loc} {cells slots : Nat} {Q : State → Prop} {cc : ByteArray} {nL : Nat} {ret : Option FieldType} {own : String} {G : GT} {V : Nat → Nat → Value} {pc k : Nat} {ls : Array Slot} {rest : List Value}
theorem newO (C : CX G p s m args meth c cc nL ret own) (hS : SV G k V H locs) {T : Nat} (ht : tg k = T) {Cn : String} {Tb : u_T} {N : Nat} (hc : vwCl[T]? = some (Cn, Tb, N)) (hN : N = nf T) (hin : ∀ w ∈ u_ws Cn Tb N, w ∈ gT) (ty : Nat → FieldType) (hty : ∀ k, k < N → parseFieldDescriptor (Tb k).2.2.1 = some (ty k)) {index : Nat} (hcl : Cond.classLink own index Cn ∈ gT) (hinst : Cond.instantiable Cn N ∈ gT) (hini : Cond.initialized Cn ∈ gT) (hcells : cells + 1 ≤ R.cells) (hslots : slots + N ≤ R.slots) (hdg : decode cc pc = .ok (.new index, 3))
    (kk : ∀ H1 : Heap, SV G (k + 1) (uV V k (fun j => defaultValue (ty j))) H1 locs → W p l e R s m args below meth c H1 locs (cells + 1) (slots + N) Q (F0 m (pc + 3) ls (.ref (G.1 + k) :: rest))) : W p l e R s m args below meth c H locs cells slots Q (F0 m pc ls rest) := by
  obtain ⟨hx, hb, -, -, -, hown, hw, hK, -⟩ := C
  have hKn := hK.1 T _ hc
  have hT8 : T < 8 := (List.getElem?_eq_some_iff.mp hc).1
  refine W.newcK hx hb hown (hw _ hcl) (hw _ hinst) (hw _ hini) rfl hdg hcells hslots hKn.2.1 hS.1.1 fun H1 kC hkC e1 z1 o1 => ?_
  refine kk H1 (hS.grow z1 o1 ?_)
  unfold cV
  rw [ht, if_pos hT8, ← hN]
  refine (u_born ty hw hin hKn hkC e1 hty).to (fun j hj => ?_)
  unfold uV
  rw [if_pos rfl]
theorem newA (C : CX G p s m args meth c cc nL ret own) (hS : SV G k V H locs) {T : Nat} (ht : tg k = T) (hT : 8 ≤ T) (t0 : Nat) {atype : ArrayType} {ty : FieldType} (hty : newarray.typeOf atype = ty) (h0 : (tysG G)[t0]? = some (G.2.2.2.1 T, ty)) (harr : Cond.arrayClass (newarray.typeOf atype) ∈ gT) {n : Int32} {N : Nat} (hN : ln k = N) (hn : ¬ n < 0) (hnN : n.toNatClampNeg = N) (hbytes : N * componentBytes (newarray.typeOf atype) ≤ 536870912) (hcells : cells + 1 ≤ R.cells) (hslots : slots + N ≤ R.slots) (hdg : decode cc pc = .ok (.newarray atype, 2))
    (kk : ∀ H1 : Heap, SV G (k + 1) (uV V k (fun _ => defaultValue ty)) H1 locs → W p l e R s m args below meth c H1 locs (cells + 1) (slots + N) Q (F0 m (pc + 2) ls (.ref (G.1 + k) :: rest))) : W p l e R s m args below meth c H locs cells slots Q (F0 m pc ls (.int n :: rest)) := by
  subst hty
  obtain ⟨hx, hb, -, -, -, hown, hw, hK, -⟩ := C
  refine va_newaK hx hb (hw _ harr) rfl hdg rfl hn hnN hbytes hcells hslots hS.1.1 fun H1 cA e1 z1 o1 hAr hNm => ?_
  have hfc := (hK.2 t0 _ h0).2
  refine kk H1 (hS.grow z1 o1 ?_)
  unfold cV
  rw [ht, if_neg (by omega), hN]
  have : cA = G.2.2.2.1 T := by
    have h2 : s.vm.findClass ("[" ++ (newarray.typeOf atype).toString) = some (G.2.2.2.1 T) := by cases atype <;> exact hfc
    rw [hNm] at h2
    exact Option.some.inj h2
  rw [← this, e1]
  unfold uV
  rw [if_pos rfl]
end MADE
