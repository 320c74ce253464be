/-- the rows of references can be made -/
def AOs (U : State) : Prop := va_AO "ShoeCorner$Text" U ∧ va_AO "ShoeCorner$Boy" U ∧ va_AO "ShoeCorner$Sheet" U ∧ va_AO "ShoeCorner$Slot" U
theorem AOs.warm {u U : State} (hW : u.WarmedH U.vm) (h : AOs u) : AOs U := ⟨h.1.moved hW.alike, h.2.1.moved hW.alike, h.2.2.1.moved hW.alike, h.2.2.2.moved hW.alike⟩
theorem AOs.same {u U : State} (hv : U.vm = u.vm) (h : AOs u) : AOs U := by
  have ha : u.vm.Alike U.vm := by rw [hv]; exact Vm.Alike.refl _
  exact ⟨h.1.moved ha, h.2.1.moved ha, h.2.2.1.moved ha, h.2.2.2.moved ha⟩
def PI (G : GT) (av : List Value) (k : Nat) (V : Nat → Nat → Value) : Array Value → State → Prop := va_Pc av (fun U => GK G U ∧ AOs U ∧ PV G k V U.heap)
def QI (G : GT) (k : Nat) (V : Nat → Nat → Value) : Array Value → State → Outcome → State → Prop := fun _ _ oc t => oc = .returned none ∧ PV G k V t.heap
/-- a constructor's contract: from k cells with V to k1 cells with V1 -/
def CtI (G : GT) (l : Launch) (y : MethodName) (cd : Cond) (rm : Room) (av : List Value) (k : Nat) (V : Nat → Nat → Value) (k1 : Nat) (V1 : Nat → Nat → Value) : Prop := Met l y (cd :: gT) rm (PI G av k V) (QI G k1 V1) rm.cells rm.slots (AB G)
theorem PI.blind {G : GT} {av : List Value} {k : Nat} {V : Nat → Nat → Value} : FrameBlind (PI G av k V) := fun a U g mk q => by
  obtain ⟨q0, q1, q2, q3⟩ := q
  exact ⟨q0, GK.same rfl q1, AOs.same rfl q2, q3⟩
theorem CtI.of {G : GT} {l : Launch} {y : MethodName} {cc : ByteArray} {maxL : Nat} {ret : Option FieldType} {rm : Room} {av : List Value} {k k1 : Nat} {V V1 : Nat → Nat → Value} (hy : plainName y.cls = true) (hi : y.name = "<init>") (hlen : (lg_sl av).length ≤ maxL)
    (body : ∀ (p : Program) (e : Env) (s : State) (m : MethodId) (args : Array Value) (below : List Frame) (meth : Method) (c : Code), CX G p s m args meth c cc maxL ret y.cls → meth.name = "<init>" → AOs s → ∀ ls : Array Slot, lv_has ls maxL (lv_args 0 av) → SV G k V s.heap [] →
      W p l e rm s m args below meth c s.heap [] 0 0 (MQ below (QI G k1 V1) args s rm.cells rm.slots (AB G)) (F0 m 0 ls [])) : CtI G l y (.code y cc maxL ret) rm av k V k1 V1 := by
  refine Met.ofW (cc := cc) (maxL := maxL) (ret := ret) hy rfl ?_
  intro p e s m args below meth c s₁ B hml hv
  obtain ⟨rfl, hK, hAO, hR⟩ := hv
  have hts := atoms_spec (ws := Cond.code y cc maxL ret :: gT) B.pre
  have hown : s.vm.findClass y.cls = some m.cls := findClass_of_methodNamed B.named
  have hin : meth.name = "<init>" := by rw [← hi]; exact (name_of_methodNamed B.named B.method).1
  rw [lg_entry_eq]
  exact body p e s m _ below meth c ⟨B.exec, B.bytes, hml, B.returns, B.notSynchronized, hown, fun w h => hts w (List.mem_cons_of_mem _ h), hK⟩ hin hAO _ (lv_entry av hlen) ⟨hR, fun q h => by cases h⟩
section MADE4
variable {p : Program} {l : Launch} {e : Env} {R : Room} {s : State} {m : MethodId} {args : Array Value} {below : List Frame} {meth : Method} {c : Code} {H : Heap} {locs : List Loc} {cells slots : Nat} {Q : State → Prop} {cc : ByteArray} {nL : Nat} {ret : Option FieldType} {own : String} {G : GT} {V V1 : Nat → Nat → Value} {pc k k1 a b : Nat} {ls : Array Slot} {rest st0 : List Value}
theorem asQv (C : CX G p s m args meth c cc nL ret own) (hS : SV G k V H locs) (ha : a < k) {Ta T : Nat} (ht : tg a = Ta) (hTa : 8 ≤ Ta) {n : Nat} (hn : ln a = n) (hbk : b < k) (htb : tg b = T) {Cn : String} {Tb : u_T} {N : Nat} (hc : vwCl[T]? = some (Cn, Tb, N)) (t0 : Nat) (h0 : (tysG G)[t0]? = some (G.2.2.2.1 Ta, .object Cn)) {i : Int32} (hi : inb i n = true) (hdg : decode cc pc = .ok (.aastore, 1))
    (kk : ∀ (H1 : Heap) (locs1 : List Loc), SV G k (uV V a (updV (V a) (ix i) (.ref (G.1 + b)))) H1 locs1 → W p l e R s m args below meth c H1 locs1 cells slots Q (F0 m (pc + 1) ls rest)) : W p l e R s m args below meth c H locs cells slots Q (F0 m pc ls (.ref (G.1 + b) :: .int i :: .ref (G.1 + a) :: rest)) := by
  obtain ⟨hx, hb, -, -, -, hown, hw, hK, -⟩ := C
  have hT8 : T < 8 := (List.getElem?_eq_some_iff.mp hc).1
  have hin := of_decide_eq_true hi
  have hlt : i.toNatClampNeg < n := Nat.not_le.mp fun q => hin (Or.inr q)
  have hcA := hS.arr ha ht hTa
  rw [hn] at hcA
  obtain ⟨cellV, g1, g2, g3, -⟩ := hS.obj hbk htb hT8
  have hcls := (hK.1 T _ hc).2
  obtain ⟨kA, comp, k1, k2, k3, -⟩ := (hK.2 t0 _ h0).2
  have hcomp : comp = G.2.2.1.1 T := Option.some.inj (k3.symm.trans hcls.1)
  subst hcomp
  obtain ⟨kC, hkC, -⟩ := hcls.2
  refine W.aast hx hb hcA (fun q h => by cases h) (fun h => by cases h) k1 k2 rfl hkC ⟨fun q => hin (Or.inl q), by rw [arrV_size]; exact hlt⟩ g1 (fun q h => by rw [g3] at h; cases h) (by rw [g2]; exact hkC) (by rw [g2]; exact va_assign hcls) rfl rfl hdg fun H1 d1 d2 d3 => ?_
  refine kk H1 _ (hS.put (cV_arr ht hTa hn ?_) d2 d3 _)
  rw [d1, arrV_store]
theorem rcI (C : CX G p s m args meth c cc nL ret own) (hAO : AOs s) (hS : SV G k V H locs) {y : MethodName} {bytes : ByteArray} {maxL : Nat} {rm : Room} {As : List Value} (hM : CtI G l y (.code y bytes maxL none) rm (.ref (G.1 + a) :: As) k V k1 V1)
    {index n : Nat} (hlink : Cond.methodLink own index y ∈ gT) (hinst : Cond.instanceMethod y ∈ gT) (hnm : y.name = "<init>") (hini : Cond.initialized y.cls ∈ gT) (hcode : Cond.code y bytes maxL none ∈ gT)
    (hd : y.cls ≠ "java/lang/invoke/MethodHandle" ∧ y.cls ≠ "java/lang/invoke/VarHandle" ∧ (parseMethodDescriptor y.desc).map (fun d => d.parameters.length) = some n) (hR : rm.frames + 1 ≤ R.frames ∧ 8 + (maxL + 11) + rm.locals ≤ R.locals) (hsz : ls.size = nL) (hn : As.length = n) (hst : st0 = As.reverse ++ .ref (G.1 + a) :: rest) (hW : (rest.map fun v => v.category).sum ≤ 8) (hf : cells + rm.cells ≤ R.cells ∧ slots + rm.slots ≤ R.slots) (hdg : decode cc pc = .ok (.invokespecial index, 3))
    (kk : ∀ (H1 : Heap) (locs1 : List Loc), SV G k1 V1 H1 locs1 → W p l e R s m args below meth c H1 locs1 (cells + rm.cells) (slots + rm.slots) Q (F0 m (pc + 3) ls rest)) : W p l e R s m args below meth c H locs cells slots Q (F0 m pc ls st0) := by
  obtain ⟨hx, hb, hml, -, -, hown, hw, hK⟩ := C
  subst hst
  have hr := va_runI (e := e) (As := As) (rest := rest) ⟨hx, hb, hml, hown, hw⟩ hM ⟨callB_of n hw (good_all hcode) rfl rfl rfl (hw _ hini) (hw _ hlink) hd hR, hnm, hw _ hinst⟩ ⟨PI.blind, fun U hU hWm => ⟨rfl, GK.warm hWm hK, AOs.warm hWm hAO, by rw [hU]; exact hS.1⟩⟩ rfl hn hsz rfl (lv_room (m := m) (pc := pc) (ls := ls) hW) hdg hf (locs := locs) (below := below) (meth := meth) (g := F0 m pc ls (As.reverse ++ .ref (G.1 + a) :: rest))
  intro T hT X
  obtain ⟨v, st₀, t, T', L, h0, X', hL, e1, e2, ⟨hv, hR⟩, st⟩ := hr T hT X
  cases hv
  obtain ⟨t2, a1, b1⟩ := kk T'.heap (locs ++ L) ⟨by rw [e1]; exact hR, fun q hq => by
      rcases List.mem_append.mp hq with h | h
      · exact hS.2 q h
      · exact hL q h⟩ T' rfl X'
  exact ⟨t2, st t2 a1, b1⟩
theorem rtI0 (C : CX G p s m args meth c cc nL none own) (hS : SV G k1 V1 H locs) (hdg : decode cc pc = .ok (.return_, 1)) : W p l e R s m args below meth c H locs cells slots (MQ below (QI G k1 V1) args s cells slots (AB G)) (F0 m pc ls []) := by
  obtain ⟨hx, hb, -, hr, hlocks, -⟩ := C
  exact W.vret hx hb hr (fun t ht _ => ⟨rfl, by rw [ht]; exact hS.1⟩) hS.2 hdg hlocks
end MADE4
