def QC (G : GT) (o : Option Value) (y : XS) : Array Value → State → Outcome → State → Prop := fun _ _ oc t => oc = .returned o ∧ RP G y t.heap
def PCn (G : GT) (av : List Value) (x : XS) : Array Value → State → Prop := va_Pc av (fun U => GK G U ∧ RP G x U.heap)
def Ct (G : GT) (l : Launch) (y : MethodName) (cd : Cond) (rm : Room) (av : List Value) (x : XS) (o : Option Value) (z : XS) : Prop := Met l y (cd :: gT) rm (PCn G av x) (QC G o z) 0 0 (AB G)
theorem Ct.of {G : GT} {l : Launch} {y : MethodName} {cc : ByteArray} {maxL : Nat} {ret : Option FieldType} {rm : Room} {av : List Value} {x z : XS} {o : Option Value} (hy : plainName y.cls = true) (hlen : (lg_sl av).length ≤ maxL)
    (body : ∀ (p : Program) (e : Env) (s : State) (m : MethodId) (args : Array Value) (below : List Frame) (meth : Method) (c : Code), CX G p s m args meth c cc maxL ret y.cls → ∀ ls : Array Slot, lv_has ls maxL (lv_args 0 av) → SR G x s.heap [] →
      W p l e rm s m args below meth c s.heap [] 0 0 (MQ below (QC G o z) args s 0 0 (AB G)) (F0 m 0 ls [])) : Ct G l y (.code y cc maxL ret) rm av x o z := by
  refine Met.ofW (cc := cc) (maxL := maxL) (ret := ret) hy rfl ?_
  intro p e s m args below meth c s₁ B hml hv
  obtain ⟨rfl, hK, hR⟩ := hv
  have hts := atoms_spec (ws := Cond.code y cc maxL ret :: gT) B.pre
  have hown : s.vm.findClass y.cls = some m.cls := findClass_of_methodNamed B.named
  rw [lg_entry_eq]
  exact body p e s m _ below meth c ⟨B.exec, B.bytes, hml, B.returns, B.notSynchronized, hown, fun w h => hts w (List.mem_cons_of_mem _ h), hK⟩ _ (lv_entry av hlen) ⟨hR, fun q h => by cases h⟩
theorem PCn.blind {G : GT} {av : List Value} {x : XS} : FrameBlind (PCn G av x) := fun a U g mk q => by
  obtain ⟨q0, q1, q2⟩ := q
  exact ⟨q0, GK.same rfl q1, q2⟩
theorem good_all {cd : Cond} (h : cd ∈ gT) : GoodIn gT (cd :: gT) := fun w hw => by
  have hm : w ∈ gT := by
    rcases List.mem_cons.mp hw with rfl | h1
    · exact h
    · exact h1
  exact ⟨hm, good_of_word ((List.mem_filter.mp hm).2)⟩
section RC
variable {p : Program} {l : Launch} {e : Env} {R : Room} {s : State} {m : MethodId} {args : Array Value} {below : List Frame} {meth : Method} {c : Code} {H : Heap} {locs : List Loc} {cells slots : Nat} {Q : State → Prop} {cc : ByteArray} {nL : Nat} {ret : Option FieldType} {own : String} {G : GT} {x z : XS} {pc : Nat} {ls : Array Slot} {rest st0 : List Value} {a : Nat}
theorem rcK {o : Option Value} {av : Array Value} (hr : va_Run p l e R s m args below meth c H locs cells slots 0 0 (F0 m pc ls st0) rest (QC G o z av) (AB G)) (hS : SR G x H locs)
    (kk : ∀ (H1 : Heap) (locs1 : List Loc), SR G z H1 locs1 → W p l e R s m args below meth c H1 locs1 cells slots Q (F0 m (pc + 3) ls (o.toList ++ rest))) : W p l e R s m args below meth c H locs cells slots Q (F0 m pc ls st0) := by
  intro T hT X
  obtain ⟨v, st₀, t, T', L, h0, X', hL, e1, e2, ⟨hv, hR⟩, st⟩ := hr T hT X
  cases hv
  obtain ⟨t2, a1, b1⟩ := kk T'.heap (locs ++ L) ⟨by rw [e1]; exact hR, fun q hq => by
      rcases List.mem_append.mp hq with h | h
      · exact hS.2 q h
      · exact hL q h⟩ T' rfl X'
  exact ⟨t2, st t2 a1, b1⟩
theorem rcV (C : CX G p s m args meth c cc nL ret own) (hS : SR G x H locs) {T : Nat} (ht : tg a = T) {Cn : String} {Tb : u_T} {N : Nat} (hc : vwCl[T]? = some (Cn, Tb, N)) {y : MethodName} {bytes : ByteArray} {maxL : Nat} {rt : Option FieldType} {rm : Room} {As : List Value} {o : Option Value} (hM : Ct G l y (.code y bytes maxL rt) rm (.ref (G.1 + a) :: As) x o z)
    {index n : Nat} (hyc : y.cls = Cn) (hlink : Cond.methodLink own index y ∈ gT) (hinst : Cond.instanceMethod y ∈ gT) (hsel : Cond.selects Cn y y ∈ gT) (hini : Cond.initialized y.cls ∈ gT) (hcode : Cond.code y bytes maxL rt ∈ gT)
    (hd : y.cls ≠ "java/lang/invoke/MethodHandle" ∧ y.cls ≠ "java/lang/invoke/VarHandle" ∧ (parseMethodDescriptor y.desc).map (fun d => d.parameters.length) = some n) (hR0 : rm.cells = 0 ∧ rm.slots = 0) (hR : rm.frames + 1 ≤ R.frames ∧ 8 + (maxL + 11) + rm.locals ≤ R.locals) (hsz : ls.size = nL) (hn : As.length = n) (hst : st0 = As.reverse ++ .ref (G.1 + a) :: rest) (hW : (rest.map fun v => v.category).sum ≤ 8) (hf : cells ≤ R.cells ∧ slots ≤ R.slots) (hdg : decode cc pc = .ok (.invokevirtual index, 3))
    (kk : ∀ (H1 : Heap) (locs1 : List Loc), SR G z H1 locs1 → W p l e R s m args below meth c H1 locs1 cells slots Q (F0 m (pc + 3) ls (o.toList ++ rest))) : W p l e R s m args below meth c H locs cells slots Q (F0 m pc ls st0) := by
  obtain ⟨hx, hb, hml, -, -, hown, hw, hK⟩ := C
  subst hst
  obtain ⟨cell, q1, q2, q3, -⟩ := hS.1.obj ht (List.getElem?_eq_some_iff.mp hc).1
  have hfc := (hK.1.1 T _ hc).2.1
  refine rcK (va_runV (C := Cn) (As := As) (rest := rest) ⟨hx, hb, hml, hown, hw⟩ hM ⟨callB_of n hw (good_all hcode) rfl hR0.1 hR0.2 (hw _ hini) (hw _ hlink) hd hR, hw _ hinst, hw _ hsel⟩ ⟨PCn.blind, ⟨cell, q1, by rw [q3]; rfl, by rw [q2]; exact hfc⟩, fun U hU hWm => ⟨rfl, GK.warm hWm hK, by rw [hU]; exact hS.1⟩⟩ rfl hn hsz rfl (lv_room hW) hdg hf) hS kk
theorem rcS (C : CX G p s m args meth c cc nL ret own) (hS : SR G x H locs) {y : MethodName} {bytes : ByteArray} {maxL : Nat} {rt : Option FieldType} {rm : Room} {As : List Value} {o : Option Value} (hM : Ct G l y (.code y bytes maxL rt) rm As x o z)
    {index n : Nat} (hlink : Cond.methodLink own index y ∈ gT) (hstat : Cond.static y ∈ gT) (hini : Cond.initialized y.cls ∈ gT) (hcode : Cond.code y bytes maxL rt ∈ gT)
    (hd : y.cls ≠ "java/lang/invoke/MethodHandle" ∧ y.cls ≠ "java/lang/invoke/VarHandle" ∧ (parseMethodDescriptor y.desc).map (fun d => d.parameters.length) = some n) (hR0 : rm.cells = 0 ∧ rm.slots = 0) (hR : rm.frames + 1 ≤ R.frames ∧ 8 + (maxL + 11) + rm.locals ≤ R.locals) (hsz : ls.size = nL) (hn : As.length = n) (hst : st0 = As.reverse ++ rest) (hW : (rest.map fun v => v.category).sum ≤ 8) (hf : cells ≤ R.cells ∧ slots ≤ R.slots) (hdg : decode cc pc = .ok (.invokestatic index, 3))
    (kk : ∀ (H1 : Heap) (locs1 : List Loc), SR G z H1 locs1 → W p l e R s m args below meth c H1 locs1 cells slots Q (F0 m (pc + 3) ls (o.toList ++ rest))) : W p l e R s m args below meth c H locs cells slots Q (F0 m pc ls st0) := by
  obtain ⟨hx, hb, hml, -, -, hown, hw, hK⟩ := C
  subst hst
  refine rcK (va_runS (As := As) (rest := rest) ⟨hx, hb, hml, hown, hw⟩ hM ⟨callB_of n hw (good_all hcode) rfl hR0.1 hR0.2 (hw _ hini) (hw _ hlink) hd hR, hw _ hstat⟩ ⟨PCn.blind, fun U hU hWm => ⟨rfl, GK.warm hWm hK, by rw [hU]; exact hS.1⟩⟩ rfl hn hsz rfl (lv_room hW) hdg hf) hS kk
theorem rtI (C : CX G p s m args meth c cc nL (some .int) own) (hS : SR G x H locs) {v r : Int32} (hf : some (v, x) = some (r, z)) (hdg : decode cc pc = .ok (.ireturn, 1)) : W p l e R s m args below meth c H locs cells slots (MQ below (QC G (some (.int r)) z) args s cells slots (AB G)) (F0 m pc ls [.int v]) := by
  cases hf
  obtain ⟨hx, hb, -, hr, hlocks, -⟩ := C
  exact W.iret hx hb hr (fun t ht _ => ⟨rfl, by rw [ht]; exact hS.1⟩) hS.2 hdg hlocks
theorem rtZ (C : CX G p s m args meth c cc nL (some .boolean) own) (hS : SR G x H locs) {v r : Int32} (hn : narrow .boolean (.int v) = .int v) (hf : some (v, x) = some (r, z)) (hdg : decode cc pc = .ok (.ireturn, 1)) : W p l e R s m args below meth c H locs cells slots (MQ below (QC G (some (.int r)) z) args s cells slots (AB G)) (F0 m pc ls [.int v]) := by
  cases hf
  obtain ⟨hx, hb, -, hr, hlocks, -⟩ := C
  exact W.zret hx hb hr hn (fun t ht _ => ⟨rfl, by rw [ht]; exact hS.1⟩) hS.2 hdg hlocks
theorem rtV (C : CX G p s m args meth c cc nL none own) (hS : SR G x H locs) {r : Unit} (hf : some ((), x) = some (r, z)) (hdg : decode cc pc = .ok (.return_, 1)) : W p l e R s m args below meth c H locs cells slots (MQ below (QC G none z) args s cells slots (AB G)) (F0 m pc ls []) := by
  cases hf
  obtain ⟨hx, hb, -, hr, hlocks, -⟩ := C
  exact W.vret hx hb hr (fun t ht _ => ⟨rfl, by rw [ht]; exact hS.1⟩) hS.2 hdg hlocks
theorem rtJ (C : CX G p s m args meth c cc nL (some .long) own) (hS : SR G x H locs) {v r : Int64} (hf : some (v, x) = some (r, z)) (hdg : decode cc pc = .ok (.lreturn, 1)) : W p l e R s m args below meth c H locs cells slots (MQ below (QC G (some (.long r)) z) args s cells slots (AB G)) (F0 m pc ls [.long v]) := by
  cases hf
  obtain ⟨hx, hb, -, hr, hlocks, -⟩ := C
  exact W.lret hx hb hr (fun t ht _ => ⟨rfl, by rw [ht]; exact hS.1⟩) hS.2 hdg hlocks
theorem lwv_or (b : Nat) (v : Int32) : lwv b v = .null ∨ ∃ a, lwv b v = .ref a := by
  unfold lwv
  split
  · exact Or.inl rfl
  · exact Or.inr ⟨_, rfl⟩
theorem rtL (C : CX G p s m args meth c cc nL (some (.object "ShoeCorner$Text")) own) (hS : SR G x H locs) {v r : Int32} (hf : some (v, x) = some (r, z)) (hdg : decode cc pc = .ok (.areturn, 1)) : W p l e R s m args below meth c H locs cells slots (MQ below (QC G (some (lwv G.1 r)) z) args s cells slots (AB G)) (F0 m pc ls [lwv G.1 v]) := by
  cases hf
  obtain ⟨hx, hb, -, hr, hlocks, -⟩ := C
  exact W.aret hx hb hr (Or.inl ⟨_, rfl⟩) (lwv_or _ _) (fun t ht _ => ⟨rfl, by rw [ht]; exact hS.1⟩) hS.2 hdg hlocks
theorem topI {v y : Int32} (h : y = v) (k : W p l e R s m args below meth c H locs cells slots Q (F0 m pc ls (.int y :: rest))) : W p l e R s m args below meth c H locs cells slots Q (F0 m pc ls (.int v :: rest)) := h ▸ k
theorem topJ {v y : Int64} (h : y = v) (k : W p l e R s m args below meth c H locs cells slots Q (F0 m pc ls (.long y :: rest))) : W p l e R s m args below meth c H locs cells slots Q (F0 m pc ls (.long v :: rest)) := h ▸ k
theorem tswI (hx : p.tables.exec = Jvm.exec) (hb : c.code = cc) {dflt lo hi : Int} {offs : Array Int} {len : Nat} {v : Int32} {k : Int32} {off : Int} {tgt : Nat} (hdg : decode cc pc = .ok (.tableswitch dflt lo hi offs, len)) (hv : v = k) (h1 : decide (¬ k.toInt < lo ∧ ¬ hi < k.toInt) = true) (ho : offs[(k.toInt - lo).toNat]? = some off) (ht : (pc : Int) + off = (tgt : Int))
    (kk : W p l e R s m args below meth c H locs cells slots Q (F0 m tgt ls rest)) : W p l e R s m args below meth c H locs cells slots Q (F0 m pc ls (.int v :: rest)) := by
  subst hv
  have h2 := of_decide_eq_true h1
  exact lv_tableIn hx hb hdg h2.1 h2.2 ho ht kk
theorem lswI (hx : p.tables.exec = Jvm.exec) (hb : c.code = cc) {dflt : Int} {ps : Array (Int × Int)} {len : Nat} {v : Int32} {k : Int32} {off : Int} {tgt : Nat} (hdg : decode cc pc = .ok (.lookupswitch dflt ps, len)) (hp : (ps.toList.zip (ps.toList.drop 1)).all (fun (a, next) => a.1 < next.1) = true) (hv : v = k) (ho : Op.lookupswitch.offset ps.toList dflt k.toInt = off) (ht : (pc : Int) + off = (tgt : Int))
    (kk : W p l e R s m args below meth c H locs cells slots Q (F0 m tgt ls rest)) : W p l e R s m args below meth c H locs cells slots Q (F0 m pc ls (.int v :: rest)) := by
  subst hv
  exact lv_lookup hx hb hdg hp ho ht kk
theorem nullL (hx : p.tables.exec = Jvm.exec) (hb : c.code = cc) {v : Int32} {off : Int} {tgt : Nat} (hdg : decode cc pc = .ok (.ifnull off, 3)) (ht : (pc : Int) + off = (tgt : Int))
    (kt : v = 0 → W p l e R s m args below meth c H locs cells slots Q (F0 m tgt ls rest)) (kf : ¬ v = 0 → W p l e R s m args below meth c H locs cells slots Q (F0 m (pc + 3) ls rest)) : W p l e R s m args below meth c H locs cells slots Q (F0 m pc ls (lwv G.1 v :: rest)) := by
  by_cases h : v = 0
  · have e1 : lwv G.1 v = .null := by simp [lwv, h]
    rw [e1]
    exact lv_ifnullN hx hb hdg ht (kt h)
  · have e1 : lwv G.1 v = .ref (G.1 + ix v) := by simp [lwv, h]
    rw [e1]
    exact lv_ifnull hx hb hdg (kf h)
theorem nnulL (hx : p.tables.exec = Jvm.exec) (hb : c.code = cc) {v : Int32} {off : Int} {tgt : Nat} (hdg : decode cc pc = .ok (.ifnonnull off, 3)) (ht : (pc : Int) + off = (tgt : Int))
    (kt : ¬ v = 0 → W p l e R s m args below meth c H locs cells slots Q (F0 m tgt ls rest)) (kf : v = 0 → W p l e R s m args below meth c H locs cells slots Q (F0 m (pc + 3) ls rest)) : W p l e R s m args below meth c H locs cells slots Q (F0 m pc ls (lwv G.1 v :: rest)) := by
  by_cases h : v = 0
  · have e1 : lwv G.1 v = .null := by simp [lwv, h]
    rw [e1]
    exact lv_ifnonnullN hx hb hdg (kf h)
  · have e1 : lwv G.1 v = .ref (G.1 + ix v) := by simp [lwv, h]
    rw [e1]
    exact lv_ifnonnull hx hb hdg ht (kt h)
end RC
