theorem SV.put {G : GT} {k a : Nat} {V : Nat → Nat → Value} {H H1 : Heap} {locs : List Loc} {f : Nat → Value} (h : SV G k V H locs) (hc : cV G (uV V a f) a H1) (z : H1.size = H.size) (oq : ∀ q : Nat, q ≠ G.1 + a → H1[q]? = H[q]?) (j : Nat) : SV G k (uV V a f) H1 (locs ++ [⟨G.1 + a, j⟩]) := by
  refine ⟨⟨by rw [z]; exact h.1.1, fun q hq => by rw [oq q (by omega)]; exact h.1.2.1 q hq, fun b hb => ?_⟩, fun q hq => ?_⟩
  · by_cases e : b = a
    · subst e; exact hc
    · refine (h.1.2.2 b hb).kept ?_ (oq _ (by omega))
      unfold uV
      rw [if_neg e]
  · rcases List.mem_append.mp hq with h1 | h1
    · exact h.2 q h1
    · rw [List.mem_singleton.mp h1]; exact Nat.le_add_right _ _
theorem SV.obj {G : GT} {k : Nat} {V : Nat → Nat → Value} {H : Heap} {locs : List Loc} (h : SV G k V H locs) {a T : Nat} (ha : a < k) (ht : tg a = T) (hT : T < 8) : t_OB (G.1 + a) (G.2.2.1.1 T) (nf T) (G.2.2.1.2 T) H (V a) := by
  have h1 := h.1.2.2 a ha
  unfold cV at h1
  rw [ht, if_pos hT] at h1
  exact h1
section MADE2
variable {p : Program} {l : Launch} {e : Env} {R : Room} {s : State} {m : MethodId} {args : Array Value} {below : List Frame} {meth : Method} {c : Code} {H : Heap} {locs : List Loc} {cells slots : Nat} {Q : State → Prop} {cc : ByteArray} {nL : Nat} {ret : Option FieldType} {own : String} {G : GT} {V : Nat → Nat → Value} {pc k a : Nat} {ls : Array Slot} {rest : List Value}
theorem newQ (C : CX G p s m args meth c cc nL ret own) (hS : SV G k V H locs) {T : Nat} (ht : tg k = T) (hT : 8 ≤ T) (t0 : Nat) {Cn : String} (h0 : (tysG G)[t0]? = some (G.2.2.2.1 T, .object Cn)) {index : Nat} (hcl : Cond.classLink own index Cn ∈ gT) (hover : va_AO Cn s) {n : Int32} {N : Nat} (hN : ln k = N) (hn : ¬ n < 0) (hnN : n.toNatClampNeg = N) (hbytes : N * 4 ≤ 536870912) (hcells : cells + 1 ≤ R.cells) (hslots : slots + N ≤ R.slots) (hdg : decode cc pc = .ok (.anewarray index, 3))
    (kk : ∀ H1 : Heap, SV G (k + 1) (uV V k (fun _ => .null)) H1 locs → W p l e R s m args below meth c H1 locs (cells + 1) (slots + N) Q (F0 m (pc + 3) ls (.ref (G.1 + k) :: rest))) : W p l e R s m args below meth c H locs cells slots Q (F0 m pc ls (.int n :: rest)) := by
  subst hnN
  obtain ⟨hx, hb, -, -, -, hown, hw, hK, -⟩ := C
  refine W.anew hx hb hown (hw _ hcl) (va_AO.use hover) rfl hdg rfl hn hbytes hcells hslots fun cA kA comp f1 f2 f3 f4 => ?_
  generalize hH1 : H.push ({ cls := cA, slots := Array.replicate n.toNatClampNeg .null, vm := .none } : Cell) = H1
  have z1 : H1.size = H.size + 1 := by rw [← hH1, Array.size_push]
  have e1 : H1[H.size]? = some (arrV cA n.toNatClampNeg (fun _ => .null)) := by rw [← hH1, Array.getElem?_push_size, ← arrV_new]
  have o1 : ∀ q : Nat, q < H.size → H1[q]? = H[q]? := fun q hq => by rw [← hH1, Array.getElem?_push, if_neg (Nat.ne_of_lt hq)]
  have hfc := (hK.2 t0 _ h0).2
  have hsz := hS.1.1
  rw [hsz] at z1 e1 o1
  rw [hsz]
  refine kk H1 (hS.grow z1 o1 ?_)
  unfold cV
  rw [ht, if_neg (by omega), hN]
  have : cA = G.2.2.2.1 T := by
    obtain ⟨-, -, -, -, -, h2⟩ := hfc
    rw [f1] at h2
    exact Option.some.inj h2
  rw [← this, e1]
  unfold uV
  rw [if_pos rfl]
theorem putF (C : CX G p s m args meth c cc nL ret own) (hS : SV G k V H locs) (ha : a < k) {T : Nat} (ht : tg a = T) {Tb : u_T} {N : Nat} (hc : vwCl[T]? = some (own, Tb, N)) (hN : N = nf T) (hin : ∀ w ∈ u_ws own Tb N, w ∈ gT) (ty0 : Nat → FieldType) (hty : ∀ k, k < N → parseFieldDescriptor (Tb k).2.2.1 = some (ty0 k)) (hnm : ∀ a, a < N → ∀ b, b < N → a ≠ b → (Tb a).2.1 ≠ (Tb b).2.1) (j : Nat) (hk : j < N) {index : Nat} {nm ds : String} (hT3 : Tb j = (own, nm, ds, true)) (hlink : Cond.fieldLink own index own nm ds ∈ gT) (hin2 : meth.name = "<init>") {ty : FieldType} {v : Value} (hd : ty0 j = ty) (hn : narrow ty v = v) (hfit : fits ty v = true) (hdg : decode cc pc = .ok (.putfield index, 3))
    (kk : ∀ (H1 : Heap) (locs1 : List Loc), SV G k (uV V a (updV (V a) j v)) H1 locs1 → W p l e R s m args below meth c H1 locs1 cells slots Q (F0 m (pc + 3) ls rest)) : W p l e R s m args below meth c H locs cells slots Q (F0 m pc ls (v :: .ref (G.1 + a) :: rest)) := by
  obtain ⟨hx, hb, -, -, -, hown, hw, hK, -⟩ := C
  have hT8 : T < 8 := (List.getElem?_eq_some_iff.mp hc).1
  have hap := va_apart (own := own) hw hin ty0 hty hnm hK hc
  obtain ⟨cell, q1, q2, q3, q4⟩ := hS.obj ha ht hT8
  obtain ⟨hSl, hfc, kC, hkC, hkind⟩ := hK.1 T _ hc
  obtain ⟨cf, kf, fi, f, hi, hsl⟩ := hSl j hk
  have e1 : (Tb j).1 = own := congrArg (fun z => z.1) hT3
  have e2 : (Tb j).2.1 = nm := congrArg (fun z => z.2.1) hT3
  have e3 : (Tb j).2.2.1 = ds := congrArg (fun z => z.2.2.1) hT3
  have e4 : (Tb j).2.2.2 = true := congrArg (fun z => z.2.2.2) hT3
  have hlay := hw _ (hin _ (u_in_lay hk))
  unfold u_lay at hlay
  rw [if_pos e4] at hlay
  have hst := (u_facts hfc hkC (u_lays hw hin hk) hi).1
  have hcf : m.cls = cf := by
    obtain ⟨_, _, c', _, _, _, -, -, hf', -, -, -, hown2, -⟩ := Cond.laysFinal_spec hlay
    have e5 : c' = cf := by have := hi.symm.trans hf'; simp at this; exact this.1.symm
    rw [e1] at hown2
    rw [← e5]; exact Option.some.inj (hown.symm.trans hown2)
  have h6 := u_fits hfc hkC hkind (Or.inr hlay) hi (by rw [hty j hk, hd]) hn hfit
  refine W.putFinK hx hb hown (hw _ hlink) (by rw [← e1, ← e2, ← e3]; exact hi) hst hcf hin2 (by rw [q2]; exact h6) q1 q3 (by rw [hsl]; exact k2_hasslot (q4 j (by omega))) rfl rfl hdg fun H' d1 d2 d3 => ?_
  rw [hsl] at d1 ⊢
  refine kk H' _ (hS.put ?_ d2 d3 _)
  unfold cV
  rw [ht, if_pos hT8]
  refine t_OB.to (V := updV (V a) j v) ⟨_, d1, q2, q3, t_set q4 (fun x y hx hy => hap x y (by omega) (by omega)) (by omega) _⟩ (fun i _ => ?_)
  unfold uV
  rw [if_pos rfl]
theorem objI (C : CX G p s m args meth c cc nL ret own) {index : Nat} (hlink : Cond.methodLink own index Lib.objectInit ∈ gT) (hinst : Cond.instanceMethod Lib.objectInit ∈ gT) (hcode : Cond.code Lib.objectInit ⟨#[0xb1]⟩ 1 none ∈ gT) (hsz : ls.size = nL) {o : Nat} (hW : (rest.map fun v => v.category).sum ≤ 8) (hR : 1 ≤ R.frames ∧ 20 ≤ R.locals) (hdg : decode cc pc = .ok (.invokespecial index, 3))
    (kk : W p l e R s m args below meth c H locs cells slots Q (F0 m (pc + 3) ls rest)) : W p l e R s m args below meth c H locs cells slots Q (F0 m pc ls (.ref o :: rest)) := by
  obtain ⟨hx, hb, hml, -, -, hown, hw, -⟩ := C
  refine W.objInit hx hb hown (hw _ hlink) (hw _ hinst) (hw _ hcode) rfl (by rw [hml]; exact hsz) rfl hdg hR.1 ?_ kk
  have : 2 * (F0 m pc ls (.ref o :: rest)).monitorRoom = 0 := rfl
  omega
end MADE2
