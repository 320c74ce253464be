theorem SV.arr {G : GT} {k : Nat} {V : Nat → Nat → Value} {H : Heap} {locs : List Loc} (h : SV G k V H locs) {a T : Nat} (ha : a < k) (ht : tg a = T) (hT : 8 ≤ T) : H[G.1 + a]? = some (arrV (G.2.2.2.1 T) (ln a) (V a)) := by
  have h1 := h.1.2.2 a ha
  unfold cV at h1
  rw [ht, if_neg (by omega)] at h1
  exact h1
theorem cV_arr {G : GT} {V : Nat → Nat → Value} {a T n : Nat} {H : Heap} {f : Nat → Value} (ht : tg a = T) (hT : 8 ≤ T) (hn : ln a = n) (h : H[G.1 + a]? = some (arrV (G.2.2.2.1 T) n f)) : cV G (uV V a f) a H := by
  unfold cV
  rw [ht, if_neg (by omega), hn, h]
  unfold uV
  rw [if_pos rfl]
section MADE3
variable {p : Program} {l : Launch} {e : Env} {R : Room} {s : State} {m : MethodId} {args : Array Value} {below : List Frame} {meth : Method} {c : Code} {H : Heap} {locs : List Loc} {cells slots : Nat} {Q : State → Prop} {cc : ByteArray} {nL : Nat} {ret : Option FieldType} {own : String} {G : GT} {V : Nat → Nat → Value} {pc k a : Nat} {ls : Array Slot} {rest : List Value}
theorem putV (C : CX G p s m args meth c cc nL ret own) (hS : SV G k V H locs) (ha : a < k) {T : Nat} (ht : tg a = T) {Cn : String} {Tb : u_T} {N : Nat} (hc : vwCl[T]? = some (Cn, Tb, N)) (hN : N = nf T) (hin : ∀ w ∈ u_ws Cn Tb N, w ∈ gT) (ty0 : Nat → FieldType) (hty : ∀ k, k < N → parseFieldDescriptor (Tb k).2.2.1 = some (ty0 k)) (hnm : ∀ a, a < N → ∀ b, b < N → a ≠ b → (Tb a).2.1 ≠ (Tb b).2.1) (j : Nat) (hk : j < N) {index : Nat} {ref nm ds : String} (hT3 : Tb j = (ref, nm, ds, false)) (hlink : Cond.fieldLink own index ref nm ds ∈ gT) {ty : FieldType} {v : Value} (hd : ty0 j = ty) (hn : narrow ty v = v) (hfit : fits ty v = true) (hdg : decode cc pc = .ok (.putfield index, 3))
    (kk : ∀ (H1 : Heap) (locs1 : List Loc), SV G k (uV V a (updV (V a) j v)) H1 locs1 → W p l e R s m args below meth c H1 locs1 cells slots Q (F0 m (pc + 3) ls rest)) : W p l e R s m args below meth c H locs cells slots Q (F0 m pc ls (v :: .ref (G.1 + a) :: rest)) := by
  obtain ⟨hx, hb, -, -, -, hown, hw, hK, -⟩ := C
  have hT8 : T < 8 := (List.getElem?_eq_some_iff.mp hc).1
  have hap := va_apart (own := own) hw hin ty0 hty hnm hK hc
  obtain ⟨cell, q1, q2, q3, q4⟩ := hS.obj ha ht hT8
  obtain ⟨hSl, hfc, kC, hkC, hkind⟩ := hK.1 T _ hc
  obtain ⟨cf, kf, fi, f, hi, hsl⟩ := hSl j hk
  have e1 : (Tb j).1 = ref := congrArg (fun z => z.1) hT3
  have e2 : (Tb j).2.1 = nm := congrArg (fun z => z.2.1) hT3
  have e3 : (Tb j).2.2.1 = ds := congrArg (fun z => z.2.2.1) hT3
  have e4 : (Tb j).2.2.2 = false := congrArg (fun z => z.2.2.2) hT3
  have hlay := hw _ (hin _ (u_in_lay hk))
  unfold u_lay at hlay
  rw [if_neg (by rw [e4]; decide)] at hlay
  have hst := (u_facts hfc hkC (u_lays hw hin hk) hi).1
  have h6 := u_store hfc hkC hkind hlay hi (by rw [hty j hk, hd]) hn hfit
  refine W.putK hx hb (f := f) ⟨hown, hw _ hlink, ⟨_, _, _, by rw [← e1, ← e2, ← e3]; exact hi⟩, hst⟩ (by rw [q2]; exact h6) q1 q3 (by rw [hsl]; exact k2_hasslot (q4 j (by omega))) rfl rfl hdg fun H' d1 d2 d3 => ?_
  rw [hsl] at d1 ⊢
  refine kk H' _ (hS.put ?_ d2 d3 _)
  unfold cV
  rw [ht, if_pos hT8]
  refine t_OB.to (V := updV (V a) j v) ⟨_, d1, q2, q3, t_set q4 (fun x y hx hy => hap x y (by omega) (by omega)) (by omega) _⟩ (fun i _ => ?_)
  unfold uV
  rw [if_pos rfl]
theorem getV (C : CX G p s m args meth c cc nL ret own) (hS : SV G k V H locs) (ha : a < k) {T : Nat} (ht : tg a = T) {Cn : String} {Tb : u_T} {N : Nat} (hc : vwCl[T]? = some (Cn, Tb, N)) (hN : N = nf T) (hin : ∀ w ∈ u_ws Cn Tb N, w ∈ gT) (j : Nat) (hk : j < N) {index : Nat} {ref nm ds : String} (hT3 : ((Tb j).1, (Tb j).2.1, (Tb j).2.2.1) = (ref, nm, ds)) (hlink : Cond.fieldLink own index ref nm ds ∈ gT) {v : Value} (hv : V a j = v) (hdg : decode cc pc = .ok (.getfield index, 3))
    (kk : W p l e R s m args below meth c H locs cells slots Q (F0 m (pc + 3) ls (v :: rest))) : W p l e R s m args below meth c H locs cells slots Q (F0 m pc ls (.ref (G.1 + a) :: rest)) := by
  obtain ⟨hx, hb, -, -, -, hown, hw, hK, -⟩ := C
  obtain ⟨cell, q1, q2, q3, q4⟩ := hS.obj ha ht (List.getElem?_eq_some_iff.mp hc).1
  obtain ⟨hSl, hfc, kC, hkC, hkind⟩ := hK.1 T _ hc
  obtain ⟨cf, kf, fi, f, hi, hsl⟩ := hSl j hk
  have e1 : (Tb j).1 = ref := congrArg (fun z => z.1) hT3
  have e2 : (Tb j).2.1 = nm := congrArg (fun z => z.2.1) hT3
  have e3 : (Tb j).2.2.1 = ds := congrArg (fun z => z.2.2) hT3
  have hst := (u_facts hfc hkC (u_lays hw hin hk) hi).1
  refine W.getf hx hb hown (hw _ hlink) (by rw [← e1, ← e2, ← e3]; exact hi) hst q1 (by rw [q3]; exact fun h => by cases h) (v := v) ?_ rfl rfl hdg kk
  rw [hsl, q4 j (by omega), hv]
theorem asIv (C : CX G p s m args meth c cc nL ret own) (hS : SV G k V H locs) (ha : a < k) (ht : tg a = 8) {n : Nat} (hn : ln a = n) {i v : Int32} (hi : inb i n = true) (hdg : decode cc pc = .ok (.iastore, 1))
    (kk : ∀ (H1 : Heap) (locs1 : List Loc), SV G k (uV V a (updV (V a) (ix i) (.int v))) H1 locs1 → W p l e R s m args below meth c H1 locs1 cells slots Q (F0 m (pc + 1) ls rest)) : W p l e R s m args below meth c H locs cells slots Q (F0 m pc ls (.int v :: .int i :: .ref (G.1 + a) :: rest)) := by
  obtain ⟨hx, hb, -, -, -, hown, hw, hK, -⟩ := C
  have hin := of_decide_eq_true hi
  have hc := hS.arr ha ht (by omega)
  rw [hn] at hc
  refine W.iast hx hb hc ((hK.2 0 _ rfl).1 n _) (fun q => by cases q) (by rw [arrV_size]; exact hin) rfl rfl hdg fun H1 d1 d2 d3 => ?_
  refine kk H1 _ (hS.put (cV_arr ht (by omega) hn ?_) d2 d3 _)
  rw [d1, arrV_store]
theorem asCv (C : CX G p s m args meth c cc nL ret own) (hS : SV G k V H locs) (ha : a < k) (ht : tg a = 10) {n : Nat} (hn : ln a = n) {i v : Int32} (hi : inb i n = true) (hv : narrow .char (.int v) = .int v) (hdg : decode cc pc = .ok (.castore, 1))
    (kk : ∀ (H1 : Heap) (locs1 : List Loc), SV G k (uV V a (updV (V a) (ix i) (.int v))) H1 locs1 → W p l e R s m args below meth c H1 locs1 cells slots Q (F0 m (pc + 1) ls rest)) : W p l e R s m args below meth c H locs cells slots Q (F0 m pc ls (.int v :: .int i :: .ref (G.1 + a) :: rest)) := by
  obtain ⟨hx, hb, -, -, -, hown, hw, hK, -⟩ := C
  have hin := of_decide_eq_true hi
  have hc := hS.arr ha ht (by omega)
  rw [hn] at hc
  refine W.cast hx hb hc ((hK.2 2 _ rfl).1 n _) (fun q => by cases q) (by rw [arrV_size]; exact hin) rfl rfl hdg fun H1 d1 d2 d3 => ?_
  refine kk H1 _ (hS.put (cV_arr ht (by omega) hn ?_) d2 d3 _)
  rw [d1, hv, arrV_store]
theorem alNv (C : CX G p s m args meth c cc nL ret own) (hS : SV G k V H locs) (ha : a < k) {T : Nat} (ht : tg a = T) (hT : 8 ≤ T) {ty : FieldType} (t0 : Nat) (h0 : (tysG G)[t0]? = some (G.2.2.2.1 T, ty)) {n : Nat} (hn : ln a = n) {v : Int32} (hv : Int32.ofNat n = v) (hdg : decode cc pc = .ok (.arraylength, 1))
    (kk : W p l e R s m args below meth c H locs cells slots Q (F0 m (pc + 1) ls (.int v :: rest))) : W p l e R s m args below meth c H locs cells slots Q (F0 m pc ls (.ref (G.1 + a) :: rest)) := by
  obtain ⟨hx, hb, -, -, -, hown, hw, hK, -⟩ := C
  have hc := hS.arr ha ht hT
  rw [hn] at hc
  exact W.alen hx hb hc ((hK.2 t0 _ h0).1 n _) (by rw [arrV_size]; exact hv) rfl rfl hdg kk
end MADE3
