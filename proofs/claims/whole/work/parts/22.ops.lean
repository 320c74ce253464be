theorem ev_sheet7 {v : Int32} {x : XS} : fX7_isSheet v x = some (if 0 ≤ v ∧ v ≤ 3 then 1 else 0, x) := by
  unfold fX7_isSheet; grind
theorem ev_sheet8 {v : Int32} {y : XS} : fX8_isSheet v y = some (if 0 ≤ v ∧ v ≤ 3 then 1 else 0, y) := by
  unfold fX8_isSheet
  rw [ev_in, bd_e, gd_e isB_if]
theorem ev_slot7 {v : Int32} {x : XS} : fX7_isSlot v x = some (if 0 ≤ v ∧ v ≤ 4 then 1 else 0, x) := by
  unfold fX7_isSlot; grind
theorem ev_slot8 {v : Int32} {y : XS} : fX8_isSlot v y = some (if 0 ≤ v ∧ v ≤ 4 then 1 else 0, y) := by
  unfold fX8_isSlot
  rw [ev_in, bd_e, gd_e isB_if]
theorem R2.sheet {x y : XS} {v : Int32} (h : CI x y) {A B : XS → Option (Int32 × XS)} (hi : ∀ i, i < 4 → v = nI i → RCI (A x) (B y)) : RCI (bd (fX7_isSheet v x) (fun r x2 => if r = 0 then some (-1000000001, x2) else A x2)) (bd (fX8_isSheet v y) (fun r x2 => if r = 0 then some (-1000000001, x2) else B x2)) := by
  rw [ev_sheet7, ev_sheet8, bdif, bdif]
  refine R2.ite (fun c => ?_) (fun _ => RCI.same h)
  obtain ⟨i, hi1, e⟩ := kind_ix (b := 3) (by omega) c
  exact hi i (by omega) e
theorem R2.slot {x y : XS} {v : Int32} (h : CI x y) {A B : XS → Option (Int32 × XS)} (hi : ∀ i, i < 5 → v = nI i → RCI (A x) (B y)) : RCI (bd (fX7_isSlot v x) (fun r x2 => if r = 0 then some (-1000000001, x2) else A x2)) (bd (fX8_isSlot v y) (fun r x2 => if r = 0 then some (-1000000001, x2) else B x2)) := by
  rw [ev_slot7, ev_slot8, bdif, bdif]
  refine R2.ite (fun c => ?_) (fun _ => RCI.same h)
  obtain ⟨i, hi1, e⟩ := kind_ix (b := 4) (by omega) c
  exact hi i (by omega) e
theorem renew_loop {a : Nat} : ∀ (d k : Nat) (x : XS), k + d = 24 → ∀ f, d < f → ∃ x1, lX2_renew_h24 a f (nI k) x = some ((), x1) ∧ (∀ j, j ≠ a + 1 → x1 j = x j) ∧ ∀ q, x1 (a + 1) q = if k ≤ q ∧ q < 24 then 0 else x (a + 1) q := by
  intro d
  induction d with
  | zero =>
    intro k x hk f hf
    obtain ⟨f, rfl⟩ : ∃ q, f = q + 1 := ⟨f - 1, by omega⟩
    refine ⟨x, ?_, fun _ _ => rfl, fun q => by rw [if_neg (by omega)]⟩
    show bX2_renew_h24 a (lX2_renew_h24 a f) (nI k) x = _
    unfold bX2_renew_h24
    rw [show k = 24 by omega, if_pos (by decide)]
  | succ d ih =>
    intro k x hk f hf
    obtain ⟨f, rfl⟩ : ∃ q, f = q + 1 := ⟨f - 1, by omega⟩
    obtain ⟨x1, e1, e2, e3⟩ := ih (k + 1) (wr x (a + 1) k 0) (by omega) f (by omega)
    refine ⟨x1, ?_, fun j hj => by rw [e2 j hj, wr_ne hj], fun q => ?_⟩
    · show bX2_renew_h24 a (lX2_renew_h24 a f) (nI k) x = _
      unfold bX2_renew_h24
      rw [if_neg (show ¬ (24 : Int32) ≤ nI k by rw [show (24 : Int32) = nI 24 from rfl]; exact nI_ge (by omega) (by omega)), gd_e (inb_nI (by omega) (by omega)), st_e, st_e, ix_nI (by omega), nI_1]
      exact e1
    · rw [e3, wr_at, if_pos rfl]
      grind
theorem ev_renew {a : Nat} {s : Int32} {c : Nat} {x : XS} (hc : c ≤ 24) : ∃ x1, fX2_renew a s (nI c) x = some ((), x1) ∧ (∀ j, j ≠ a → j ≠ a + 1 → x1 j = x j) ∧ x1 a 0 = s ∧ x1 a 1 = nI c ∧ ∀ q, q < 24 → x1 (a + 1) q = 0 := by
  obtain ⟨x1, e1, e2, e3⟩ := renew_loop (a := a) 24 0 (wr (wr x a 0 s) a 1 (nI c)) (by omega) FU (by unfold FU; omega)
  refine ⟨x1, ?_, fun j h1 h2 => by rw [e2 j h2, wr_ne h1, wr_ne h1], ?_, ?_, fun q hq => by rw [e3, if_pos ⟨by omega, hq⟩]⟩
  · unfold fX2_renew fX2_renew_h24
    have m1 : jmin (nI c) 24 = nI c := by
      unfold jmin
      rw [if_neg (by rw [show (24 : Int32) = nI 24 from rfl]; exact nI_nlt (a := 24) (b := c) hc (by omega))]
    have m2 : jmax 0 (nI c) = nI c := by
      unfold jmax
      by_cases q : 0 < nI c
      · rw [if_pos q]
      · rw [if_neg q]
        have := nI_pos' (n := c) (by omega)
        grind
    rw [st_e, st_e, m1, st_e, m2, st_e]
    exact e1
  · rw [e2 a (by omega), wr_at, if_pos rfl, if_neg (by omega), wr_at, if_pos rfl, if_pos rfl]
  · rw [e2 a (by omega), wr_at, if_pos rfl, if_pos rfl]
theorem cI24 (i k : Nat) : 24 * nI i + nI k = nI (24 * i + k) := by
  rw [show (24 : Int32) = nI 24 from rfl, pk_mul, nI_add]
theorem sheet_loop {i : Nat} (hi : i < 4) : ∀ (d k : Nat) (y : XS), k + d = 24 → ∀ f, d < f → ∃ y1, lX8_sheet_h66 f (nI i) (nI k) y = some (y 113 i, y1) ∧ (∀ j, j ≠ 114 → y1 j = y j) ∧ ∀ q, y1 114 q = if 24 * i + k ≤ q ∧ q < 24 * i + 24 then 0 else y 114 q := by
  intro d
  induction d with
  | zero =>
    intro k y hk f hf
    obtain ⟨f, rfl⟩ : ∃ q, f = q + 1 := ⟨f - 1, by omega⟩
    refine ⟨y, ?_, fun _ _ => rfl, fun q => by rw [if_neg (by omega)]⟩
    show bX8_sheet_h66 (lX8_sheet_h66 f) (nI i) (nI k) y = _
    unfold bX8_sheet_h66
    rw [show k = 24 by omega, if_pos (by decide), gd_e (inb_nI hi (by omega)), ix_nI (by omega)]
  | succ d ih =>
    intro k y hk f hf
    obtain ⟨f, rfl⟩ : ∃ q, f = q + 1 := ⟨f - 1, by omega⟩
    obtain ⟨y1, e1, e2, e3⟩ := ih (k + 1) (wr y 114 (24 * i + k) 0) (by omega) f (by omega)
    refine ⟨y1, ?_, fun j hj => by rw [e2 j hj, wr_ne hj], fun q => ?_⟩
    · show bX8_sheet_h66 (lX8_sheet_h66 f) (nI i) (nI k) y = _
      unfold bX8_sheet_h66
      rw [if_neg (show ¬ (24 : Int32) ≤ nI k by rw [show (24 : Int32) = nI 24 from rfl]; exact nI_ge (by omega) (by omega)), cI24, gd_e (inb_nI (by omega) (by omega)), st_e, st_e, ix_nI (by omega), nI_1, e1, wr_ne (by omega)]
    · rw [e3, wr_at, if_pos rfl]
      grind
theorem sheet_rel {n nt i c : Nat} {x y : XS} {s : Int32} (h : CN n nt x y) (hi : i < 4) (hs : rg (-1) 1 s) (hc : c ≤ 24) : ∃ x1 y1, fX2_renew (71 + 2 * i) s (nI c) x = some ((), x1) ∧ fX8_sheet_h66 (nI i) 0 (wr (wr y 112 i s) 113 i (nI c)) = some (nI c, y1) ∧ CN n nt x1 y1 := by
  obtain ⟨x1, e1, e2, e3, e4, e5⟩ := ev_renew (a := 71 + 2 * i) (s := s) (x := x) hc
  obtain ⟨y1, f1, f2, f3⟩ := sheet_loop hi 24 0 (wr (wr y 112 i s) 113 i (nI c)) (by omega) FU (by unfold FU; omega)
  rw [show wr (wr y 112 i s) 113 i (nI c) 113 i = nI c by rw [wr_at, if_pos rfl, if_pos rfl]] at f1
  have y112 : ∀ q, y1 112 q = if q = i then s else y 112 q := fun q => by rw [f2 112 (by omega), wr_ne (by omega), wr_at, if_pos rfl]
  have y113 : ∀ q, y1 113 q = if q = i then nI c else y 113 q := fun q => by rw [f2 113 (by omega), wr_at, if_pos rfl, wr_ne (by omega)]
  have y114 : ∀ q, y1 114 q = if 24 * i ≤ q ∧ q < 24 * i + 24 then 0 else y 114 q := fun q => by rw [f3, wr_ne (by omega), wr_ne (by omega)]; rfl
  refine ⟨x1, y1, e1, f1, h.six (fun j hj => e2 j (by omega) (by omega)) (fun j a b c _ => by rw [f2 j c, wr_ne b, wr_ne a]) (fun q hq => ?_)⟩
  by_cases e : q = i
  · subst e
    refine ⟨by rw [e3, y112, if_pos rfl], by rw [y112, if_pos rfl]; exact hs, by rw [e4, y113, if_pos rfl], ⟨c, hc, by rw [y113, if_pos rfl]⟩, fun k hk => ?_⟩
    rw [show 72 + 2 * q = 71 + 2 * q + 1 by omega, e5 k hk, y114, if_pos (by omega)]
    exact ⟨rfl, Or.inr (by unfold rg; decide)⟩
  · exact (h.2.2.2.2.2.1 q hq).cong (e2 _ (by omega) (by omega)) (e2 _ (by omega) (by omega)) (by rw [y112, if_neg e]) (by rw [y113, if_neg e]) (fun k hk => by rw [y114, if_neg (by omega)])
theorem op_sheet {x y : XS} {v s c : Int32} (h : CI x y) : RCI (fX7_sheet v s c x) (fX8_sheet v s c y) := by
  have h0 := h
  obtain ⟨n, nt, h⟩ := h
  unfold fX7_sheet fX8_sheet
  have bad : RCI (some (-1000000001, x)) (some (-1000000001, y)) := RCI.same h0
  refine R2.sheet h0 (fun i hi e => ?_)
  subst e
  have i4 : inb (nI i) 4 = true := inb_nI hi (by omega)
  rw [ev_in, bdif, ix_nI (by omega)]
  by_cases c1 : -1 ≤ s ∧ s ≤ 1
  · rw [if_neg (show ¬ s < -1 by grind), if_pos c1.2, if_pos c1]
    unfold fX8_sheet_h41
    rw [ix_nI (by omega)]
    by_cases c2 : s = -1
    · rw [if_pos c2, if_pos (show s < 0 by grind), if_pos (show s < 0 by grind)]
      refine R2.gL i4 (R2.gR i4 (R2.sR ?_))
      rw [if_neg (show ¬ 0 ≤ s by grind)]
      refine R2.gR i4 (R2.sR ?_)
      obtain ⟨x1, y1, e1, e2, e3⟩ := sheet_rel (c := 0) (s := s) h hi c1 (by omega)
      rw [show (-1 : Int32) = s from c2.symm, show (0 : Int32) = nI 0 from rfl, e1, bd_e, show nI 0 = 0 from rfl]
      rw [show nI 0 = 0 from rfl] at e2
      rw [e2]
      exact R2.ret ⟨rfl, n, nt, e3⟩
    · rw [if_neg c2, if_neg (show ¬ s < 0 by grind), if_neg (show ¬ s < 0 by grind)]
      refine R2.ite (fun c3 => ?_) (fun _ => bad)
      refine R2.ite (fun c4 => ?_) (fun _ => RCI.same h0)
      obtain ⟨k, hk, rfl⟩ := kind_ix (v := c) (b := 24) (by omega) ⟨c4, c3⟩
      refine R2.gL i4 (R2.gR i4 (R2.sR ?_))
      rw [if_pos (show 0 ≤ s by grind)]
      refine R2.gR i4 (R2.sR ?_)
      obtain ⟨x1, y1, e1, e2, e3⟩ := sheet_rel (c := k) (s := s) h hi c1 hk
      rw [e1, bd_e, e2]
      exact R2.ret ⟨rfl, n, nt, e3⟩
  · rw [if_neg c1]
    exact R2.ifL (fun _ => bad) (fun _ => R2.ifL (fun _ => absurd c1 (by grind)) (fun _ => bad))
theorem ev_missing {a : Nat} {x : XS} : fX2_isMissing a x = some (if x a 0 = -1 then 1 else 0, x) := by
  unfold fX2_isMissing; grind
theorem ev_hasPlace {a : Nat} {v : Int32} {x : XS} : fX2_hasPlace a v x = some (if 0 ≤ v ∧ v < x a 1 then 1 else 0, x) := by
  unfold fX2_hasPlace; grind
theorem ji2s_rg (v : Int32) : rg (-99999) 99999 (ji2s v) := by
  unfold ji2s rg
  have h1 := Int16.le_toInt v.toInt16
  have h2 := Int16.toInt_lt v.toInt16
  have e : v.toInt16.toInt32.toInt = v.toInt16.toInt := by simp
  rw [Int32.le_iff_toInt_le, Int32.le_iff_toInt_le, e]
  have a1 : (-99999 : Int32).toInt = -99999 := by decide
  have a2 : (99999 : Int32).toInt = 99999 := by decide
  rw [a1, a2]
  omega
theorem bdifm {α : Type} {P : Prop} [Decidable P] {x : XS} {A B : XS → Option (α × XS)} : bd (some ((if P then (1 : Int32) else 0), x)) (fun r x2 => if r = 0 then A x2 else B x2) = if P then B x else A x := bdif
theorem mark_rel {n nt i k : Nat} {x y : XS} {v : Int32} (h : CN n nt x y) (hi : i < 4) (hk : k < 24) (hv : v = NN ∨ rg (-99999) 99999 v) : CN n nt (wr x (71 + 2 * i + 1) k v) (wr y 114 (24 * i + k) v) := by
  refine h.six (fun j hj => wr_ne (by omega)) (fun j _ _ a _ => wr_ne a) (fun q hq => ?_)
  have hs := h.2.2.2.2.2.1 q hq
  by_cases e : q = i
  · subst e
    obtain ⟨a1, a2, a3, a4, a5⟩ := hs
    refine ⟨by rw [wr_ne (by omega), wr_ne (by omega)]; exact a1, by rw [wr_ne (by omega)]; exact a2, by rw [wr_ne (by omega), wr_ne (by omega)]; exact a3, by rw [wr_ne (by omega)]; exact a4, fun j hj => ?_⟩
    rw [show 72 + 2 * q = 71 + 2 * q + 1 by omega, wr_at, if_pos rfl, wr_at, if_pos rfl]
    have := a5 j hj
    rw [show 72 + 2 * q = 71 + 2 * q + 1 by omega] at this
    by_cases ej : j = k
    · rw [if_pos ej, if_pos (by omega)]; exact ⟨rfl, hv⟩
    · rw [if_neg ej, if_neg (by omega)]; exact this
  · exact hs.cong (wr_ne (by omega)) (wr_ne (by omega)) (by rw [wr_ne (by omega)]) (by rw [wr_ne (by omega)]) (fun j hj => by rw [wr_at, if_pos rfl, if_neg (by omega)])
theorem place_ix {c : Nat} {v : Int32} (hc : c ≤ 24) (h : 0 ≤ v ∧ v < nI c) : ∃ k, k < c ∧ v = nI k := by
  obtain ⟨j, hj, rfl⟩ := nI_of (x := v) (by grind)
  exact ⟨j, (nI_ltI hj (by omega)).mp h.2, rfl⟩
theorem op_mark {x y : XS} {v p w : Int32} (h : CI x y) : RCI (fX7_mark v p w x) (fX8_mark v p w y) := by
  have h0 := h
  obtain ⟨n, nt, h⟩ := h
  unfold fX7_mark fX8_mark
  refine R2.sheet h0 (fun i hi e => ?_)
  subst e
  have i4 : inb (nI i) 4 = true := inb_nI hi (by omega)
  obtain ⟨a1, a2, a3, ⟨c, hc, a4⟩, a5⟩ := h.2.2.2.2.2.1 i hi
  refine R2.gL i4 (R2.gR i4 ?_)
  rw [ix_nI (by omega), ev_missing, bdif, a1]
  by_cases m : y 112 i = -1
  · rw [if_pos m, if_neg (show ¬ 0 ≤ y 112 i by rw [m]; decide)]
    exact RCI.same h0
  · rw [if_neg m, if_pos (show 0 ≤ y 112 i by unfold rg at a2; grind), ev_hasPlace, bdif, a3]
    refine R2.gR i4 ?_
    rw [ev_in, bdif, a4]
    have hs := nI_small (b := 24) hc (by omega)
    rw [show nI 24 = 24 from rfl] at hs
    refine R2.iteC (by generalize nI c = N at *; grind) (fun q => ?_) (fun _ => RCI.same h0)
    obtain ⟨k, hk, rfl⟩ := place_ix hc q
    have k24 : inb (nI k) 24 = true := inb_nI (by omega) (by omega)
    have k96 : inb (nI (24 * i + k)) 96 = true := inb_nI (by omega) (by omega)
    refine R2.gR i4 ?_
    unfold fX8_mark_h60 fX8_mark_h92
    rw [ix_nI (i := i) (by omega), ix_nI (i := k) (by omega), cI24, ix_nI (i := 24 * i + k) (by omega), a1]
    by_cases s0 : y 112 i = 0
    · rw [if_pos s0, if_pos s0]
      refine R2.ite (fun _ => RCI.same h0) (fun _ => ?_)
      refine R2.gR i4 ?_
      rw [if_neg (show ¬ y 112 i = 1 by rw [s0]; decide)]
      refine R2.gR i4 ?_
      rw [if_pos s0]
      refine R2.sL (R2.sR (R2.gL k24 (R2.gR k96 (R2.sL (R2.sR ?_)))))
      exact R2.ret ⟨rfl, n, nt, mark_rel h hi (by omega) (Or.inr (ji2s_rg w))⟩
    · have s1 : y 112 i = 1 := by unfold rg at a2; grind
      rw [if_neg s0, if_neg s0]
      refine R2.gR i4 ?_
      rw [if_pos s1]
      refine R2.ite (fun e => ?_) (fun e => ?_)
      · refine R2.gR i4 ?_
        rw [if_neg s0]
        refine R2.gL k24 (R2.gR k96 (R2.sL (R2.sR ?_)))
        exact R2.ret ⟨rfl, n, nt, mark_rel h hi (by omega) (Or.inl e)⟩
      · rw [ev_in, bdif]
        by_cases r : -99999 ≤ w ∧ w ≤ 99999
        · rw [if_neg (show ¬ w < -99999 by grind), if_pos r.2, if_pos r]
          refine R2.gR i4 ?_
          rw [if_neg s0]
          refine R2.gL k24 (R2.gR k96 (R2.sL (R2.sR ?_)))
          exact R2.ret ⟨rfl, n, nt, mark_rel h hi (by omega) (Or.inr r)⟩
        · rw [if_neg r]
          exact R2.ifL (fun _ => RCI.same h0) (fun _ => R2.ifL (fun _ => absurd r (by grind)) (fun _ => RCI.same h0))
