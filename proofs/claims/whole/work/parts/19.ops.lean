/-- one fact of one boy is set in both -/
theorem PR_fld {a n i k : Nat} {x y : XS} {v : Int32} (h : PR a n x y) (hi : i < n) (hk : k < 7) (hv : BOK (wr y 100 (9 + 7 * i + k) v 100) i) : PR a n (wr x (a + 3 + i) k v) (wr y 100 (9 + 7 * i + k) v) := by
  obtain ⟨h8, h1, h2, h3, h4, h5, h6, h7, h9, h10, h11, h12, h13, hb⟩ := h
  have e1 : wr x (a + 3 + i) k v a = x a := wr_ne (by omega)
  have e2 : ∀ q, q < 9 → wr y 100 (9 + 7 * i + k) v 100 q = y 100 q := fun q hq => by rw [wr_at, if_pos rfl, if_neg (by omega)]
  refine ⟨h8, ?_, ?_, ?_, ?_, ?_, ?_, ?_, ?_, ?_, ?_, ?_, ?_, ?_⟩
  · rw [e2 1 (by omega)]; exact h1
  · rw [e1]; exact h2
  · rw [e1, e2 8 (by omega)]; exact h3
  · rw [e1, e2 3 (by omega)]; exact h4
  · rw [e1, e2 6 (by omega)]; exact h5
  · rw [e1, e2 4 (by omega)]; exact h6
  · rw [e1, e2 7 (by omega)]; exact h7
  · rw [e1, e2 2 (by omega)]; exact h9
  · rw [e1, e2 0 (by omega)]; exact h10
  · rw [e1, e2 5 (by omega)]; exact h11
  · rw [e2 5 (by omega)]; exact h12
  · rw [e1, wr_ne (by omega)]; exact h13
  · intro q hq
    obtain ⟨g1, g2⟩ := hb q hq
    refine ⟨fun j hj => ?_, ?_⟩
    · have := g1 j hj
      rw [wr_at, wr_at, if_pos rfl]
      grind
    · by_cases e : q = i
      · subst e; exact hv
      · unfold BOK at *
        rw [wr_at, wr_at, wr_at, wr_at, wr_at, if_pos rfl, if_pos rfl, if_pos rfl, if_pos rfl, if_pos rfl]
        rw [if_neg (by omega), if_neg (by omega), if_neg (by omega), if_neg (by omega), if_neg (by omega)]
        exact g2
theorem CN.fld {n nt i k : Nat} {x y : XS} {v : Int32} (h : CN n nt x y) (hi : i < n) (hk : k < 7) (hv : BOK (wr y 100 (9 + 7 * i + k) v 100) i) : CN n nt (wr x (7 + i) k v) (wr y 100 (9 + 7 * i + k) v) := by
  have h8 := h.1.1.1
  refine h.one (h.1.upd (PR_fld (a := 4) h.1.1 hi hk hv) (fun j _ _ => wr_ne (by omega)) (wr_ne (by omega)) (RS_wr (by omega) (by omega)) (by rw [wr_ne (by omega)]) ?_) (fun j _ _ _ _ _ => wr_ne (by omega)) (fun j _ h0 _ _ _ _ _ => wr_ne h0)
  rw [wr_at, if_pos rfl, if_neg (by omega)]
  exact h.1.2.2.2
theorem CN.bx {n nt i : Nat} {x y : XS} (h : CN n nt x y) (hi : i < n) : i < 8 ∧ x (7 + i) 0 = y 100 (9 + 7 * i) ∧ x (7 + i) 1 = y 100 (9 + 7 * i + 1) ∧ x (7 + i) 2 = y 100 (9 + 7 * i + 2) ∧ x (7 + i) 3 = y 100 (9 + 7 * i + 3) ∧ x (7 + i) 4 = y 100 (9 + 7 * i + 4) ∧ x (7 + i) 5 = y 100 (9 + 7 * i + 5) ∧ x (7 + i) 6 = y 100 (9 + 7 * i + 6) ∧ BOK (y 100) i := h.1.1.boy hi
theorem CN.n4 {n nt : Nat} {x y : XS} (h : CN n nt x y) : x 4 2 = nI n := h.1.1.2.2.1
/-- the head of a call that asks for a boy -/
theorem R2.boy {n nt : Nat} {x y : XS} {v : Int32} (h : CN n nt x y) {A : XS → Option (Int32 × XS)} {B : XS → Option (Int32 × XS)} (hi : ∀ i, i < n → v = nI i → RCI (A x) (B y)) : RCI (bd (fX7_isBoy v x) (fun r x2 => if r = 0 then some (-1000000001, x2) else A x2)) (bd (fX8_isBoy v y) (fun r x2 => if r = 0 then some (-1000000001, x2) else B x2)) := by
  rw [ev_isB7, h.n4, ev_isB8 h.1.1.1 h.1.1.2.1, bdif, bdif]
  refine R2.ite (fun c => ?_) (fun _ => RCI.same ⟨n, nt, h⟩)
  obtain ⟨i, hi1, e⟩ := boy_ix h.1.1.1 c
  exact hi i hi1 e
theorem ev_fact {a0 : Nat} {x : XS} : fX0_fact a0 0 x = some (x a0 0, x) ∧ fX0_fact a0 1 x = some (x a0 1, x) ∧ fX0_fact a0 2 x = some (x a0 2, x) ∧ fX0_fact a0 3 x = some (x a0 3, x) ∧ fX0_fact a0 4 x = some (x a0 4, x) ∧ fX0_fact a0 5 x = some (x a0 5, x) ∧ fX0_fact a0 6 x = some (x a0 6, x) ∧ fX0_fact a0 7 x = some (tk (x a0 0) (x a0 3), x) ∧ fX0_fact a0 8 x = some (ak (x a0 0) (x a0 2), x) ∧ fX0_fact a0 9 x = some (wk (x a0 0) (x a0 2), x) := by
  unfold fX0_fact
  rw [ev_takes, ev_asks, ev_worth]
  simp only [bd_e]
  refine ⟨rfl, rfl, rfl, rfl, rfl, rfl, rfl, rfl, rfl, rfl⟩
theorem op_told {x y : XS} {v w : Int32} (h : CI x y) : RCI (fX7_told v w x) (fX8_told v w y) := by
  have h0 := h
  obtain ⟨n, nt, h⟩ := h
  unfold fX7_told fX8_told
  refine R2.boy h (fun i hi e => ?_)
  subst e
  obtain ⟨i8, b0, b1, b2, b3, b4, b5, b6, bk⟩ := h.bx hi
  rw [ev_in, bdif]
  by_cases c : 0 ≤ w ∧ w ≤ 9
  · rw [if_neg (show ¬ w < 0 by grind), if_pos c.2, if_pos c, ix_nI (by omega)]
    refine R2.gL (inb_nI i8 (by omega)) ?_
    obtain ⟨k, hk, rfl⟩ := kind_ix (b := 9) (by omega) c
    have hf := ev_fact (a0 := 7 + i) (x := x)
    rcases (show k = 0 ∨ k = 1 ∨ k = 2 ∨ k = 3 ∨ k = 4 ∨ k = 5 ∨ k = 6 ∨ k = 7 ∨ k = 8 ∨ k = 9 by omega) with rfl | rfl | rfl | rfl | rfl | rfl | rfl | rfl | rfl | rfl
    · rw [show fX0_fact (7 + i) (nI 0) x = _ from hf.1, bd_e, if_neg (by decide), show fX8_of (nI i) (nI 0) y = _ from ev_of0 i8, bd_e, b0]; exact RCI.same h0
    · rw [show fX0_fact (7 + i) (nI 1) x = _ from hf.2.1, bd_e, if_neg (by decide), show fX8_of (nI i) (nI 1) y = _ from ev_of1 i8, bd_e, b1]; exact RCI.same h0
    · rw [show fX0_fact (7 + i) (nI 2) x = _ from hf.2.2.1, bd_e, if_neg (by decide), show fX8_of (nI i) (nI 2) y = _ from ev_of2 i8, bd_e, b2]; exact RCI.same h0
    · rw [show fX0_fact (7 + i) (nI 3) x = _ from hf.2.2.2.1, bd_e, if_neg (by decide), show fX8_of (nI i) (nI 3) y = _ from ev_of3 i8, bd_e, b3]; exact RCI.same h0
    · rw [show fX0_fact (7 + i) (nI 4) x = _ from hf.2.2.2.2.1, bd_e, if_neg (by decide), show fX8_of (nI i) (nI 4) y = _ from ev_of4 i8, bd_e, b4]; exact RCI.same h0
    · rw [show fX0_fact (7 + i) (nI 5) x = _ from hf.2.2.2.2.2.1, bd_e, if_neg (by decide), show fX8_of (nI i) (nI 5) y = _ from ev_of5 i8, bd_e, b5]; exact RCI.same h0
    · rw [show fX0_fact (7 + i) (nI 6) x = _ from hf.2.2.2.2.2.2.1, bd_e, if_neg (by decide), show fX8_of (nI i) (nI 6) y = _ from ev_of6 i8, bd_e, b6]; exact RCI.same h0
    · rw [show fX0_fact (7 + i) (nI 7) x = _ from hf.2.2.2.2.2.2.2.1, bd_e, if_pos (by decide), if_pos (by decide), ev_takesOf i8, bd_e, b0, b3]; exact RCI.same h0
    · rw [show fX0_fact (7 + i) (nI 8) x = _ from hf.2.2.2.2.2.2.2.2.1, bd_e, if_pos (by decide), if_neg (by decide), if_pos (by decide), ev_asksOf i8 bk.2.2.1, bd_e, b0, b2]; exact RCI.same h0
    · rw [show fX0_fact (7 + i) (nI 9) x = _ from hf.2.2.2.2.2.2.2.2.2, bd_e, if_pos (by decide), if_neg (by decide), if_neg (by decide), ev_worthOf i8, bd_e, b0, b2]; exact RCI.same h0
  · rw [if_neg c]
    exact R2.ifL (fun _ => RCI.same h0) (fun _ => R2.ifL (fun _ => absurd c (by grind)) (fun _ => RCI.same h0))
theorem op_shine {x y : XS} {v r d : Int32} (h : CI x y) : RCI (fX7_shine v r d x) (fX8_shine v r d y) := by
  have h0 := h
  obtain ⟨n, nt, h⟩ := h
  unfold fX7_shine fX8_shine
  have bad : RCI (some (-1000000001, x)) (some (-1000000001, y)) := RCI.same h0
  refine R2.boy h (fun i hi e => ?_)
  subst e
  obtain ⟨i8, b0, b1, b2, b3, b4, b5, b6, bk⟩ := h.bx hi
  rw [ev_in, bdif]
  by_cases c : 0 ≤ r ∧ r ≤ 40
  · rw [if_neg (show ¬ r < 0 by grind), if_neg (show ¬ 40 < r by grind), if_pos c, ev_in, bdif]
    by_cases c2 : 0 ≤ d ∧ d ≤ 9
    · rw [if_neg (show ¬ d < 0 by grind), if_pos c2.2, if_pos c2, ix_nI (by omega)]
      refine R2.gL (inb_nI i8 (by omega)) ?_
      obtain ⟨p, x1, q, y1, e1, e2, rfl, hp⟩ := shine_rel (a := 4) (i := i) (r := r) (d := d) (by omega) i8 b0 b1 h.1.2.1 c
      rw [show fX4_shineOf 4 (7 + i) r d x = some (p, x1) from e1, bd_e, e2, bd_e]
      exact R2.ret ⟨rfl, h0.scr (fun j _ _ h40 => frX4_shineOf h40 e1) (fun j _ _ _ a b _ => frX8_shineOf b a e2)⟩
    · rw [if_neg c2]
      exact R2.ifL (fun _ => bad) (fun _ => R2.ifL (fun _ => absurd c2 (by grind)) (fun _ => bad))
  · rw [if_neg c]
    exact R2.ifL (fun _ => bad) (fun _ => R2.ifL (fun _ => bad) (fun _ => absurd c (by grind)))
theorem ev_under {k u : Nat} (hk : k < 6) (hu : u < 6) (x y : XS) : ∃ b, fX1_isUnder (nI k) (nI u) x = some (b, x) ∧ fX8_isUnder (nI k) (nI u) y = some (b, y) := by
  rcases (show k = 0 ∨ k = 1 ∨ k = 2 ∨ k = 3 ∨ k = 4 ∨ k = 5 by omega) with rfl | rfl | rfl | rfl | rfl | rfl <;> rcases (show u = 0 ∨ u = 1 ∨ u = 2 ∨ u = 3 ∨ u = 4 ∨ u = 5 by omega) with rfl | rfl | rfl | rfl | rfl | rfl <;> exact ⟨_, rfl, rfl⟩
theorem op_as {x y : XS} {v w : Int32} (h : CI x y) : RCI (fX7_as v w x) (fX8_as v w y) := by
  have h0 := h
  obtain ⟨n, nt, h⟩ := h
  unfold fX7_as fX8_as
  refine R2.boy h (fun i hi e => ?_)
  subst e
  obtain ⟨i8, b0, b1, b2, b3, b4, b5, b6, bk⟩ := h.bx hi
  rw [ev_isKind, bdif, ev_in, bdif]
  refine R2.ite (fun c => ?_) (fun _ => RCI.same h0)
  refine R2.gL (inb_nI i8 (by omega)) ?_
  rw [ix_nI (by omega), ev_of0 i8, bd_e, b0]
  obtain ⟨u, hu, rfl⟩ := kind_ix (b := 5) (by omega) c
  obtain ⟨k, hk, ek⟩ := kind_ix (b := 5) (by omega) bk.1
  rw [ek]
  obtain ⟨b, e1, e2⟩ := ev_under (k := k) (u := u) (by omega) (by omega) x y
  rw [e1, bd_e, e2, bd_e]
  refine R2.ite (fun _ => RCI.same h0) (fun _ => ?_)
  rw [b2, ev_of2 i8, bd_e]
  exact RCI.same h0
theorem cI90 (i : Nat) : 9 + 7 * nI i = nI (9 + 7 * i) := by
  rw [show (9 : Int32) = nI 9 from rfl, show (7 : Int32) = nI 7 from rfl, pk_mul, nI_add]
theorem BOK.put {M M1 : Nat → Int32} {i k : Nat} {v : Int32} (h : BOK M i) (hM : ∀ q, M1 q = if q = 9 + 7 * i + k then v else M q) (hv : (k = 0 → rg 0 5 v) ∧ (k = 1 → rg 0 9 v) ∧ (k = 2 → rg 1 99 v) ∧ (k = 3 → rg 1 20 v) ∧ (k = 5 → rg 0 99 v)) : BOK M1 i := by
  unfold BOK at *
  rw [hM, hM, hM, hM, hM]
  grind
theorem op_turns {x y : XS} {v w : Int32} (h : CI x y) : RCI (fX7_turns v w x) (fX8_turns v w y) := by
  have h0 := h
  obtain ⟨n, nt, h⟩ := h
  unfold fX7_turns fX8_turns
  refine R2.boy h (fun i hi e => ?_)
  subst e
  obtain ⟨i8, b0, b1, b2, b3, b4, b5, b6, bk⟩ := h.bx hi
  rw [ev_isKind, bdif, ev_in, bdif]
  refine R2.ite (fun c => ?_) (fun _ => RCI.same h0)
  refine R2.gL (inb_nI i8 (by omega)) (R2.sL (R2.gL (inb_nI i8 (by omega)) (R2.sL ?_)))
  rw [ix_nI (by omega), cI90, ev_becomes (by omega), bd_e, b0]
  exact R2.ret ⟨rfl, n, nt, h.fld (k := 0) hi (by omega) (bk.put (k := 0) (v := w) (fun q => by rw [wr_at, if_pos rfl]) (by grind [rg]))⟩
theorem op_set {x y : XS} {v w u : Int32} (h : CI x y) : RCI (fX7_set v w u x) (fX8_set v w u y) := by
  have h0 := h
  obtain ⟨n, nt, h⟩ := h
  unfold fX7_set fX8_set
  refine R2.boy h (fun i hi e => ?_)
  subst e
  obtain ⟨i8, b0, b1, b2, b3, b4, b5, b6, bk⟩ := h.bx hi
  rw [ev_in, bdif]
  have hf := ev_fact (a0 := 7 + i) (x := x)
  have inm : inb (nI i) 8 = true := inb_nI i8 (by omega)
  by_cases w1 : w = 1
  · subst w1
    rw [if_pos (show (1 : Int32) ≤ 1 ∧ (1 : Int32) ≤ 3 by decide), ev_may1, ev_isOf1, bdif, bdif]
    refine R2.ite (fun c => ?_) (fun _ => RCI.same h0)
    refine R2.gL inm ?_
    rw [ix_nI (by omega), hf.2.1, bd_e]
    refine R2.gL inm ?_
    unfold fX0_change
    rw [if_pos rfl, st_e, bd_e, show (9 + 7 * nI i) + 1 = nI (9 + 7 * i + 1) from cI9 i 1, ev_becomes (by omega), bd_e, b1]
    exact R2.ret ⟨rfl, n, nt, h.fld hi (by omega) (bk.put (k := 1) (v := u) (fun q => by rw [wr_at, if_pos rfl]) (by grind [rg]))⟩
  by_cases w2 : w = 2
  · subst w2
    rw [if_pos (show (1 : Int32) ≤ 2 ∧ (2 : Int32) ≤ 3 by decide), ev_may2, ev_isOf2, bdif, bdif]
    refine R2.ite (fun c => ?_) (fun _ => RCI.same h0)
    refine R2.gL inm ?_
    rw [ix_nI (by omega), hf.2.2.1, bd_e]
    refine R2.gL inm ?_
    unfold fX0_change
    rw [if_neg (by decide), if_pos rfl, st_e, bd_e, show (9 + 7 * nI i) + 2 = nI (9 + 7 * i + 2) from cI9 i 2, ev_becomes (by omega), bd_e, b2]
    exact R2.ret ⟨rfl, n, nt, h.fld hi (by omega) (bk.put (k := 2) (v := u) (fun q => by rw [wr_at, if_pos rfl]) (by grind [rg]))⟩
  by_cases w3 : w = 3
  · subst w3
    rw [if_pos (show (1 : Int32) ≤ 3 ∧ (3 : Int32) ≤ 3 by decide), ev_may3, ev_isOf3, bdif, bdif]
    refine R2.ite (fun c => ?_) (fun _ => RCI.same h0)
    refine R2.gL inm ?_
    rw [ix_nI (by omega), hf.2.2.2.1, bd_e]
    refine R2.gL inm ?_
    unfold fX0_change
    rw [if_neg (by decide), if_neg (by decide), if_pos rfl, st_e, bd_e, show (9 + 7 * nI i) + 3 = nI (9 + 7 * i + 3) from cI9 i 3, ev_becomes (by omega), bd_e, b3]
    exact R2.ret ⟨rfl, n, nt, h.fld hi (by omega) (bk.put (k := 3) (v := u) (fun q => by rw [wr_at, if_pos rfl]) (by grind [rg]))⟩
  · rw [if_neg (show ¬ (1 ≤ w ∧ w ≤ 3) by grind), ev_may0 w1 w2 w3, bd_e, if_pos rfl]
    exact RCI.same h0
