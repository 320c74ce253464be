/-- all but sheets, slots, the tape's and the waiting numbers' cells: kept -/
theorem CN.kp {n nt : Nat} {x y x1 y1 : XS} (h : CN n nt x y) (hx : ∀ j, 3 < j → j < 71 → j ≠ 39 → x1 j = x j) (h0 : x1 0 9 = x 0 9) (hy : ∀ j, 100 ≤ j → j < 104 → y1 j = y j) (h5 : y1 105 = y 105) (h6 : y1 106 = y 106) (h3 : y1 99 3 = y 99 3) (h4 : y1 99 4 = y 99 4) (c3 : C3 x1 y1) (c5 : C5 x1 y1) (c6 : C6 x1 y1) (c7 : C7 x1 y1) : CN n nt x1 y1 := by
  obtain ⟨h1, h2, -, g4, -, -, -, h8⟩ := h
  refine ⟨h1.cong (hx _ (by omega) (by omega) (by omega)) (hx _ (by omega) (by omega) (by omega)) (fun j _ _ => hx j (by omega) (by omega) (by omega)) (fun j _ _ => hx j (by omega) (by omega) (by omega)) (hy _ (by omega) (by omega)) h4,
    h2.cong (Nat.le_refl _) h0 (hx _ (by omega) (by omega) (by omega)) (hx _ (by omega) (by omega) (by omega)) (fun j _ _ => hx j (by omega) (by omega) (by omega)) (fun ti _ h => h.cong (fun j _ _ => hx j (by omega) (by omega) (by omega)) rfl rfl) (hy _ (by omega) (by omega)) h3 h4, c3, g4.cong h5 h6, c5, c6, c7, h8.cong (fun j _ _ => hx j (by omega) (by omega) (by omega))⟩
theorem CN.six {n nt : Nat} {x y x1 y1 : XS} (h : CN n nt x y) (hx : ∀ j, j < 71 ∨ 79 ≤ j → x1 j = x j) (hy : ∀ j, j ≠ 112 → j ≠ 113 → j ≠ 114 → j ≠ 119 → y1 j = y j) (c6 : C6 x1 y1) : CN n nt x1 y1 :=
  h.kp (fun j _ _ _ => hx j (by omega)) (by rw [hx 0 (by omega)]) (fun j _ _ => hy j (by omega) (by omega) (by omega) (by omega)) (hy _ (by omega) (by omega) (by omega) (by omega)) (hy _ (by omega) (by omega) (by omega) (by omega)) (by rw [hy 99 (by omega) (by omega) (by omega) (by omega)]) (by rw [hy 99 (by omega) (by omega) (by omega) (by omega)])
    (h.2.2.1.cong (by rw [hx 2 (by omega)]) (hx _ (by omega)) (by rw [hy 99 (by omega) (by omega) (by omega) (by omega)]) (hy _ (by omega) (by omega) (by omega) (by omega)))
    (h.2.2.2.2.1.cong (by rw [hx 0 (by omega)]) (hx _ (by omega)) (by rw [hy 99 (by omega) (by omega) (by omega) (by omega)]) (hy _ (by omega) (by omega) (by omega) (by omega))) c6
    (h.2.2.2.2.2.2.1.cong (fun j _ _ => hx j (by omega)) (hy _ (by omega) (by omega) (by omega) (by omega)) (hy _ (by omega) (by omega) (by omega) (by omega)) (hy _ (by omega) (by omega) (by omega) (by omega)) (hy _ (by omega) (by omega) (by omega) (by omega)))
theorem CN.seven {n nt : Nat} {x y x1 y1 : XS} (h : CN n nt x y) (hx : ∀ j, j < 79 ∨ 99 ≤ j → x1 j = x j) (hy : ∀ j, j ≠ 115 → j ≠ 116 → j ≠ 117 → j ≠ 118 → y1 j = y j) (c7 : C7 x1 y1) : CN n nt x1 y1 :=
  h.kp (fun j _ _ _ => hx j (by omega)) (by rw [hx 0 (by omega)]) (fun j _ _ => hy j (by omega) (by omega) (by omega) (by omega)) (hy _ (by omega) (by omega) (by omega) (by omega)) (hy _ (by omega) (by omega) (by omega) (by omega)) (by rw [hy 99 (by omega) (by omega) (by omega) (by omega)]) (by rw [hy 99 (by omega) (by omega) (by omega) (by omega)])
    (h.2.2.1.cong (by rw [hx 2 (by omega)]) (hx _ (by omega)) (by rw [hy 99 (by omega) (by omega) (by omega) (by omega)]) (hy _ (by omega) (by omega) (by omega) (by omega)))
    (h.2.2.2.2.1.cong (by rw [hx 0 (by omega)]) (hx _ (by omega)) (by rw [hy 99 (by omega) (by omega) (by omega) (by omega)]) (hy _ (by omega) (by omega) (by omega) (by omega)))
    (h.2.2.2.2.2.1.cong (fun j _ _ => hx j (by omega)) (hy _ (by omega) (by omega) (by omega) (by omega)) (hy _ (by omega) (by omega) (by omega) (by omega)) (hy _ (by omega) (by omega) (by omega) (by omega))) c7
theorem CN.five {n nt : Nat} {x y x1 y1 : XS} (h : CN n nt x y) (hx : ∀ j, j ≠ 0 → j ≠ 39 → x1 j = x j) (h0 : ∀ k, k ≠ 8 → x1 0 k = x 0 k) (hy : ∀ j, j ≠ 99 → j ≠ 120 → y1 j = y j) (h9 : ∀ k, k ≠ 33 → y1 99 k = y 99 k) (c5 : C5 x1 y1) : CN n nt x1 y1 :=
  h.kp (fun j _ _ _ => hx j (by omega) (by omega)) (h0 9 (by omega)) (fun j _ _ => hy j (by omega) (by omega)) (hy _ (by omega) (by omega)) (hy _ (by omega) (by omega)) (h9 3 (by omega)) (h9 4 (by omega))
    (h.2.2.1.cong (by rw [hx 2 (by omega) (by omega)]) (hx _ (by omega) (by omega)) (h9 7 (by omega)) (hy _ (by omega) (by omega))) c5
    (h.2.2.2.2.2.1.cong (fun j _ _ => hx j (by omega) (by omega)) (hy _ (by omega) (by omega)) (hy _ (by omega) (by omega)) (hy _ (by omega) (by omega)))
    (h.2.2.2.2.2.2.1.cong (fun j _ _ => hx j (by omega) (by omega)) (hy _ (by omega) (by omega)) (hy _ (by omega) (by omega)) (hy _ (by omega) (by omega)) (hy _ (by omega) (by omega)))
theorem CN.three {n nt : Nat} {x y x1 y1 : XS} (h : CN n nt x y) (hx : ∀ j, j ≠ 2 → j ≠ 3 → x1 j = x j) (hy : ∀ j, j ≠ 99 → j ≠ 104 → y1 j = y j) (h9 : ∀ k, k ≠ 7 → y1 99 k = y 99 k) (c3 : C3 x1 y1) : CN n nt x1 y1 :=
  h.kp (fun j _ _ _ => hx j (by omega) (by omega)) (by rw [hx 0 (by omega) (by omega)]) (fun j _ _ => hy j (by omega) (by omega)) (hy _ (by omega) (by omega)) (hy _ (by omega) (by omega)) (h9 3 (by omega)) (h9 4 (by omega)) c3
    (h.2.2.2.2.1.cong (by rw [hx 0 (by omega) (by omega)]) (hx _ (by omega) (by omega)) (h9 33 (by omega)) (hy _ (by omega) (by omega)))
    (h.2.2.2.2.2.1.cong (fun j _ _ => hx j (by omega) (by omega)) (hy _ (by omega) (by omega)) (hy _ (by omega) (by omega)) (hy _ (by omega) (by omega)))
    (h.2.2.2.2.2.2.1.cong (fun j _ _ => hx j (by omega) (by omega)) (hy _ (by omega) (by omega)) (hy _ (by omega) (by omega)) (hy _ (by omega) (by omega)) (hy _ (by omega) (by omega)))
theorem op_count {x y : XS} {w : Int32} (h : CI x y) : RCI (fX7_count w x) (fX8_count w y) := by
  have h0 := h
  obtain ⟨n, nt, h⟩ := h
  have hR := h.1.1
  unfold fX7_count fX8_count fX8_count_h66
  refine R2.ite (fun _ => ?_) (fun _ => R2.ite (fun _ => ?_) (fun _ => R2.ite (fun c => ?_) (fun _ => R2.ite (fun c => ?_) (fun _ => R2.ite (fun c => ?_) (fun _ => R2.ite (fun _ => ?_) (fun _ => R2.ite (fun _ => ?_) (fun _ => R2.ite (fun _ => ?_) (fun _ => R2.ite (fun _ => ?_) (fun _ => RCI.same h0)))))))))
  · refine R2.gR (by decide) ?_
    rw [show ix 1 = 1 from rfl, h.n4, show y 100 1 = nI n from hR.2.1]; exact RCI.same h0
  · refine R2.gR (by decide) ?_
    rw [show ix 2 = 2 from rfl, show x 4 8 = y 100 2 from hR.2.2.2.2.2.2.2.2.1]; exact RCI.same h0
  · subst c
    refine R2.gR (by decide) ?_
    rw [show ix (1 + 2) = 3 from rfl, show x 4 4 = y 100 3 from hR.2.2.2.2.1]; exact RCI.same h0
  · subst c
    refine R2.gR (by decide) ?_
    rw [show ix (1 + 3) = 4 from rfl, show x 4 6 = y 100 4 from hR.2.2.2.2.2.2.1]; exact RCI.same h0
  · subst c
    refine R2.gR (by decide) ?_
    rw [show ix (1 + 4) = 5 from rfl, hR.wet.1]
    rcases hR.wet.2 with hz | hz
    · rw [if_pos hz, hz]; exact RCI.same h0
    · rw [if_neg (by rw [hz]; decide), hz]; exact RCI.same h0
  · refine R2.gR (by decide) ?_
    rw [show ix 8 = 8 from rfl, show x 4 3 = y 100 8 from hR.2.2.2.1]; exact RCI.same h0
  · obtain ⟨w, -, e1, e2, -⟩ := h.2.2.2.2.1
    rw [e1, e2]; exact RCI.same h0
  · obtain ⟨w, -, e1, e2, -⟩ := h.2.2.1
    rw [e1, e2]; exact RCI.same h0
  · refine R2.gR (by decide) ?_
    rw [show ix 0 = 0 from rfl, show x 4 9 = y 100 0 from hR.z]; exact RCI.same h0
theorem op_tell {x y : XS} {v : Int32} (h : CI x y) : RCI (fX7_tell v x) (fX8_tell v y) := by
  have h0 := h
  obtain ⟨n, nt, h⟩ := h
  obtain ⟨w, hw, e1, e2, e3⟩ := h.2.2.2.2.1
  unfold fX7_tell fX8_tell
  rw [e1, e2]
  by_cases c : w = 60
  · subst c
    rw [if_neg (by decide), if_pos (by decide)]; exact RCI.same h0
  · rw [if_pos (by rw [show (60 : Int32) = nI 60 from rfl]; exact nI_lt (by omega) (by omega)), if_neg (by rw [show (60 : Int32) = nI 60 from rfl]; intro q; exact c ((nI_eq (by omega) (by omega)).mp q))]
    have i60 : inb (nI w) 60 = true := inb_nI (by omega) (by omega)
    refine R2.gL i60 (R2.gR i60 (R2.sL (R2.sR (R2.sL (R2.sR ?_)))))
    rw [ix_nI (by omega), show wr x 39 w v 0 8 = nI w by rw [wr_ne (by omega)]; exact e1, show wr y 120 w v 99 33 = nI w by rw [wr_ne (by omega)]; exact e2, nI_1]
    rw [show wr (wr x 39 w v) 0 8 (nI (w + 1)) 0 8 = nI (w + 1) by rw [wr_at, if_pos rfl, if_pos rfl], show wr (wr y 120 w v) 99 33 (nI (w + 1)) 99 33 = nI (w + 1) by rw [wr_at, if_pos rfl, if_pos rfl]]
    refine R2.ret ⟨rfl, n, nt, h.five (fun j a b => by rw [wr_ne a, wr_ne b]) (fun k hk => by rw [wr_at, if_pos rfl, if_neg hk, wr_ne (by omega)]) (fun j a b => by rw [wr_ne a, wr_ne b]) (fun k hk => by rw [wr_at, if_pos rfl, if_neg hk, wr_ne (by omega)]) ⟨w + 1, by omega, by rw [wr_at, if_pos rfl, if_pos rfl], by rw [wr_at, if_pos rfl, if_pos rfl], fun i hi => ?_⟩⟩
    rw [show wr (wr x 39 w v) 0 8 (nI (w + 1)) 39 = wr x 39 w v 39 from wr_ne (by omega), show wr (wr y 120 w v) 99 33 (nI (w + 1)) 120 = wr y 120 w v 120 from wr_ne (by omega), wr_at, wr_at, if_pos rfl, if_pos rfl]
    by_cases q : i = w
    · rw [if_pos q, if_pos q]
    · rw [if_neg q, if_neg q]; exact e3 i (by omega)
theorem op_trim {x y : XS} {v : Int32} (h : CI x y) : RCI (fX7_trim v x) (fX8_trim v y) := by
  have h0 := h
  obtain ⟨n, nt, h⟩ := h
  obtain ⟨c, hc, e1, e2, e3⟩ := h.2.2.1
  unfold fX7_trim fX8_trim
  rw [ev_in, bdif, e1, e2]
  have bad : RCI (some (-1000000001, x)) (some (-1000000001, y)) := RCI.same h0
  by_cases q : 0 ≤ v ∧ v ≤ nI c
  · rw [if_neg (show ¬ v < 0 by grind), if_pos q.2, if_pos q]
    refine R2.sL (R2.sR ?_)
    obtain ⟨k, hk, rfl⟩ := kind_ix (v := v) (b := c) (by omega) q
    refine R2.ret ⟨rfl, n, nt, h.three (fun j a b => wr_ne a) (fun j a b => wr_ne a) (fun j hj => by rw [wr_at, if_pos rfl, if_neg hj]) ⟨k, by omega, by rw [wr_at, if_pos rfl, if_pos rfl], by rw [wr_at, if_pos rfl, if_pos rfl], fun i hi => ?_⟩⟩
    rw [wr_ne (by omega), wr_ne (by omega)]; exact e3 i (by omega)
  · rw [if_neg q]
    exact R2.ifL (fun _ => bad) (fun _ => R2.ifL (fun _ => absurd q (by grind)) (fun _ => bad))
theorem ev_law {a ky : Nat} {x : XS} (h : ky < 3) : fX4_law a (nI ky) x = some (x (a + 2) ky, x) := by
  unfold fX4_law
  rw [if_neg (nI_pos (by omega)), if_neg (show ¬ (3 : Int32) ≤ nI ky from by rw [show (3 : Int32) = nI 3 from rfl]; exact nI_ge h (by omega)), gd_e (inb_nI h (by omega)), ix_nI (by omega)]
theorem op_why {x y : XS} {v : Int32} (h : CI x y) : RCI (fX7_why v x) (fX8_why v y) := by
  have h0 := h
  obtain ⟨n, nt, h⟩ := h
  unfold fX7_why fX8_why
  rw [ev_in, bdif]
  have bad : RCI (some (-1000000001, x)) (some (-1000000001, y)) := RCI.same h0
  by_cases q : 0 ≤ v ∧ v ≤ 2
  · rw [if_neg (show ¬ v < 0 by grind), if_pos (show v < 3 by grind), if_pos q]
    obtain ⟨k, hk, rfl⟩ := kind_ix (v := v) (b := 2) (by omega) q
    rw [ev_law (by omega), bd_e]
    have h14 := h.1.2.1.1
    rcases ev_counts (ky := k) h.1.2.1 (by omega) with ⟨a, b⟩ | ⟨t, ht, a, b, c⟩
    · rw [if_pos a, b, bd_e, if_neg (by decide)]; exact RCI.same h0
    · have hne : ¬ x (4 + 2) k = 0 := by rw [show x (4 + 2) k = nI (41 + 2 * t) from a]; exact nI_ne0 (by omega) (by omega)
      have hix : ix (x (4 + 2) k) = 41 + 2 * t := by rw [show x (4 + 2) k = nI (41 + 2 * t) from a, ix_nI (by omega)]
      rw [if_neg hne, hix, b, bd_e, if_pos (nI_pos' (by omega)), gd_e (decide_eq_true (el15_all t (by omega))), h.2.2.2.2.2.2.2 t (by omega)]
      exact RCI.same h0
  · rw [if_neg q]
    exact R2.ifL (fun _ => bad) (fun _ => R2.ifL (fun _ => absurd q (by grind)) (fun _ => bad))
theorem op_fee {x y : XS} (h : CI x y) : RCI (fX7_fee x) (fX8_fee y) := by
  have h0 := h
  obtain ⟨n, nt, h⟩ := h
  have hR := h.1.1
  have h14 := h.1.2.1.1
  unfold fX7_fee fX8_fee
  rw [show fX4_law 4 1 x = _ from ev_law (a := 4) (ky := 1) (x := x) (by omega), bd_e]
  have el : x 4 7 = y 100 7 := hR.2.2.2.2.2.2.2.1
  have eo : x 4 5 = y 100 6 := hR.2.2.2.2.2.1
  have hc := ev_counts (ky := 1) h.1.2.1 (by omega)
  rw [show nI 1 = 1 from rfl] at hc
  rcases hc with ⟨a, b⟩ | ⟨t, ht, a, b, c⟩
  · rw [show x (4 + 2) 1 = 0 from a, if_pos rfl, b, bd_e, gd_e (by decide), gd_e (by decide), st_e, gd_e (by decide), gd_e (by decide), st_e, if_neg (by decide), gd_e (by decide), show ix 7 = 7 from rfl, show ix 6 = 6 from rfl, show ix 0 = 0 from rfl, show ix 1 = 1 from rfl, wr_ne (by omega), wr_ne (by omega), el]
    exact R2.ret ⟨rfl, h0.scr (fun _ _ _ _ => rfl) (fun j _ _ _ _ a _ => by rw [wr_ne a, wr_ne a])⟩
  · have hne : ¬ x (4 + 2) 1 = 0 := by rw [show x (4 + 2) 1 = nI (41 + 2 * t) from a]; exact nI_ne0 (by omega) (by omega)
    have hix : ix (x (4 + 2) 1) = 41 + 2 * t := by rw [show x (4 + 2) 1 = nI (41 + 2 * t) from a, ix_nI (by omega)]
    rw [if_neg hne, hix, gd_e (decide_eq_true (el15_all t (by omega))), b, bd_e, gd_e (by decide), gd_e (by decide), st_e, gd_e (by decide), gd_e (by decide), st_e, if_pos (nI_pos' (by omega)), show ix 7 = 7 from rfl, show ix 6 = 6 from rfl, show ix 0 = 0 from rfl, show ix 1 = 1 from rfl, show wr y 111 0 (y 100 7) 100 6 = y 100 6 by rw [wr_ne (by omega)]]
    have e100 : wr (wr y 111 0 (y 100 7)) 111 1 (y 100 6) 100 = y 100 := by rw [wr_ne (by omega), wr_ne (by omega)]
    obtain ⟨r, x1, q, y1, f1, f2, rfl⟩ := val_rel (y := wr (wr y 111 0 (y 100 7)) 111 1 (y 100 6)) (x := x) (t := t) (ky := 1) (u1 := x 4 7) (u2 := x 4 5) (u3 := 0) (by omega) (by rw [e100]; exact h.1.2.1.2.2.1 t ht) (by rw [e100]; exact c) (by omega) (by simp [wr_at, el]) (by simp [wr_at, eo]) (Or.inr (by omega))
    rw [f1, bd_e, f2, bd_e]
    exact R2.ret ⟨rfl, h0.scr (fun j _ _ h40 => frX6_value h40 f1) (fun j _ _ _ a b _ => by rw [frX8_worksOut a f2, wr_ne b, wr_ne b])⟩
theorem op_fine {x y : XS} {v : Int32} (h : CI x y) : RCI (fX7_fine v x) (fX8_fine v y) := by
  have h0 := h
  obtain ⟨n, nt, h⟩ := h
  have h14 := h.1.2.1.1
  unfold fX7_fine fX8_fine
  refine R2.boy h (fun i hi e => ?_)
  subst e
  obtain ⟨i8, b0, b1, b2, b3, b4, b5, b6, bk⟩ := h.bx hi
  refine R2.gL (inb_nI i8 (by omega)) ?_
  rw [show fX4_law 4 2 x = _ from ev_law (a := 4) (ky := 2) (x := x) (by omega), bd_e, ix_nI (by omega)]
  have o6 : ∀ u : Int32, fX8_of (nI i) 6 (wr y 111 0 u) = some (y 100 (9 + 7 * i + 6), wr y 111 0 u) := fun u => by rw [ev_of6 i8, wr_ne (by omega)]
  have o4 : ∀ u w : Int32, fX8_of (nI i) 4 (wr (wr y 111 0 u) 111 1 w) = some (y 100 (9 + 7 * i + 4), wr (wr y 111 0 u) 111 1 w) := fun u w => by rw [ev_of4 i8, wr_ne (by omega), wr_ne (by omega)]
  have hc := ev_counts (ky := 2) h.1.2.1 (by omega)
  rw [show nI 2 = 2 from rfl] at hc
  rcases hc with ⟨a, b⟩ | ⟨t, ht, a, b, c⟩
  · rw [show x (4 + 2) 2 = 0 from a, if_pos rfl, b, bd_e, ev_of4 i8, bd_e, gd_e (by decide), st_e, show ix 0 = 0 from rfl, o6, bd_e, gd_e (by decide), st_e, if_neg (by decide), show ix 1 = 1 from rfl, o4, bd_e, b4]
    exact R2.ret ⟨rfl, h0.scr (fun _ _ _ _ => rfl) (fun j _ _ _ _ a _ => by rw [wr_ne a, wr_ne a])⟩
  · have hne : ¬ x (4 + 2) 2 = 0 := by rw [show x (4 + 2) 2 = nI (41 + 2 * t) from a]; exact nI_ne0 (by omega) (by omega)
    have hix : ix (x (4 + 2) 2) = 41 + 2 * t := by rw [show x (4 + 2) 2 = nI (41 + 2 * t) from a, ix_nI (by omega)]
    rw [if_neg hne, hix, gd_e (decide_eq_true (el15_all t (by omega))), b, bd_e, ev_of4 i8, bd_e, gd_e (by decide), st_e, show ix 0 = 0 from rfl, o6, bd_e, gd_e (by decide), st_e, if_pos (nI_pos' (by omega)), show ix 1 = 1 from rfl]
    have e100 : wr (wr y 111 0 (y 100 (9 + 7 * i + 4))) 111 1 (y 100 (9 + 7 * i + 6)) 100 = y 100 := by rw [wr_ne (by omega), wr_ne (by omega)]
    obtain ⟨r, x1, q, y1, f1, f2, rfl⟩ := val_rel (y := wr (wr y 111 0 (y 100 (9 + 7 * i + 4))) 111 1 (y 100 (9 + 7 * i + 6))) (x := x) (t := t) (ky := 2) (u1 := x (7 + i) 4) (u2 := x (7 + i) 6) (u3 := 0) (by omega) (by rw [e100]; exact h.1.2.1.2.2.1 t ht) (by rw [e100]; exact c) (by omega) (by simp [wr_at, b4]) (by simp [wr_at, b6]) (Or.inr (by omega))
    rw [f1, bd_e, f2, bd_e]
    exact R2.ret ⟨rfl, h0.scr (fun j _ _ h40 => frX6_value h40 f1) (fun j _ _ _ a b _ => by rw [frX8_worksOut a f2, wr_ne b, wr_ne b])⟩
theorem op_textTold {x y : XS} {v w : Int32} (h : CI x y) : RCI (fX7_textTold v w x) (fX8_textTold v w y) := by
  have h0 := h
  obtain ⟨n, nt, h⟩ := h
  have hL := h.1.2.1
  have h14 := hL.1
  unfold fX7_textTold fX8_textTold
  have bad : RCI (some (-1000000001, x)) (some (-1000000001, y)) := RCI.same h0
  refine R2.gR (by decide) ?_
  have e3 : x 4 3 = nI nt := by rw [show x 4 3 = y 100 8 from h.1.1.2.2.2.1]; exact hL.2.1
  rw [ev_in, bdif, show ix 8 = 8 from rfl, hL.2.1, e3]
  have hs := nI_small (b := 14) h14 (by omega)
  rw [show nI 14 = 14 from rfl] at hs
  by_cases q : 0 ≤ v ∧ v < nI nt
  · rw [if_neg (show ¬ v < 0 by grind), if_neg (show ¬ nI nt ≤ v by grind), if_pos (show 0 ≤ v ∧ v ≤ nI nt - 1 by generalize nI nt = N at *; grind), ev_in, bdif]
    by_cases q2 : 0 ≤ w ∧ w ≤ 1
    · rw [if_neg (show ¬ w < 0 by grind), if_pos q2.2, if_pos q2]
      obtain ⟨t, ht, rfl⟩ : ∃ t, t < nt ∧ v = nI t := by
        obtain ⟨j, hj, rfl⟩ := nI_of (x := v) (by grind)
        exact ⟨j, (nI_ltI hj (by omega)).mp q.2, rfl⟩
      obtain ⟨ky, sz, t1, t2, t3, t4, t5, t6, -⟩ := hL.2.2.1 t ht
      rw [ix_nI (by omega), cI65, show nI (65 + 2 * t) + 1 = nI (65 + 2 * t + 1) from nI_1 _]
      refine R2.ite (fun _ => ?_) (fun _ => ?_)
      · refine R2.gL (inb_nI (by omega) (by omega)) (R2.gR (inb_nI (by omega) (by omega)) (R2.sR ?_))
        rw [ix_nI (by omega), t3, t5, show (1000 : Int32) = nI 1000 from rfl, jdiv_nI (by omega) (by omega) (by omega), show (1000 * ky + sz) / 1000 = ky by omega]
        exact RCI.same h0
      · refine R2.gL (inb_nI (by omega) (by omega)) (R2.gR (inb_nI (by omega) (by omega)) ?_)
        rw [ix_nI (by omega), t6]
        exact RCI.same h0
    · rw [if_neg q2]
      exact R2.ifL (fun _ => bad) (fun _ => R2.ifL (fun _ => absurd q2 (by grind)) (fun _ => bad))
  · rw [if_neg (show ¬ (0 ≤ v ∧ v ≤ nI nt - 1) by generalize nI nt = N at *; grind)]
    exact R2.ifL (fun _ => bad) (fun _ => R2.ifL (fun _ => bad) (fun _ => absurd q (by grind)))
