theorem bdif {α : Type} {P : Prop} [Decidable P] {x : XS} {A B : XS → Option (α × XS)} : bd (some ((if P then (1 : Int32) else 0), x)) (fun r x2 => if r = 0 then A x2 else B x2) = if P then B x else A x := by
  by_cases h : P
  · rw [if_pos h, if_pos h]; rfl
  · rw [if_neg h, if_neg h]; rfl
theorem isB_if {P : Prop} [Decidable P] : isB (if P then (1 : Int32) else 0) = true := by
  by_cases h : P
  · rw [if_pos h]; rfl
  · rw [if_neg h]; rfl
theorem ev_isB7 {v : Int32} {x : XS} : fX7_isBoy v x = some (if 0 ≤ v ∧ v < x 4 2 then 1 else 0, x) := by
  unfold fX7_isBoy
  grind
theorem nI_small {n b : Nat} (h : n ≤ b) (hb : b < 2147483648) : 0 ≤ nI n ∧ nI n ≤ nI b := ⟨nI_pos' (by omega), nI_le h hb⟩
theorem ev_isB8 {v : Int32} {y : XS} {n : Nat} (hn : n ≤ 8) (h1 : y 100 1 = nI n) : fX8_isBoy v y = some (if 0 ≤ v ∧ v < nI n then 1 else 0, y) := by
  unfold fX8_isBoy
  rw [gd_e (by decide), ev_in, bd_e, gd_e isB_if, show ix 1 = 1 from rfl, h1]
  have hs := nI_small (b := 8) hn (by omega)
  rw [show nI 8 = 8 from rfl] at hs
  generalize nI n = N at *
  grind
theorem ev_isKind {v : Int32} {x : XS} : fX7_isKind v x = some (if 0 ≤ v ∧ v ≤ 5 then 1 else 0, x) := by
  unfold fX7_isKind
  grind
def mayB (k v : Int32) : Prop := (k = 1 ∧ 0 ≤ v ∧ v ≤ 9) ∨ (k = 2 ∧ 1 ≤ v ∧ v ≤ 99) ∨ (k = 3 ∧ 1 ≤ v ∧ v ≤ 20)
theorem ev_may1 {v : Int32} {x : XS} : fX0_mayBe 1 v x = some (if 0 ≤ v ∧ v ≤ 9 then 1 else 0, x) := by
  unfold fX0_mayBe
  grind
theorem ev_may2 {v : Int32} {x : XS} : fX0_mayBe 2 v x = some (if 1 ≤ v ∧ v ≤ 99 then 1 else 0, x) := by
  unfold fX0_mayBe
  grind
theorem ev_may3 {v : Int32} {x : XS} : fX0_mayBe 3 v x = some (if 1 ≤ v ∧ v ≤ 20 then 1 else 0, x) := by
  unfold fX0_mayBe
  grind
theorem ev_may0 {k v : Int32} {x : XS} (h1 : k ≠ 1) (h2 : k ≠ 2) (h3 : k ≠ 3) : fX0_mayBe k v x = some (0, x) := by
  unfold fX0_mayBe
  grind
theorem ev_isOf1 {v : Int32} {y : XS} : fX8_isOf 1 v y = some (if 0 ≤ v ∧ v ≤ 9 then 1 else 0, y) := by
  unfold fX8_isOf fX8_isOf_h11
  rw [if_pos rfl, if_pos rfl, ev_in, bd_e, gd_e isB_if]
theorem ev_isOf2 {v : Int32} {y : XS} : fX8_isOf 2 v y = some (if 1 ≤ v ∧ v ≤ 99 then 1 else 0, y) := by
  unfold fX8_isOf fX8_isOf_h11
  rw [if_neg (by decide), if_neg (by decide), if_pos rfl, ev_in, bd_e, gd_e isB_if]
theorem ev_isOf3 {v : Int32} {y : XS} : fX8_isOf 3 v y = some (if 1 ≤ v ∧ v ≤ 20 then 1 else 0, y) := by
  unfold fX8_isOf fX8_isOf_h11
  rw [if_neg (by decide), if_neg (by decide), if_neg (by decide), ev_in, bd_e, gd_e isB_if]
theorem boy_ix {n : Nat} {v : Int32} (hn : n ≤ 8) (h : 0 ≤ v ∧ v < nI n) : ∃ i, i < n ∧ v = nI i := by
  obtain ⟨j, hj, rfl⟩ := nI_of (x := v) (by grind)
  exact ⟨j, (nI_ltI hj (by omega)).mp h.2, rfl⟩
theorem kind_ix {v : Int32} {b : Nat} (hb : b < 2147483648) (h : 0 ≤ v ∧ v ≤ nI b) : ∃ i, i ≤ b ∧ v = nI i := by
  obtain ⟨j, hj, rfl⟩ := nI_of (x := v) (by grind)
  exact ⟨j, (nI_leI hj hb).mp h.2, rfl⟩
theorem ev_becomes {k : Nat} {v : Int32} {y : XS} (hk : k < 1437) : fX8_becomes (nI k) v y = some (y 100 k, wr y 100 k v) := by
  unfold fX8_becomes
  rw [gd_e (inb_nI hk (by omega)), st_e, gd_e (inb_nI hk (by omega)), st_e, ix_nI (by omega)]
theorem C1.upd {n n1 nt : Nat} {x y x1 y1 : XS} (h : C1 n nt x y) (hR : PR 4 n1 x1 y1) (ht : ∀ j, 41 ≤ j → j < 71 → x1 j = x j) (h6 : x1 6 = x 6) (hs : RS y y1) (hi : y1 99 4 = y 99 4) (hm : rg 0 9999 (y1 100 2)) : C1 n1 nt x1 y1 :=
  ⟨hR, h.2.1.mono ht h6 hs.1 hs.2, by rw [hi]; exact h.2.2.1, hm⟩
theorem op_seed {x y : XS} {v : Int32} (h : CI x y) : RCI (fX7_seed v x) (fX8_seed v y) := by
  obtain ⟨n, nt, h⟩ := h
  have h1 := h.1
  unfold fX7_seed fX8_seed
  rw [st_e, st_e, show fX8_becomes 0 v y = _ from ev_becomes (k := 0) (by omega), bd_e, show x 4 9 = y 100 0 from h1.1.z]
  refine R2.ret ⟨rfl, n, nt, h.one (h1.upd (PR_draw h1.1) (fun j _ _ => wr_ne (by omega)) (wr_ne (by omega)) (RS_wr (by omega) (by omega)) (by rw [wr_ne (by omega)]) ?_) (fun j _ h4 _ _ _ => wr_ne h4) (fun j _ h0 _ _ _ _ _ => wr_ne h0)⟩
  rw [wr_at, if_pos rfl, if_neg (by omega)]
  exact h1.2.2.2
theorem PR_share {a n : Nat} {x y : XS} {v : Int32} (h : PR a n x y) : PR a n (wr x a 4 v) (wr y 100 3 v) := by
  unfold PR BOK at *
  grind [wr_at]
theorem PR_rain {a n : Nat} {x y : XS} {v : Int32} (h : PR a n x y) : PR a n (wr x a 6 v) (wr y 100 4 v) := by
  unfold PR BOK at *
  grind [wr_at]
theorem CN.put1 {n nt k q : Nat} {x y : XS} {v : Int32} (h : CN n nt x y) (hR : PR 4 n (wr x 4 q v) (wr y 100 k v)) (hk : k < 65) (h8 : k ≠ 8) (h2 : k ≠ 2) : CN n nt (wr x 4 q v) (wr y 100 k v) := by
  refine h.one (h.1.upd hR (fun j _ _ => wr_ne (by omega)) (wr_ne (by omega)) (RS_wr hk h8) (by rw [wr_ne (by omega)]) ?_) (fun j _ h4 _ _ _ => wr_ne h4) (fun j _ h0 _ _ _ _ _ => wr_ne h0)
  rw [wr_at, if_pos rfl, if_neg (by omega)]
  exact h.1.2.2.2
theorem op_rule {x y : XS} {w v : Int32} (h : CI x y) : RCI (fX7_rule w v x) (fX8_rule w v y) := by
  have h0 := h
  obtain ⟨n, nt, h⟩ := h
  have h1 := h.1
  unfold fX7_rule fX7_rule_h35 fX7_rule_h64 fX7_rule_h89 fX8_rule fX8_rule_h31
  rw [ev_in, bdif]
  have bad : RCI (some (-1000000001, x)) (some (-1000000001, y)) := RCI.same h0
  by_cases w0 : w = 0
  · subst w0
    rw [if_pos (show (0 : Int32) ≤ 0 ∧ (0 : Int32) ≤ 2 by decide), if_pos rfl, if_pos rfl, ev_in, bdif, if_neg (show ¬ (0 : Int32) = 1 by decide), if_neg (show ¬ (0 : Int32) = 2 by decide)]
    by_cases c : 0 ≤ v ∧ v ≤ 99
    · rw [if_pos c, if_pos c.1, if_neg (by grind), show fX8_becomes (3 + 0) v y = _ from ev_becomes (k := 3) (by omega), bd_e, st_e, st_e, show x 4 4 = y 100 3 from h1.1.2.2.2.2.1]
      exact R2.ret ⟨rfl, n, nt, h.put1 (PR_share h1.1) (by omega) (by omega) (by omega)⟩
    · rw [if_neg c]
      refine R2.ifL (fun _ => R2.ifL (fun _ => bad) (fun _ => absurd c (by grind))) (fun _ => bad)
  by_cases w1 : w = 1
  · subst w1
    rw [if_pos (show (0 : Int32) ≤ 1 ∧ (1 : Int32) ≤ 2 by decide), if_neg w0, if_neg w0, if_pos rfl, if_pos rfl, ev_in, bdif, if_neg (show ¬ (1 : Int32) = 2 by decide)]
    by_cases c : 0 ≤ v ∧ v ≤ 100
    · rw [if_pos c, if_pos c.1, if_neg (by grind), show fX8_becomes (3 + 1) v y = _ from ev_becomes (k := 4) (by omega), bd_e, st_e, st_e, show x 4 6 = y 100 4 from h1.1.2.2.2.2.2.2.1]
      exact R2.ret ⟨rfl, n, nt, h.put1 (PR_rain h1.1) (by omega) (by omega) (by omega)⟩
    · rw [if_neg c]
      refine R2.ifL (fun _ => R2.ifL (fun _ => bad) (fun _ => absurd c (by grind))) (fun _ => bad)
  by_cases w2 : w = 2
  · subst w2
    rw [if_pos (show (0 : Int32) ≤ 2 ∧ (2 : Int32) ≤ 2 by decide), if_neg w0, if_neg w0, if_neg w1, if_neg w1, if_pos rfl, ev_in, bdif]
    by_cases c : 0 ≤ v ∧ v ≤ 1
    · have hw := h1.1.wet
      rw [if_pos c, if_pos c.1, if_neg (by grind), show fX8_becomes (3 + 2) v y = _ from ev_becomes (k := 5) (by omega), bd_e, hw.1]
      have hv : v = 0 ∨ v = 1 := by grind
      have fin : ∀ u : Int32, (u = 0 ∨ u = 1) → CI (wr x 4 10 u) (wr y 100 5 u) := fun u hu => ⟨n, nt, h.put1 (PR_wet h1.1 hu) (by omega) (by omega) (by omega)⟩
      rcases hv with rfl | rfl
      · rw [if_neg (show ¬ (0 : Int32) = 1 by decide), if_neg (show ¬ (0 : Int32) = 1 by decide), st_e, st_e]
        rcases hw.2 with hz | hz
        · rw [if_pos hz, hz]; exact R2.ret ⟨rfl, fin 0 (Or.inl rfl)⟩
        · rw [if_neg (by rw [hz]; decide), hz]; exact R2.ret ⟨rfl, fin 0 (Or.inl rfl)⟩
      · rw [if_pos (show (1 : Int32) = 1 from rfl), if_pos (show (1 : Int32) = 1 from rfl), st_e, st_e]
        rcases hw.2 with hz | hz
        · rw [if_pos hz, hz]; exact R2.ret ⟨rfl, fin 1 (Or.inr rfl)⟩
        · rw [if_neg (by rw [hz]; decide), hz]; exact R2.ret ⟨rfl, fin 1 (Or.inr rfl)⟩
    · rw [if_neg c]
      refine R2.ifL (fun _ => R2.ifL (fun _ => bad) (fun _ => absurd c (by grind))) (fun _ => bad)
  · rw [if_neg (show ¬ (0 ≤ w ∧ w ≤ 2) by grind), if_neg w0, if_neg w1, if_neg w2]
    exact R2.ifL (fun _ => bad) (fun _ => bad)
theorem op_street {x y : XS} {w : Int32} (h : CI x y) : RCI (fX7_street w x) (fX8_street w y) := by
  have h0 := h
  obtain ⟨n, nt, h⟩ := h
  have hR := h.1.1
  unfold fX7_street fX8_street
  refine R2.ite (fun _ => ?_) (fun _ => R2.ite (fun _ => ?_) (fun _ => R2.ite (fun _ => ?_) (fun _ => R2.ite (fun _ => ?_) (fun _ => R2.ite (fun _ => ?_) (fun _ => RCI.same h0)))))
  · rw [ev_purses hR, bd_e, ev_sum4 hR.1 hR.2.1, bd_e]; exact RCI.same h0
  · refine R2.gR (by decide) ?_
    rw [show ix 6 = 6 from rfl, show x 4 5 = y 100 6 from hR.2.2.2.2.2.1]; exact RCI.same h0
  · refine R2.gR (by decide) ?_
    rw [show ix 7 = 7 from rfl, show x 4 7 = y 100 7 from hR.2.2.2.2.2.2.2.1]; exact RCI.same h0
  · rw [ev_menDone hR, bd_e, ev_sum6 hR.1 hR.2.1, bd_e]; exact RCI.same h0
  · have hn := hR.1
    refine R2.bind (busy_loop hR n 0 0 (by omega) FU FU (by unfold FU; omega) (by unfold FU; omega)) ?_
    rintro r x1 q y1 ⟨rfl, rfl, rfl⟩
    exact RCI.same h0
theorem op_goesTo {x y : XS} {w v : Int32} (h : CI x y) : RCI (fX7_goesTo w v x) (fX8_goesTo w v y) := by
  have h0 := h
  obtain ⟨n, nt, h⟩ := h
  unfold fX7_goesTo fX8_goesTo
  rw [ev_in, bdif]
  have bad : RCI (some (-1000000001, x)) (some (-1000000001, y)) := RCI.same h0
  by_cases c : 0 ≤ w ∧ w ≤ 9
  · rw [if_neg (by grind), if_neg (by grind), if_pos c, ev_in, bdif]
    by_cases d : 1 ≤ v ∧ v ≤ 9
    · rw [if_neg (by grind), if_pos d.2, if_pos d]
      obtain ⟨r, e1, e2, e3⟩ := choose (h := v) h.1.1 c
      rw [e1, bd_e, e2, bd_e]
      unfold fX8_told0
      by_cases hr : 0 ≤ r
      · rw [if_pos hr, if_pos hr, bd_e]; exact RCI.same h0
      · rw [if_neg hr, if_neg hr, bd_e]; exact RCI.same h0
    · rw [if_neg d]
      exact R2.ifL (fun _ => bad) (fun _ => R2.ifL (fun _ => absurd d (by grind)) (fun _ => bad))
  · rw [if_neg c]
    exact R2.ifL (fun _ => bad) (fun _ => R2.ifL (fun _ => bad) (fun _ => absurd c (by grind)))
theorem op_minutes {x y : XS} {v : Int32} (h : CI x y) : RCI (fX7_minutes v x) (fX8_minutes v y) := by
  have h0 := h
  obtain ⟨n, nt, h⟩ := h
  have hR := h.1.1
  have bad : RCI (some (-1000000001, x)) (some (-1000000001, y)) := RCI.same h0
  unfold fX7_minutes fX8_minutes
  rw [ev_in, bdif]
  by_cases c : 1 ≤ v ∧ v ≤ 300
  · rw [if_neg (by grind), if_pos c.2, if_pos c, ev_sum6 hR.1 hR.2.1, bd_e]
    refine R2.sL (R2.gR (by decide) ?_)
    have hm := h.1.2.2.2
    rw [ev_within, bd_e, show ix 2 = 2 from rfl, show x 4 8 = y 100 2 from hR.2.2.2.2.2.2.2.2.1]
    obtain ⟨m, hm1, em⟩ := kind_ix (b := 9999) (by omega) hm
    obtain ⟨k, hk, rfl⟩ := kind_ix (v := v) (b := 300) (by omega) ⟨by grind, c.2⟩
    have e1 : (9999 : Int32) - y 100 2 = nI (9999 - m) := by rw [em, show (9999 : Int32) = nI 9999 from rfl]; exact pk_sub hm1
    have e2 : jmin (nI k) (9999 - y 100 2) = nI (min k (9999 - m)) := by
      rw [e1]; unfold jmin
      by_cases q : 9999 - m < k
      · rw [if_pos (nI_lt q (by omega)), Nat.min_eq_right (by omega)]
      · rw [if_neg (nI_nlt (by omega) (by omega)), Nat.min_eq_left (by omega)]
    have e3 : (if 9999 - y 100 2 < 0 then (0 : Int32) else if nI k < 9999 - y 100 2 then nI k else 9999 - y 100 2) = nI (min k (9999 - m)) := by
      rw [e1, if_neg (nI_pos (by omega))]
      by_cases q : k < 9999 - m
      · rw [if_pos (nI_lt q (by omega)), Nat.min_eq_left (by omega)]
      · rw [if_neg (nI_nlt (by omega) (by omega)), Nat.min_eq_right (by omega)]
    rw [e2, e3]
    obtain ⟨r, x1, _, y1, f1, f2, hR1, hL1, hs1, hm2, hd1⟩ := minutes_rel (a := 4) (m := min k (9999 - m)) (by omega) (by omega) hR h.1.2.1
    have gx : ∀ j, j ≠ 4 → (j < 7 ∨ 15 ≤ j) → j ≠ 40 → x1 j = x j := fun j a b c => frX4_passMinutes a b c f1
    have gy : ∀ j, j ≠ 100 → j ≠ 110 → j ≠ 111 → y1 j = y j := fun j a b c => frX8_goesOn a c b f2
    rw [f1, bd_e, f2, bd_e, ev_sum6 hR1.1 hR1.2.1, bd_e, hd1]
    have er : sumK (y 100) 6 n + r - sumK (y 100) 6 n = r := by grind
    rw [er]
    refine R2.ret ⟨rfl, n, nt, h.one (h.1.upd hR1 (fun j _ _ => gx j (by omega) (by omega) (by omega)) (gx 6 (by omega) (by omega) (by omega)) hs1 (by rw [gy 99 (by omega) (by omega) (by omega)]) ?_) (fun j _ a b _ c => gx j a b c) (fun j _ a _ _ b c _ => gy j a b c)⟩
    rw [hm2, em, nI_add]
    exact rg_nI (b := 9999) (by omega) (by omega)
  · rw [if_neg c]
    exact R2.ifL (fun _ => bad) (fun _ => R2.ifL (fun _ => absurd c (by grind)) (fun _ => bad))
