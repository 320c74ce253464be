theorem PR_lost {a n : Nat} {x y : XS} {v : Int32} (h : PR a n x y) : PR a n (wr x a 7 v) (wr y 100 7 v) := by
  unfold PR BOK at *
  grind [wr_at]
theorem PR_min {a n : Nat} {x y : XS} {v : Int32} (h : PR a n x y) : PR a n (wr x a 8 v) (wr y 100 2 v) := by
  unfold PR BOK at *
  grind [wr_at]
theorem PR_wet {a n : Nat} {x y : XS} {v : Int32} (h : PR a n x y) (hv : v = 0 ∨ v = 1) : PR a n (wr x a 10 v) (wr y 100 5 v) := by
  unfold PR BOK at *
  grind [wr_at]
theorem PR.z {a n : Nat} {x y : XS} (h : PR a n x y) : x a 9 = y 100 0 := h.2.2.2.2.2.2.2.2.2.1
theorem PR.wet {a n : Nat} {x y : XS} (h : PR a n x y) : x a 10 = y 100 5 ∧ (y 100 5 = 0 ∨ y 100 5 = 1) := ⟨h.2.2.2.2.2.2.2.2.2.2.1, h.2.2.2.2.2.2.2.2.2.2.2.1⟩
theorem RS_wr {y : XS} {k : Nat} {v : Int32} (hk : k < 65) (h8 : k ≠ 8) : RS y (wr y 100 k v) := by
  unfold RS
  refine ⟨fun j hj => ?_, ?_⟩
  · rw [wr_at, if_pos rfl, if_neg (by omega)]
  · rw [wr_at, if_pos rfl, if_neg (by omega)]
/-- one draw in both -/
theorem draw_rel {a n nt : Nat} {x y : XS} (ha : a ≤ 26) (hR : PR a n x y) (hL : LW x (x (a + 2)) (y 100) nt) : R2 (fun r x1 q y1 => r = q ∧ (∃ v, r = jushr v 8) ∧ PR a n x1 y1 ∧ LW x1 (x1 (a + 2)) (y1 100) nt ∧ RS y y1 ∧ (y1 100 5 = y 100 5 ∧ y1 100 2 = y 100 2) ∧ sumK (y1 100) 6 n = sumK (y 100) 6 n) (fX4_draw a x) (fX8_draw y) := by
  rw [ev_draw, ev_mdraw, hR.z]
  refine R2.ret ⟨rfl, ⟨_, rfl⟩, PR_draw hR, ?_, RS_wr (by omega) (by omega), ?_, ?_⟩
  · refine hL.mono (fun j h1 h2 => wr_ne (by omega)) (by rw [wr_ne (by omega)]) (RS_wr (by omega) (by omega)).1 (RS_wr (by omega) (by omega)).2
  · exact ⟨by rw [wr_at, if_pos rfl, if_neg (by omega)], by rw [wr_at, if_pos rfl, if_neg (by omega)]⟩
  · exact sumK_eq n (fun i hi => by rw [wr_at, if_pos rfl, if_neg (by omega)])
def pay (K P p : Int32) : Int32 := if 30 ≤ p then (if p < 90 then ak K P else ak K P + 1) else 0
theorem ev_paid {a1 : Nat} {p : Int32} {x : XS} : fX4_paidTo a1 p x = some (pay (x a1 0) (x a1 2) p, x) := by
  unfold fX4_paidTo pay
  rw [ev_asks, bd_e]
  grind
theorem bI {k n : Nat} (h : k < n) (hn : n < 2147483648) (v : Int32) (hv : v = nI k) : inb v n = true := by rw [hv]; exact inb_nI h hn
/-- the end of serves -/
theorem ev_serves40 {i : Nat} {s0 : Int32} {y : XS} (hi : i < 8) : fX8_serves_h40 (nI i) s0 y = some ((), wr (wr (wr (wr y 100 (9 + 7 * i + 5) (tk (y 100 (9 + 7 * i)) (y 100 (9 + 7 * i + 3)))) 100 (9 + 7 * i + 6) (y 100 (9 + 7 * i + 6) + 1)) 100 (9 + 7 * i + 4) (y 100 (9 + 7 * i + 4) + s0 - jdiv (s0 * y 100 3) 100)) 100 6 (y 100 6 + jdiv (s0 * y 100 3) 100)) := by
  unfold fX8_serves_h40
  rw [gd_e (by decide), st_e, ev_takesOf hi, bd_e, ev_put5 hi, bd_e, ev_of6 hi, bd_e, ev_put6 hi, bd_e, ev_of4 hi, bd_e, ev_put4 hi, bd_e, gd_e (by decide), gd_e (by decide), st_e, show ix 3 = 3 from rfl, show ix 6 = 6 from rfl]
  have w : ∀ (z : XS) (k h : Nat) (v : Int32), h ≠ k → wr z 100 k v 100 h = z 100 h := fun z k h v hne => by rw [wr_at, if_pos rfl, if_neg hne]
  rw [w _ _ 6 _ (by omega), w _ _ 6 _ (by omega), w _ _ 6 _ (by omega), w _ _ (9 + 7 * i + 4) _ (by omega), w _ _ (9 + 7 * i + 4) _ (by omega), w _ _ (9 + 7 * i + 6) _ (by omega)]
theorem man_rel {a n nt : Nat} {x y : XS} (ha : a ≤ 26) (hR : PR a n x y) (hL : LW x (x (a + 2)) (y 100) nt) : R2 (fun r x1 _ y1 => PR a n x1 y1 ∧ LW x1 (x1 (a + 2)) (y1 100) nt ∧ RS y y1 ∧ (y1 100 5 = y 100 5 ∧ y1 100 2 = y 100 2) ∧ sumK (y1 100) 6 n = sumK (y 100) 6 n + r) (fX4_receiveMan a x) (fX8_man y) := by
  unfold fX4_receiveMan fX8_man
  refine R2.bind (draw_rel ha hR hL) ?_
  rintro r1 x1 _ y1 ⟨rfl, ⟨v1, rfl⟩, hR1, hL1, hs1, hw1, hd1⟩
  refine R2.sL (R2.sR (R2.bind (draw_rel ha hR1 hL1) ?_))
  rintro r2 x2 _ y2 ⟨rfl, ⟨v2, rfl⟩, hR2, hL2, hs2, hw2, hd2⟩
  refine R2.sL (R2.sR (R2.bind (draw_rel ha hR2 hL2) ?_))
  rintro r3 x3 _ y3 ⟨rfl, ⟨v3, rfl⟩, hR3, hL3, hs3, hw3, hd3⟩
  refine R2.sL (R2.sR (R2.sL (R2.sR ?_)))
  have hs : RS y y3 := (hs1.tr hs2).tr hs3
  have hw : y3 100 5 = y 100 5 ∧ y3 100 2 = y 100 2 := ⟨by rw [hw3.1, hw2.1, hw1.1], by rw [hw3.2, hw2.2, hw1.2]⟩
  have hd : sumK (y3 100) 6 n = sumK (y 100) 6 n := by rw [hd3, hd2, hd1]
  clear hs1 hs2 hs3 hw1 hw2 hw3 hd1 hd2 hd3 hR hR1 hR2 hL hL1 hL2
  have hwr : rg 0 9 (jrem (jushr v1 8) 10) := by
    obtain ⟨k, hk, e⟩ := rem_rg (v := v1) (d := 10) (by omega) (by omega)
    rw [show (10 : Int32) = nI 10 from rfl, e]
    exact rg_nI (b := 9) (by omega) (by omega)
  obtain ⟨r, c1, c2, c3⟩ := choose (h := 1 + jrem (jushr v3 8) 9) hR3 hwr
  rw [c1, bd_e, c2, bd_e]
  generalize jrem (jushr v2 8) 10 = dd
  rcases c3 with rfl | ⟨j, hj, rfl⟩
  · rw [if_neg (by decide), if_neg (by decide)]
    refine R2.sL (R2.gR (by decide) (R2.gR (by decide) (R2.sR ?_)))
    rw [show ix 7 = 7 from rfl, show x3 a 7 = y3 100 7 from hR3.2.2.2.2.2.2.2.1]
    refine R2.ret ⟨PR_lost hR3, ?_, hs.tr (RS_wr (by omega) (by omega)), ?_, ?_⟩
    · exact hL3.mono (fun q h1 h2 => wr_ne (by omega)) (by rw [wr_ne (by omega)]) (RS_wr (by omega) (by omega)).1 (RS_wr (by omega) (by omega)).2
    · exact ⟨by rw [wr_at, if_pos rfl, if_neg (by omega)]; exact hw.1, by rw [wr_at, if_pos rfl, if_neg (by omega)]; exact hw.2⟩
    · rw [sumK_eq (M := y3 100) n (fun i hi => by rw [wr_at, if_pos rfl, if_neg (by omega)]), hd]; grind
  · obtain ⟨j8, b0, b1, b2, b3, b4, b5, b6, bk⟩ := hR3.boy hj
    rw [if_pos (nI_pos' (by omega)), if_pos (nI_pos' (by omega)), ix_nI (by omega)]
    refine R2.gL (inb_nI j8 (by omega)) ?_
    rw [ev_takes, bd_e, st_e, st_e]
    unfold fX8_serves
    rw [ev_of3 j8, bd_e]
    have f0 : ∀ k, k ≠ 5 → k ≠ 6 → wr (wr x3 (a + 3 + j) 5 (tk (x3 (a + 3 + j) 0) (x3 (a + 3 + j) 3))) (a + 3 + j) 6 (wr x3 (a + 3 + j) 5 (tk (x3 (a + 3 + j) 0) (x3 (a + 3 + j) 3)) (a + 3 + j) 6 + 1) (a + 3 + j) k = x3 (a + 3 + j) k := fun k h5 h6 => by
      rw [wr_at, if_pos rfl, if_neg h6, wr_at, if_pos rfl, if_neg h5]
    generalize hx4 : wr (wr x3 (a + 3 + j) 5 (tk (x3 (a + 3 + j) 0) (x3 (a + 3 + j) 3))) (a + 3 + j) 6 (wr x3 (a + 3 + j) 5 (tk (x3 (a + 3 + j) 0) (x3 (a + 3 + j) 3)) (a + 3 + j) 6 + 1) = x4 at *
    have g0 : ∀ q, q ≠ a + 3 + j → x4 q = x3 q := fun q hq => by rw [← hx4, wr_ne hq, wr_ne hq]
    have hL4 : LW x4 (x4 (a + 2)) (y3 100) nt := hL3.mono (fun q h1 h2 => g0 q (by omega)) (g0 _ (by omega)) (fun _ _ => rfl) rfl
    have hsh := shine_rel (r := x4 (a + 3 + j) 3) (d := dd) ha j8 (by rw [f0 0 (by omega) (by omega)]; exact b0) (by rw [f0 1 (by omega) (by omega)]; exact b1) hL4 (by rw [f0 3 (by omega) (by omega), b3]; have := bk.2.2.2.1; unfold rg at *; grind)
    obtain ⟨p, x5, _, y5, e1, e2, rfl, hp⟩ := hsh
    have k1 : ∀ q, q ≠ 40 → x5 q = x4 q := fun q hq => frX4_shineOf hq e1
    have k2 : ∀ q, q ≠ 110 → q ≠ 111 → y5 q = y3 q := fun q h1 h2 => frX8_shineOf h2 h1 e2
    have e2' : fX8_shineOf (nI j) (y3 100 (9 + 7 * j + 3)) dd y3 = some (p, y5) := by rw [← b3, ← f0 3 (by omega) (by omega)]; exact e2
    rw [e1, bd_e, ev_paid, bd_e, st_e, st_e, st_e, e2', bd_e]
    have p0 : x5 (a + 3 + j) 0 = y3 100 (9 + 7 * j) := by rw [k1 _ (by omega), f0 0 (by omega) (by omega), b0]
    have p2 : x5 (a + 3 + j) 2 = y3 100 (9 + 7 * j + 2) := by rw [k1 _ (by omega), f0 2 (by omega) (by omega), b2]
    have y5r : y5 100 = y3 100 := k2 100 (by omega) (by omega)
    have hpay : (if 30 ≤ p then bd (fX8_asksOf (nI j) y5) fun r_6 x_7 => if 90 ≤ p then fX8_serves_h40 (nI j) (r_6 + 1) x_7 else fX8_serves_h40 (nI j) (r_6 + 0) x_7 else fX8_serves_h40 (nI j) 0 y5) = fX8_serves_h40 (nI j) (pay (y3 100 (9 + 7 * j)) (y3 100 (9 + 7 * j + 2)) p) y5 := by
      rw [ev_asksOf j8 (by rw [y5r]; exact bk.2.2.1), bd_e, y5r]
      unfold pay
      by_cases h30 : 30 ≤ p
      · rw [if_pos h30, if_pos h30]
        by_cases h90 : 90 ≤ p
        · rw [if_pos h90, if_neg (by grind)]
        · rw [if_neg h90, if_pos (by grind), Int32.add_zero]
      · rw [if_neg h30, if_neg h30]
    rw [hpay, p0, p2]
    generalize hpp : pay (y3 100 (9 + 7 * j)) (y3 100 (9 + 7 * j + 2)) p = pp
    rw [ev_serves40 j8, bd_e, y5r]
    have x5a : x5 a = x3 a := by rw [k1 a (by omega), g0 a (by omega)]
    have es : x5 a 4 = y3 100 3 := by rw [x5a]; exact hR3.2.2.2.2.1
    have eo : x5 a 5 = y3 100 6 := by rw [x5a]; exact hR3.2.2.2.2.2.1
    rw [es, eo]
    have ep : ∀ v : Int32, wr x5 a 5 v (a + 3 + j) 4 = y3 100 (9 + 7 * j + 4) := fun v => by rw [wr_ne (by omega), k1 _ (by omega), f0 4 (by omega) (by omega), b4]
    rw [ep]
    have ee : y3 100 (9 + 7 * j + 4) + (pp - jdiv (pp * y3 100 3) 100) = y3 100 (9 + 7 * j + 4) + pp - jdiv (pp * y3 100 3) 100 := by grind
    rw [ee]
    generalize hsh2 : jdiv (pp * y3 100 3) 100 = shr
    have ysp : ∀ k, wr (wr (wr (wr y5 100 (9 + 7 * j + 5) (tk (y3 100 (9 + 7 * j)) (y3 100 (9 + 7 * j + 3)))) 100 (9 + 7 * j + 6) (y3 100 (9 + 7 * j + 6) + 1)) 100 (9 + 7 * j + 4) (y3 100 (9 + 7 * j + 4) + pp - shr)) 100 6 (y3 100 6 + shr) 100 k = if k = 6 then y3 100 6 + shr else if k = 9 + 7 * j + 4 then y3 100 (9 + 7 * j + 4) + pp - shr else if k = 9 + 7 * j + 5 then tk (y3 100 (9 + 7 * j)) (y3 100 (9 + 7 * j + 3)) else if k = 9 + 7 * j + 6 then y3 100 (9 + 7 * j + 6) + 1 else y3 100 k := by
      intro k
      rw [wr_at, if_pos rfl, wr_at, if_pos rfl, wr_at, if_pos rfl, wr_at, if_pos rfl, y5r]
      grind
    have y99 : wr (wr (wr (wr y5 100 (9 + 7 * j + 5) (tk (y3 100 (9 + 7 * j)) (y3 100 (9 + 7 * j + 3)))) 100 (9 + 7 * j + 6) (y3 100 (9 + 7 * j + 6) + 1)) 100 (9 + 7 * j + 4) (y3 100 (9 + 7 * j + 4) + pp - shr)) 100 6 (y3 100 6 + shr) 99 4 = y3 99 4 := by
      rw [wr_ne (by omega), wr_ne (by omega), wr_ne (by omega), wr_ne (by omega), k2 99 (by omega) (by omega)]
    generalize wr (wr (wr (wr y5 100 (9 + 7 * j + 5) (tk (y3 100 (9 + 7 * j)) (y3 100 (9 + 7 * j + 3)))) 100 (9 + 7 * j + 6) (y3 100 (9 + 7 * j + 6) + 1)) 100 (9 + 7 * j + 4) (y3 100 (9 + 7 * j + 4) + pp - shr)) 100 6 (y3 100 6 + shr) = y6 at *
    refine R2.ret ⟨PR_serve (j := j) (t := tk (y3 100 (9 + 7 * j)) (y3 100 (9 + 7 * j + 3))) (s := y3 100 (9 + 7 * j + 6) + 1) hR3 hj (tk_rg bk.2.2.2.1) ?_ ?_ ysp y99, ?_, hs.tr ⟨fun k hk => ?_, ?_⟩, ?_, ?_⟩
    · intro k
      rw [wr_ne (by omega), wr_at, if_pos rfl, x5a]
    · intro i k hi
      rw [wr_at]
      by_cases q : i = j
      · subst q
        rw [if_pos rfl, if_pos rfl, wr_ne (by omega), k1 _ (by omega), ← hx4]
        by_cases k4 : k = 4
        · rw [if_pos k4, if_pos k4]
        · rw [if_neg k4, if_neg k4, wr_at, if_pos rfl]
          by_cases k6 : k = 6
          · rw [if_pos k6, wr_at, if_pos rfl, if_neg (by omega), if_neg (by omega), if_pos k6, b6]
          · rw [if_neg k6, wr_at, if_pos rfl]
            by_cases k5 : k = 5
            · rw [if_pos k5, if_pos k5, b0, b3]
            · rw [if_neg k5, if_neg k5, if_neg k6]
      · rw [if_neg (by omega), if_neg q, wr_ne (by omega), k1 _ (by omega), g0 _ (by omega)]
    · refine hL3.mono (fun q h1 h2 => ?_) ?_ (fun k hk => ?_) ?_
      · rw [wr_ne (by omega), wr_ne (by omega), k1 _ (by omega), g0 _ (by omega)]
      · rw [wr_ne (by omega), wr_ne (by omega), k1 _ (by omega), g0 _ (by omega)]
      · rw [ysp]; grind
      · rw [ysp]; grind
    · rw [ysp]; grind
    · rw [ysp]; grind
    · exact ⟨by rw [ysp]; grind, by rw [ysp]; grind⟩
    · rw [← hd]
      refine sumK_one n hj (fun i hi hne => ?_) ?_
      · rw [ysp]; grind
      · rw [ysp]; grind
theorem wr_same {x : XS} {i k : Nat} {v : Int32} (h : x i k = v) : wr x i k v = x := by
  funext j q
  rw [wr_at]
  grind
theorem PR_busy {a n i : Nat} {x y : XS} {v : Int32} (h : PR a n x y) (hi : i < n) (hv : rg 0 99 v) : PR a n (wr x (a + 3 + i) 5 v) (wr y 100 (9 + 7 * i + 5) v) := by
  obtain ⟨h8, h1, h2, h3, h4, h5, h6, h7, h9, h10, h11, h12, h13, hb⟩ := h
  have e1 : wr x (a + 3 + i) 5 v a = x a := wr_ne (by omega)
  have e2 : ∀ k, k < 9 → wr y 100 (9 + 7 * i + 5) v 100 k = y 100 k := fun k hk => by rw [wr_at, if_pos rfl, if_neg (by omega)]
  refine ⟨h8, ?_, ?_, ?_, ?_, ?_, ?_, ?_, ?_, ?_, ?_, ?_, ?_, ?_⟩
  · rw [e2 1 (by omega)]; exact h1
  · rw [e1]; exact h2
  · rw [e1, e2 8 (by omega)]; exact h3
  · rw [e1, e2 3 (by omega)]; exact h4
  · rw [e1, e2 6 (by omega)]; exact h5
  · rw [e1, e2 4 (by omega)]; exact h6
  · rw [e1, e2 7 (by omega)]; exact h7
  · rw [e1, e2 2 (by omega)]; exact h9
  · rw [e1, e2 0 (by omega)]; exact h10
  · rw [e1, e2 5 (by omega)]; exact h11
  · rw [e2 5 (by omega)]; exact h12
  · rw [e1, wr_ne (by omega)]; exact h13
  · intro q hq
    obtain ⟨g1, g2⟩ := hb q hq
    refine ⟨fun k hk => ?_, ?_⟩
    · have := g1 k hk
      rw [wr_at, wr_at, if_pos rfl]
      grind
    · unfold BOK at *
      rw [wr_at, wr_at, wr_at, wr_at, wr_at, if_pos rfl, if_pos rfl, if_pos rfl, if_pos rfl, if_pos rfl]
      grind
/-- what a minute does in both -/
def MN (a n nt : Nat) (y : XS) (r : Int32) (x1 : XS) (_ : Unit) (y1 : XS) : Prop := PR a n x1 y1 ∧ LW x1 (x1 (a + 2)) (y1 100) nt ∧ RS y y1 ∧ y1 100 2 = y 100 2 + 1 ∧ sumK (y1 100) 6 n = sumK (y 100) 6 n + r
theorem end_rel {a n nt : Nat} {x y : XS} (ha : a ≤ 26) (hR : PR a n x y) (hL : LW x (x (a + 2)) (y 100) nt) : PR a n (wr x a 8 (x a 8 + 1)) (wr y 100 2 (y 100 2 + 1)) ∧ LW (wr x a 8 (x a 8 + 1)) (wr x a 8 (x a 8 + 1) (a + 2)) (wr y 100 2 (y 100 2 + 1) 100) nt ∧ RS y (wr y 100 2 (y 100 2 + 1)) ∧ wr y 100 2 (y 100 2 + 1) 100 2 = y 100 2 + 1 ∧ sumK (wr y 100 2 (y 100 2 + 1) 100) 6 n = sumK (y 100) 6 n := by
  have e : x a 8 = y 100 2 := hR.2.2.2.2.2.2.2.2.1
  rw [e]
  refine ⟨PR_min hR, hL.mono (fun j h1 h2 => wr_ne (by omega)) (by rw [wr_ne (by omega)]) (RS_wr (by omega) (by omega)).1 (RS_wr (by omega) (by omega)).2, RS_wr (by omega) (by omega), by rw [wr_at, if_pos rfl, if_pos rfl], sumK_eq n (fun i hi => by rw [wr_at, if_pos rfl, if_neg (by omega)])⟩
theorem men_loop {a n nt m : Nat} (ha : a ≤ 26) (hm : m ≤ 4) : ∀ (d k : Nat) (s : Int32) (x y : XS), k + d = m → PR a n x y → LW x (x (a + 2)) (y 100) nt → y 100 5 = 0 → ∀ f g : Nat, d < f → d < g →
    R2 (fun r x1 u y1 => ∃ q, r = s + q ∧ MN a n nt y q x1 u y1) (lX4_passMinute_h109 a f (nI m) s (nI k) x) (lX8_minute_h90 g (nI m) (nI k) y) := by
  intro d
  induction d with
  | zero =>
    intro k s x y hk hR hL hw f g hf hg
    obtain ⟨f, rfl⟩ : ∃ q, f = q + 1 := ⟨f - 1, by omega⟩
    obtain ⟨g, rfl⟩ : ∃ q, g = q + 1 := ⟨g - 1, by omega⟩
    show R2 _ (bX4_passMinute_h109 a (lX4_passMinute_h109 a f) (nI m) s (nI k) x) (bX8_minute_h90 (lX8_minute_h90 g) (nI m) (nI k) y)
    have e : m = k := by omega
    subst e
    unfold bX4_passMinute_h109 bX8_minute_h90
    rw [if_pos (Int32.le_refl _), if_pos (Int32.le_refl _)]
    refine R2.sL (R2.gR (by decide) (R2.gR (by decide) (R2.sR ?_)))
    rw [show ix 2 = 2 from rfl]
    obtain ⟨a1, a2, a3, a4, a5⟩ := end_rel ha hR hL
    exact R2.ret ⟨0, by grind, a1, a2, a3, a4, by rw [a5]; grind⟩
  | succ d ih =>
    intro k s x y hk hR hL hw f g hf hg
    obtain ⟨f, rfl⟩ : ∃ q, f = q + 1 := ⟨f - 1, by omega⟩
    obtain ⟨g, rfl⟩ : ∃ q, g = q + 1 := ⟨g - 1, by omega⟩
    show R2 _ (bX4_passMinute_h109 a (lX4_passMinute_h109 a f) (nI m) s (nI k) x) (bX8_minute_h90 (lX8_minute_h90 g) (nI m) (nI k) y)
    have hlt : ¬ nI m ≤ nI k := nI_ge (by omega) (by omega)
    unfold bX4_passMinute_h109 bX8_minute_h90
    rw [if_neg hlt, if_neg hlt]
    refine R2.gR (by decide) ?_
    rw [show ix 5 = 5 from rfl, if_pos hw]
    refine R2.bind (man_rel ha hR hL) ?_
    rintro r x1 _ y1 ⟨hR1, hL1, hs1, ⟨hw1, hm1⟩, hd1⟩
    refine R2.sL (R2.sL (R2.sR ?_))
    rw [nI_1]
    refine (ih (k + 1) (s + r) x1 y1 (by omega) hR1 hL1 (by rw [hw1]; exact hw) f g (by omega) (by omega)).mono ?_
    rintro r2 x2 _ y2 ⟨q, hq, b1, b2, b3, b4, b5⟩
    exact ⟨r + q, by rw [hq]; grind, b1, b2, hs1.tr b3, by rw [b4, hm1], by rw [b5, hd1]; grind⟩
theorem h78_rel {a n nt : Nat} {x y : XS} {w : Int32} (ha : a ≤ 26) (hR : PR a n x y) (hL : LW x (x (a + 2)) (y 100) nt) (hw : w = 0 ∨ w = 1) : R2 (MN a n nt y) (fX4_passMinute_h78 a w x) (fX8_minute_h70 w y) := by
  unfold fX4_passMinute_h78 fX8_minute_h70
  refine R2.bind (draw_rel ha hR hL) ?_
  rintro r x1 _ y1 ⟨rfl, ⟨v, rfl⟩, hR1, hL1, hs1, ⟨hw1, hm1⟩, hd1⟩
  refine R2.sL (R2.sR ?_)
  obtain ⟨m, hm, em⟩ := rem_rg (v := v) (d := 3) (by omega) (by omega)
  rw [show (3 : Int32) = nI 3 from rfl, em]
  have hwet := hR1.wet
  have e0 : nI m + 0 = nI m := Int32.add_zero _
  have e2 : nI m + 2 = nI (m + 2) := by rw [show (2 : Int32) = nI 2 from rfl, nI_add]
  have fin : ∀ m2, m2 ≤ 4 → y1 100 5 = 0 → R2 (MN a n nt y) (fX4_passMinute_h104 a (nI m2) x1) (fX8_minute_h90 (nI m2) 0 y1) := by
    intro m2 h4 hz
    unfold fX4_passMinute_h104 fX4_passMinute_h109 fX8_minute_h90
    refine (men_loop ha h4 m2 0 0 x1 y1 (by omega) hR1 hL1 hz FU FU (by unfold FU; omega) (by unfold FU; omega)).mono ?_
    rintro r x2 _ y2 ⟨q, hq, b1, b2, b3, b4, b5⟩
    have hqr : r = q := by rw [hq]; grind
    exact ⟨b1, b2, hs1.tr b3, by rw [b4, hm1], by rw [b5, hd1, hqr]⟩
  have wetc : ∀ m2, m2 ≤ 4 → y1 100 5 = 1 → R2 (MN a n nt y) (fX4_passMinute_h104 a 0 x1) (fX8_minute_h90 (nI m2) 0 y1) := by
    intro m2 h4 hz
    unfold fX4_passMinute_h104 fX4_passMinute_h109 fX8_minute_h90
    show R2 _ (bX4_passMinute_h109 a (lX4_passMinute_h109 a 3999) 0 0 0 x1) (bX8_minute_h90 (lX8_minute_h90 3999) (nI m2) 0 y1)
    unfold bX4_passMinute_h109 bX8_minute_h90
    rw [if_pos (Int32.le_refl _)]
    obtain ⟨a1, a2, a3, a4, a5⟩ := end_rel ha hR1 hL1
    have fin2 : MN a n nt y 0 (wr x1 a 8 (x1 a 8 + 1)) () (wr y1 100 2 (y1 100 2 + 1)) := ⟨a1, a2, hs1.tr a3, by rw [a4, hm1], by rw [a5, hd1]; grind⟩
    refine R2.sL (R2.ifR (fun _ => ?_) (fun _ => ?_))
    · refine R2.gR (by decide) (R2.gR (by decide) (R2.sR (R2.ret fin2)))
    · refine R2.gR (by decide) ?_
      rw [show ix 5 = 5 from rfl, if_neg (by rw [hz]; decide)]
      exact R2.gR (by decide) (R2.gR (by decide) (R2.sR (R2.ret fin2)))
  rw [hwet.1]
  rcases hw with rfl | rfl
  · rw [if_neg (show ¬ (0 : Int32) = 1 by decide), e0, if_pos rfl]
    refine R2.sR ?_
    rcases hwet.2 with hz | hz
    · rw [if_pos hz]; exact fin m (by omega) hz
    · rw [if_neg (by rw [hz]; decide)]; exact wetc m (by omega) hz
  · rw [if_pos (show (1 : Int32) = 1 from rfl), e2, if_neg (show ¬ (1 : Int32) = 0 by decide), st_e]
    refine R2.sR ?_
    rcases hwet.2 with hz | hz
    · rw [if_pos hz]; exact fin (m + 2) (by omega) hz
    · rw [if_neg (by rw [hz]; decide)]; exact wetc (m + 2) (by omega) hz
theorem minute_loop {a n nt : Nat} (ha : a ≤ 26) : ∀ (d i : Nat) (x y : XS), i + d = n → PR a n x y → LW x (x (a + 2)) (y 100) nt → ∀ f g : Nat, d < f → d < g → R2 (MN a n nt y) (lX4_passMinute_h2 a f (nI i) x) (lX8_minute_h2 g (nI i) y) := by
  intro d
  induction d with
  | zero =>
    intro i x y hi hR hL f g hf hg
    obtain ⟨f, rfl⟩ : ∃ q, f = q + 1 := ⟨f - 1, by omega⟩
    obtain ⟨g, rfl⟩ : ∃ q, g = q + 1 := ⟨g - 1, by omega⟩
    show R2 _ (bX4_passMinute_h2 a (lX4_passMinute_h2 a f) (nI i) x) (bX8_minute_h2 (lX8_minute_h2 g) (nI i) y)
    unfold bX4_passMinute_h2 bX8_minute_h2
    have x2 : x a 2 = nI i := by rw [show i = n by omega]; exact hR.2.2.1
    have y1 : y 100 1 = nI i := by rw [show i = n by omega]; exact hR.2.1
    rw [x2, if_pos (Int32.le_refl _)]
    refine R2.gR (by decide) ?_
    rw [show ix 1 = 1 from rfl, y1, if_pos (Int32.le_refl _)]
    refine R2.sL (R2.gR (by decide) (R2.sR ?_))
    rw [show ix 5 = 5 from rfl]
    refine R2.bind (draw_rel ha hR hL) ?_
    rintro r x1 _ y1 ⟨rfl, ⟨v, rfl⟩, hR1, hL1, hs1, ⟨hw1, hm1⟩, hd1⟩
    refine R2.sL (R2.sR (R2.gR (by decide) ?_))
    have hwet := hR1.wet
    rw [show ix 4 = 4 from rfl, show x1 a 6 = y1 100 4 from hR1.2.2.2.2.2.2.1, hR.wet.1, ← hw1]
    have up : ∀ z z1 : XS, ∀ r x2 y2, RS y1 z1 → z1 100 2 = y1 100 2 → sumK (z1 100) 6 n = sumK (y1 100) 6 n → MN a n nt z1 r x2 () y2 → MN a n nt y r x2 () y2 := by
      rintro z z1 r x2 y2 h1 h2 h3 ⟨b1, b2, b3, b4, b5⟩
      exact ⟨b1, b2, (hs1.tr h1).tr b3, by rw [b4, h2, hm1], by rw [b5, h3, hd1]⟩
    refine R2.ite (fun _ => ?_) (fun _ => ?_)
    · exact (h78_rel ha hR1 hL1 hwet.2).mono (fun r x2 _ y2 h => up x1 y1 r x2 y2 RS.rf rfl rfl h)
    · refine R2.gR (by decide) ?_
      have go : ∀ w : Int32, (w = 0 ∨ w = 1) → R2 (MN a n nt y) (fX4_passMinute_h78 a (y1 100 5) (wr x1 a 10 w)) (fX8_minute_h70 (y1 100 5) (wr y1 100 5 w)) := by
        intro w hw
        have hs := RS_wr (y := y1) (k := 5) (v := w) (by omega) (by omega)
        refine (h78_rel ha (PR_wet hR1 hw) (hL1.mono (fun j h1 h2 => wr_ne (by omega)) (by rw [wr_ne (by omega)]) hs.1 hs.2) hwet.2).mono (fun r x2 _ y2 h => up x1 _ r x2 y2 hs ?_ ?_ h)
        · rw [wr_at, if_pos rfl, if_neg (by omega)]
        · exact sumK_eq n (fun i hi => by rw [wr_at, if_pos rfl, if_neg (by omega)])
      rw [hwet.1]
      rcases hwet.2 with hz | hz
      · rw [if_pos hz]
        refine R2.sL (R2.sR ?_)
        have e : (1 : Int32) - y1 100 5 = 1 := by rw [hz]; decide
        rw [e]
        exact go 1 (Or.inr rfl)
      · rw [if_neg (by rw [hz]; decide)]
        refine R2.sL (R2.sR ?_)
        have e : (1 : Int32) - y1 100 5 = 0 := by rw [hz]; decide
        rw [e]
        exact go 0 (Or.inl rfl)
  | succ d ih =>
    intro i x y hi hR hL f g hf hg
    obtain ⟨f, rfl⟩ : ∃ q, f = q + 1 := ⟨f - 1, by omega⟩
    obtain ⟨g, rfl⟩ : ∃ q, g = q + 1 := ⟨g - 1, by omega⟩
    show R2 _ (bX4_passMinute_h2 a (lX4_passMinute_h2 a f) (nI i) x) (bX8_minute_h2 (lX8_minute_h2 g) (nI i) y)
    obtain ⟨i8, b0, b1, b2, b3, b4, b5, b6, bk⟩ := hR.boy (i := i) (by omega)
    have hn8 := hR.1
    have hlt : ¬ nI n ≤ nI i := nI_ge (by omega) (by omega)
    have inm : inb (nI i) 8 = true := inb_nI i8 (by omega)
    have hbz := bk.2.2.2.2
    have go : ∀ v, rg 0 99 v → R2 (MN a n nt y) (lX4_passMinute_h2 a f (nI i + 1) (wr x (a + 3 + i) 5 v)) (lX8_minute_h2 g (nI i + 1) (wr y 100 (9 + 7 * i + 5) v)) := by
      intro v hv
      rw [nI_1]
      have hs := RS_wr (y := y) (k := 9 + 7 * i + 5) (v := v) (by omega) (by omega)
      refine (ih (i + 1) _ _ (by omega) (PR_busy hR (by omega) hv) (hL.mono (fun j h1 h2 => wr_ne (by omega)) (by rw [wr_ne (by omega)]) hs.1 hs.2) f g (by omega) (by omega)).mono ?_
      rintro r x2 _ y2 ⟨c1, c2, c3, c4, c5⟩
      refine ⟨c1, c2, hs.tr c3, ?_, ?_⟩
      · rw [c4, wr_at, if_pos rfl, if_neg (by omega)]
      · rw [c5, sumK_eq n (fun q hq => by rw [wr_at, if_pos rfl, if_neg (by omega)])]
    unfold bX4_passMinute_h2 bX8_minute_h2
    rw [show x a 2 = nI n from hR.2.2.1, if_neg hlt]
    refine R2.gR (by decide) ?_
    rw [show ix 1 = 1 from rfl, show y 100 1 = nI n from hR.2.1, if_neg hlt]
    refine R2.gL inm (R2.bR (ev_of5 i8) (R2.bR ev_within (R2.bR (ev_put5 i8) (R2.sR ?_))))
    rw [ix_nI (by omega), b5]
    refine R2.ifL (fun c => ?_) (fun c => ?_)
    · have hz : y 100 (9 + 7 * i + 5) = 0 := by unfold rg at hbz; grind
      refine R2.sL ?_
      have e : (if y 100 (9 + 7 * i + 5) - 1 < 0 then (0 : Int32) else if 99 < y 100 (9 + 7 * i + 5) - 1 then 99 else y 100 (9 + 7 * i + 5) - 1) = 0 := by rw [hz]; decide
      rw [e]
      have := go 0 (by unfold rg; decide)
      rw [wr_same (show x (a + 3 + i) 5 = 0 by rw [b5, hz])] at this
      exact this
    · refine R2.gL inm (R2.sL (R2.sL ?_))
      have e : (if y 100 (9 + 7 * i + 5) - 1 < 0 then (0 : Int32) else if 99 < y 100 (9 + 7 * i + 5) - 1 then 99 else y 100 (9 + 7 * i + 5) - 1) = y 100 (9 + 7 * i + 5) - 1 := by unfold rg at hbz; grind
      rw [e]
      exact go _ (by unfold rg at *; grind)
theorem minute_rel {a n nt : Nat} {x y : XS} (ha : a ≤ 26) (hR : PR a n x y) (hL : LW x (x (a + 2)) (y 100) nt) : R2 (MN a n nt y) (fX4_passMinute a x) (fX8_minute y) := by
  have hn := hR.1
  exact minute_loop ha n 0 x y (by omega) hR hL FU FU (by unfold FU; omega) (by unfold FU; omega)
