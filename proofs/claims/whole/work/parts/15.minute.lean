theorem PR_lost {a n : Nat} {x y : XS} {v : Int32} (h : PR a n x y) : PR a n (wr x a 7 v) (wr y 100 7 v) := by
  unfold PR BOK at *
  grind [wr_at]
theorem PR_min {a n : Nat} {x y : XS} {v : Int32} (h : PR a n x y) : PR a n (wr x a 8 v) (wr y 100 2 v) := by
  unfold PR BOK at *
  grind [wr_at]
theorem PR_wet {a n : Nat} {x y : XS} {v : Int32} (h : PR a n x y) (hv : v = 0 ∨ v = 1) : PR a n (wr x a 10 v) (wr y 100 5 v) := by
  unfold PR BOK at *
  grind [wr_at]
theorem PR.z {a n : Nat} {x y : XS} (h : PR a n x y) : x a 9 = y 100 0 := h.2.2.2.2.2.2.2.2.2.1
theorem PR.wet {a n : Nat} {x y : XS} (h : PR a n x y) : x a 10 = y 100 5 ∧ (y 100 5 = 0 ∨ y 100 5 = 1) := ⟨h.2.2.2.2.2.2.2.2.2.2.1, h.2.2.2.2.2.2.2.2.2.2.2.1⟩
theorem RS_wr {y : XS} {k : Nat} {v : Int32} (hk : k < 65) (h8 : k ≠ 8) : RS y (wr y 100 k v) := by
  unfold RS
  refine ⟨fun j hj => ?_, ?_⟩
  · rw [wr_at, if_pos rfl, if_neg (by omega)]
  · rw [wr_at, if_pos rfl, if_neg (by omega)]
/-- one draw in both -/
theorem draw_rel {a n nt : Nat} {x y : XS} (ha : a ≤ 26) (hR : PR a n x y) (hL : LW x (x (a + 2)) (y 100) nt) : R2 (fun r x1 q y1 => r = q ∧ (∃ v, r = jushr v 8) ∧ PR a n x1 y1 ∧ LW x1 (x1 (a + 2)) (y1 100) nt ∧ RS y y1 ∧ y1 100 5 = y 100 5 ∧ sumK (y1 100) 6 n = sumK (y 100) 6 n) (fX4_draw a x) (fX8_draw y) := by
  rw [ev_draw, ev_mdraw, hR.z]
  refine R2.ret ⟨rfl, ⟨_, rfl⟩, PR_draw hR, ?_, RS_wr (by omega) (by omega), ?_, ?_⟩
  · refine hL.mono (fun j h1 h2 => wr_ne (by omega)) (by rw [wr_ne (by omega)]) (RS_wr (by omega) (by omega)).1 (RS_wr (by omega) (by omega)).2
  · rw [wr_at, if_pos rfl, if_neg (by omega)]
  · exact sumK_eq n (fun i hi => by rw [wr_at, if_pos rfl, if_neg (by omega)])
def pay (K P p : Int32) : Int32 := if 30 ≤ p then (if p < 90 then ak K P else ak K P + 1) else 0
theorem ev_paid {a1 : Nat} {p : Int32} {x : XS} : fX4_paidTo a1 p x = some (pay (x a1 0) (x a1 2) p, x) := by
  unfold fX4_paidTo pay
  rw [ev_asks, bd_e]
  grind
theorem bI {k n : Nat} (h : k < n) (hn : n < 2147483648) (v : Int32) (hv : v = nI k) : inb v n = true := by rw [hv]; exact inb_nI h hn
/-- the end of serves -/
theorem ev_serves40 {i : Nat} {s0 : Int32} {y : XS} (hi : i < 8) : fX8_serves_h40 (nI i) s0 y = some ((), wr (wr (wr (wr y 100 (9 + 7 * i + 5) (tk (y 100 (9 + 7 * i)) (y 100 (9 + 7 * i + 3)))) 100 (9 + 7 * i + 6) (y 100 (9 + 7 * i + 6) + 1)) 100 (9 + 7 * i + 4) (y 100 (9 + 7 * i + 4) + s0 - jdiv (s0 * y 100 3) 100)) 100 6 (y 100 6 + jdiv (s0 * y 100 3) 100)) := by
  unfold fX8_serves_h40
  rw [gd_e (by decide), st_e, ev_takesOf hi, bd_e, ev_put5 hi, bd_e, ev_of6 hi, bd_e, ev_put6 hi, bd_e, ev_of4 hi, bd_e, ev_put4 hi, bd_e, gd_e (by decide), gd_e (by decide), st_e, show ix 3 = 3 from rfl, show ix 6 = 6 from rfl]
  have w : ∀ (z : XS) (k h : Nat) (v : Int32), h ≠ k → wr z 100 k v 100 h = z 100 h := fun z k h v hne => by rw [wr_at, if_pos rfl, if_neg hne]
  rw [w _ _ 6 _ (by omega), w _ _ 6 _ (by omega), w _ _ 6 _ (by omega), w _ _ (9 + 7 * i + 4) _ (by omega), w _ _ (9 + 7 * i + 4) _ (by omega), w _ _ (9 + 7 * i + 6) _ (by omega)]
theorem man_rel {a n nt : Nat} {x y : XS} (ha : a ≤ 26) (hR : PR a n x y) (hL : LW x (x (a + 2)) (y 100) nt) : R2 (fun r x1 _ y1 => PR a n x1 y1 ∧ LW x1 (x1 (a + 2)) (y1 100) nt ∧ RS y y1 ∧ y1 100 5 = y 100 5 ∧ sumK (y1 100) 6 n = sumK (y 100) 6 n + r) (fX4_receiveMan a x) (fX8_man y) := by
  unfold fX4_receiveMan fX8_man
  refine R2.bind (draw_rel ha hR hL) ?_
  rintro r1 x1 _ y1 ⟨rfl, ⟨v1, rfl⟩, hR1, hL1, hs1, hw1, hd1⟩
  refine R2.sL (R2.sR (R2.bind (draw_rel ha hR1 hL1) ?_))
  rintro r2 x2 _ y2 ⟨rfl, ⟨v2, rfl⟩, hR2, hL2, hs2, hw2, hd2⟩
  refine R2.sL (R2.sR (R2.bind (draw_rel ha hR2 hL2) ?_))
  rintro r3 x3 _ y3 ⟨rfl, ⟨v3, rfl⟩, hR3, hL3, hs3, hw3, hd3⟩
  refine R2.sL (R2.sR (R2.sL (R2.sR ?_)))
  have hs : RS y y3 := (hs1.tr hs2).tr hs3
  have hw : y3 100 5 = y 100 5 := by rw [hw3, hw2, hw1]
  have hd : sumK (y3 100) 6 n = sumK (y 100) 6 n := by rw [hd3, hd2, hd1]
  clear hs1 hs2 hs3 hw1 hw2 hw3 hd1 hd2 hd3 hR hR1 hR2 hL hL1 hL2
  have hwr : rg 0 9 (jrem (jushr v1 8) 10) := by
    obtain ⟨k, hk, e⟩ := rem_rg (v := v1) (d := 10) (by omega) (by omega)
    rw [show (10 : Int32) = nI 10 from rfl, e]
    exact rg_nI (b := 9) (by omega) (by omega)
  obtain ⟨r, c1, c2, c3⟩ := choose (h := 1 + jrem (jushr v3 8) 9) hR3 hwr
  rw [c1, bd_e, c2, bd_e]
  generalize jrem (jushr v2 8) 10 = dd
  rcases c3 with rfl | ⟨j, hj, rfl⟩
  · rw [if_neg (by decide), if_neg (by decide)]
    refine R2.sL (R2.gR (by decide) (R2.gR (by decide) (R2.sR ?_)))
    rw [show ix 7 = 7 from rfl, show x3 a 7 = y3 100 7 from hR3.2.2.2.2.2.2.2.1]
    refine R2.ret ⟨PR_lost hR3, ?_, hs.tr (RS_wr (by omega) (by omega)), ?_, ?_⟩
    · exact hL3.mono (fun q h1 h2 => wr_ne (by omega)) (by rw [wr_ne (by omega)]) (RS_wr (by omega) (by omega)).1 (RS_wr (by omega) (by omega)).2
    · rw [wr_at, if_pos rfl, if_neg (by omega)]; exact hw
    · rw [sumK_eq (M := y3 100) n (fun i hi => by rw [wr_at, if_pos rfl, if_neg (by omega)]), hd]; grind
  · obtain ⟨j8, b0, b1, b2, b3, b4, b5, b6, bk⟩ := hR3.boy hj
    rw [if_pos (nI_pos' (by omega)), if_pos (nI_pos' (by omega)), ix_nI (by omega)]
    refine R2.gL (inb_nI j8 (by omega)) ?_
    rw [ev_takes, bd_e, st_e, st_e]
    unfold fX8_serves
    rw [ev_of3 j8, bd_e]
    have f0 : ∀ k, k ≠ 5 → k ≠ 6 → wr (wr x3 (a + 3 + j) 5 (tk (x3 (a + 3 + j) 0) (x3 (a + 3 + j) 3))) (a + 3 + j) 6 (wr x3 (a + 3 + j) 5 (tk (x3 (a + 3 + j) 0) (x3 (a + 3 + j) 3)) (a + 3 + j) 6 + 1) (a + 3 + j) k = x3 (a + 3 + j) k := fun k h5 h6 => by
      rw [wr_at, if_pos rfl, if_neg h6, wr_at, if_pos rfl, if_neg h5]
    generalize hx4 : wr (wr x3 (a + 3 + j) 5 (tk (x3 (a + 3 + j) 0) (x3 (a + 3 + j) 3))) (a + 3 + j) 6 (wr x3 (a + 3 + j) 5 (tk (x3 (a + 3 + j) 0) (x3 (a + 3 + j) 3)) (a + 3 + j) 6 + 1) = x4 at *
    have g0 : ∀ q, q ≠ a + 3 + j → x4 q = x3 q := fun q hq => by rw [← hx4, wr_ne hq, wr_ne hq]
    have hL4 : LW x4 (x4 (a + 2)) (y3 100) nt := hL3.mono (fun q h1 h2 => g0 q (by omega)) (g0 _ (by omega)) (fun _ _ => rfl) rfl
    have hsh := shine_rel (r := x4 (a + 3 + j) 3) (d := dd) ha j8 (by rw [f0 0 (by omega) (by omega)]; exact b0) (by rw [f0 1 (by omega) (by omega)]; exact b1) hL4 (by rw [f0 3 (by omega) (by omega), b3]; have := bk.2.2.2.1; unfold rg at *; grind)
    obtain ⟨p, x5, _, y5, e1, e2, rfl, hp⟩ := hsh
    have k1 : ∀ q, q ≠ 40 → x5 q = x4 q := fun q hq => frX4_shineOf hq e1
    have k2 : ∀ q, q ≠ 110 → q ≠ 111 → y5 q = y3 q := fun q h1 h2 => frX8_shineOf h2 h1 e2
    have e2' : fX8_shineOf (nI j) (y3 100 (9 + 7 * j + 3)) dd y3 = some (p, y5) := by rw [← b3, ← f0 3 (by omega) (by omega)]; exact e2
    rw [e1, bd_e, ev_paid, bd_e, st_e, st_e, st_e, e2', bd_e]
    have p0 : x5 (a + 3 + j) 0 = y3 100 (9 + 7 * j) := by rw [k1 _ (by omega), f0 0 (by omega) (by omega), b0]
    have p2 : x5 (a + 3 + j) 2 = y3 100 (9 + 7 * j + 2) := by rw [k1 _ (by omega), f0 2 (by omega) (by omega), b2]
    have y5r : y5 100 = y3 100 := k2 100 (by omega) (by omega)
    have hpay : (if 30 ≤ p then bd (fX8_asksOf (nI j) y5) fun r_6 x_7 => if 90 ≤ p then fX8_serves_h40 (nI j) (r_6 + 1) x_7 else fX8_serves_h40 (nI j) (r_6 + 0) x_7 else fX8_serves_h40 (nI j) 0 y5) = fX8_serves_h40 (nI j) (pay (y3 100 (9 + 7 * j)) (y3 100 (9 + 7 * j + 2)) p) y5 := by
      rw [ev_asksOf j8 (by rw [y5r]; exact bk.2.2.1), bd_e, y5r]
      unfold pay
      by_cases h30 : 30 ≤ p
      · rw [if_pos h30, if_pos h30]
        by_cases h90 : 90 ≤ p
        · rw [if_pos h90, if_neg (by grind)]
        · rw [if_neg h90, if_pos (by grind), Int32.add_zero]
      · rw [if_neg h30, if_neg h30]
    rw [hpay, p0, p2]
    generalize hpp : pay (y3 100 (9 + 7 * j)) (y3 100 (9 + 7 * j + 2)) p = pp
    rw [ev_serves40 j8, bd_e, y5r]
    have x5a : x5 a = x3 a := by rw [k1 a (by omega), g0 a (by omega)]
    have es : x5 a 4 = y3 100 3 := by rw [x5a]; exact hR3.2.2.2.2.1
    have eo : x5 a 5 = y3 100 6 := by rw [x5a]; exact hR3.2.2.2.2.2.1
    rw [es, eo]
    have ep : ∀ v : Int32, wr x5 a 5 v (a + 3 + j) 4 = y3 100 (9 + 7 * j + 4) := fun v => by rw [wr_ne (by omega), k1 _ (by omega), f0 4 (by omega) (by omega), b4]
    rw [ep]
    have ee : y3 100 (9 + 7 * j + 4) + (pp - jdiv (pp * y3 100 3) 100) = y3 100 (9 + 7 * j + 4) + pp - jdiv (pp * y3 100 3) 100 := by grind
    rw [ee]
    generalize hsh2 : jdiv (pp * y3 100 3) 100 = shr
    have ysp : ∀ k, wr (wr (wr (wr y5 100 (9 + 7 * j + 5) (tk (y3 100 (9 + 7 * j)) (y3 100 (9 + 7 * j + 3)))) 100 (9 + 7 * j + 6) (y3 100 (9 + 7 * j + 6) + 1)) 100 (9 + 7 * j + 4) (y3 100 (9 + 7 * j + 4) + pp - shr)) 100 6 (y3 100 6 + shr) 100 k = if k = 6 then y3 100 6 + shr else if k = 9 + 7 * j + 4 then y3 100 (9 + 7 * j + 4) + pp - shr else if k = 9 + 7 * j + 5 then tk (y3 100 (9 + 7 * j)) (y3 100 (9 + 7 * j + 3)) else if k = 9 + 7 * j + 6 then y3 100 (9 + 7 * j + 6) + 1 else y3 100 k := by
      intro k
      rw [wr_at, if_pos rfl, wr_at, if_pos rfl, wr_at, if_pos rfl, wr_at, if_pos rfl, y5r]
      grind
    have y99 : wr (wr (wr (wr y5 100 (9 + 7 * j + 5) (tk (y3 100 (9 + 7 * j)) (y3 100 (9 + 7 * j + 3)))) 100 (9 + 7 * j + 6) (y3 100 (9 + 7 * j + 6) + 1)) 100 (9 + 7 * j + 4) (y3 100 (9 + 7 * j + 4) + pp - shr)) 100 6 (y3 100 6 + shr) 99 4 = y3 99 4 := by
      rw [wr_ne (by omega), wr_ne (by omega), wr_ne (by omega), wr_ne (by omega), k2 99 (by omega) (by omega)]
    generalize wr (wr (wr (wr y5 100 (9 + 7 * j + 5) (tk (y3 100 (9 + 7 * j)) (y3 100 (9 + 7 * j + 3)))) 100 (9 + 7 * j + 6) (y3 100 (9 + 7 * j + 6) + 1)) 100 (9 + 7 * j + 4) (y3 100 (9 + 7 * j + 4) + pp - shr)) 100 6 (y3 100 6 + shr) = y6 at *
    refine R2.ret ⟨PR_serve (j := j) (t := tk (y3 100 (9 + 7 * j)) (y3 100 (9 + 7 * j + 3))) (s := y3 100 (9 + 7 * j + 6) + 1) hR3 hj (tk_rg bk.2.2.2.1) ?_ ?_ ysp y99, ?_, hs.tr ⟨fun k hk => ?_, ?_⟩, ?_, ?_⟩
    · intro k
      rw [wr_ne (by omega), wr_at, if_pos rfl, x5a]
    · intro i k hi
      rw [wr_at]
      by_cases q : i = j
      · subst q
        rw [if_pos rfl, if_pos rfl, wr_ne (by omega), k1 _ (by omega), ← hx4]
        by_cases k4 : k = 4
        · rw [if_pos k4, if_pos k4]
        · rw [if_neg k4, if_neg k4, wr_at, if_pos rfl]
          by_cases k6 : k = 6
          · rw [if_pos k6, wr_at, if_pos rfl, if_neg (by omega), if_neg (by omega), if_pos k6, b6]
          · rw [if_neg k6, wr_at, if_pos rfl]
            by_cases k5 : k = 5
            · rw [if_pos k5, if_pos k5, b0, b3]
            · rw [if_neg k5, if_neg k5, if_neg k6]
      · rw [if_neg (by omega), if_neg q, wr_ne (by omega), k1 _ (by omega), g0 _ (by omega)]
    · refine hL3.mono (fun q h1 h2 => ?_) ?_ (fun k hk => ?_) ?_
      · rw [wr_ne (by omega), wr_ne (by omega), k1 _ (by omega), g0 _ (by omega)]
      · rw [wr_ne (by omega), wr_ne (by omega), k1 _ (by omega), g0 _ (by omega)]
      · rw [ysp]; grind
      · rw [ysp]; grind
    · rw [ysp]; grind
    · rw [ysp]; grind
    · rw [ysp]; grind
    · rw [← hd]
      refine sumK_one n hj (fun i hi hne => ?_) ?_
      · rw [ysp]; grind
      · rw [ysp]; grind
