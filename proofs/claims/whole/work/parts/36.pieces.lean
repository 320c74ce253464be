theorem FA.refl {a : Nat} {x : XS} : FA a x x := ⟨fun _ _ _ => rfl, rfl⟩
theorem Fl.tr {a : Nat} {x y x1 y1 x2 : XS} {r : Int32} {mo : Option (Int32 × XS)} (h : Fl a x1 y1 x2 r mo) (hx : FX a x x1) (hy : FY y y1) : Fl a x y x2 r mo := by
  obtain ⟨h1, z, p1, h2, h3, h4, h5, h6, h7⟩ := h
  exact ⟨h1, z, p1, h2, h3, h4, h5, hx.tr h6, hy.tr h7⟩
theorem not_case {n a ky L p q nu par ban k g d : Nat} {C W0 : List Int32} {x y : XS} (IH : RPc n) (ha : 41 ≤ a) (hky : ky < 3) (hn : 7 * (8 - par) + (8 - ban) + 1 ≤ n + 1) (hpar : par ≤ 8) (hban : ban < 8) (hS : ST a ky L p q nu C C (List.replicate k (-10) ++ W0) x y) (hc1 : W0.count (-11) = par) (hc2 : k + W0.count (-10) = ban) (hW : hdP W0 6) (hd : dlr C = some d) (hg : 100 ≤ g + 1 + p) (hpq : q = p + 1) (h10 : y 99 10 = 3) (h11 : y 99 11 = 33) : ∃ r x1, (bd (fX5_step x) (fun _ x_8 => (bd ((fEP n).2 a (nI par) (nI ban + 1) x_8) (fun r_9 x_10 => (if r_9 = 0 then (some (0, x_10)) else (bd (fX6_addSign a 33 x_10) (fun _ x_13 => (some (1, x_13))))))))) = some (r, x1) ∧ (Fl a x y x1 r (lX8_takesE_h28 (g + 1) (nI par) (nI ban) 1 y) ∨ OkP a ky L p d par k W0 x y x1 r (lX8_takesE_h28 (g + 1) (nI par) (nI ban) 1 y)) := by
  obtain ⟨hT, hK, hC, hM, l1, l2, hD⟩ := hS
  have hL : L ≤ 96 := hT.1
  have hq : q ≤ L := hK.2.1
  have l1' := l1
  simp only [List.length_append, List.length_replicate] at l1'
  obtain ⟨m1, m2⟩ := hM.push (s := -10)
  obtain ⟨x1, y1, p1, q1, s1, s2, s3, s4, s5, s6⟩ := both_step ha hT hK FA.refl m2 hC m1 (by simp only [List.length_cons]; omega) (by omega) hD
  have hrep : (-10 : Int32) :: (List.replicate k (-10) ++ W0) = List.replicate (k + 1) (-10) ++ W0 := rfl
  rw [hrep] at s4
  have hcnt := rep_count (k + 1) W0
  have em : lX8_takesE_h28 (g + 1) (nI par) (nI ban) 1 y = lX8_takesE_h28 g (nI par) (nI (ban + 1)) 1 y1 := by
    rw [m_not hM h10 h11 hban (by simp only [List.length_append, List.length_replicate]; omega), s2, bd_e, h172 (ban := ban + 1) s4.2.2.2.1 (by simp only [List.length_append, List.length_replicate]; omega) (by rw [hcnt.2]; omega)]
  obtain ⟨r, x2, e1, e2⟩ := IH a ky L p1 q1 nu par (ban + 1) (k + 1) g d C W0 x1 y1 ha hky (by omega) hpar (by omega) s4 hc1 (by omega) hW hd (by omega)
  rw [s1, bd_e, nI_1, e1, bd_e, em]
  rcases e2 with hF | ⟨rfl, y2, g1, D1, p2, q2, nu1, o1, o2, o3, o4, o5, o6, o7, o8⟩
  · refine ⟨0, x2, ?_, Or.inl ?_⟩
    · rw [if_pos hF.1]
    · have := hF.tr (s5.fx ha) (m2.fy.tr s6.fy)
      rw [hF.1] at this; exact this
  · have ol := o4.2.2.2.2.1
    simp only [List.length_append, List.length_replicate] at ol
    have hL2 : p2 ≤ 96 := by have := o4.2.1.1; have := o4.2.1.2.1; omega
    obtain ⟨X, a1, a2, a3⟩ := ev_addItem (m := -10) (v := 10033) o4.2.2.1 (by omega) (by decide)
    refine ⟨1, X, ?_, Or.inr ⟨rfl, y2, g1, (-10) :: D1, p2, q2, nu1, o1, o2, by omega, ?_, ?_, fun i hi => ?_, ?_, ?_⟩⟩
    · rw [if_neg (show ¬ (1 : Int32) = 0 by decide)]
      unfold fX6_addSign
      rw [show (10000 : Int32) + 33 = 10033 from rfl, a1, bd_e, bd_e]
    · have := o4.add (nu1 := nu1) ha a3 a2 (Or.inr (Or.inr (Or.inr (Or.inr (by decide))))) (by omega)
      rw [show List.replicate k (-10 : Int32) ++ (-10) :: D1 = List.replicate (k + 1) (-10) ++ D1 by rw [List.replicate_succ', List.append_assoc]; rfl]
      exact this
    · show (dlr D1).bind (dpt (-10)) = _
      rw [o5]
      show dpt (-10) (d + 1) = _
      unfold dpt
      rw [if_neg (by decide), if_pos rfl, if_pos (by omega)]
    · rw [o6 i hi, s6.1 109 (by omega), wr_ne (by omega), wr_ne (by omega)]
    · exact ((s5.fx ha).tr o7).tr (a3.fx ha)
    · exact (m2.fy.tr s6.fy).tr o8
theorem open_case {n a ky L p q nu par ban k g d : Nat} {C W0 : List Int32} {x y : XS} (IH : REc n) (ha : 41 ≤ a) (hky : ky < 3) (hn : 7 * (8 - par) + (8 - ban) + 1 ≤ n + 1) (hpar : par < 8) (hban : ban ≤ 8) (hS : ST a ky L p q nu C C (List.replicate k (-10) ++ W0) x y) (hc1 : W0.count (-11) = par) (hc2 : k + W0.count (-10) = ban) (hW : hdP W0 6) (hd : dlr C = some d) (hg : 100 ≤ g + 1 + p) (hpq : q = p + 1) (h10 : y 99 10 = 3) (h11 : y 99 11 = 40) : ∃ r x1, (bd (fX5_step x) (fun _ x_25 => (bd ((fEP n).1 a 0 (nI par + 1) (nI ban) x_25) (fun r_26 x_27 => (if r_26 = 0 then (some (0, x_27)) else (bd (fX5_isSign 41 x_27) (fun r_29 x_30 => (if r_29 = 0 then (some (0, x_30)) else (bd (fX5_step x_30) (fun _ x_33 => (some (1, x_33)))))))))))) = some (r, x1) ∧ (Fl a x y x1 r (lX8_takesE_h28 (g + 1) (nI par) (nI ban) 1 y) ∨ OkP a ky L p d par k W0 x y x1 r (lX8_takesE_h28 (g + 1) (nI par) (nI ban) 1 y)) := by
  obtain ⟨hT, hK, hC, hM, l1, l2, hD⟩ := hS
  have hL : L ≤ 96 := hT.1
  have hq : q ≤ L := hK.2.1
  have l1' := l1
  simp only [List.length_append, List.length_replicate] at l1'
  obtain ⟨m1, m2⟩ := hM.push (s := -11)
  obtain ⟨Y, hY⟩ : ∃ Y, Y = wr (wr (wr y 108 (List.replicate k (-10) ++ W0).length (-11)) 99 20 (nI ((List.replicate k (-10) ++ W0).length + 1))) 109 (par + 1) 0 := ⟨_, rfl⟩
  have mY : MD ky nu C ((-11) :: (List.replicate k (-10) ++ W0)) Y := by
    rw [hY]; exact m1.cong (fun k _ => by rw [wr_ne (by omega)]) (wr_ne (by omega)) (wr_ne (by omega))
  have fY : FP y Y := by
    rw [hY]; exact ⟨fun j b c d e => by rw [wr_ne e]; exact m2.1 j b c d e, fun k b c d => by rw [wr_ne (by omega)]; exact m2.2 k b c d⟩
  have Y109 : ∀ i, Y 109 i = if i = par + 1 then 0 else y 109 i := fun i => by
    rw [hY, wr_at, if_pos rfl, wr_ne (by omega), wr_ne (by omega)]
  obtain ⟨x1, y1, p1, q1, s1, s2, s3, s4, s5, s6⟩ := both_step ha hT hK FA.refl fY hC mY (by simp only [List.length_cons]; omega) (by omega) hD
  have hcnt := rep_count k W0
  have hcA : ((-11 : Int32) :: (List.replicate k (-10) ++ W0)).count (-11) = par + 1 := by
    rw [List.count_cons, hcnt.1, hc1]; rfl
  have hcB : ((-11 : Int32) :: (List.replicate k (-10) ++ W0)).count (-10) = ban := by
    rw [List.count_cons, hcnt.2, hc2]; rfl
  have em : lX8_takesE_h28 (g + 1) (nI par) (nI ban) 1 y = lX8_takesE_h28 g (nI (par + 1)) (nI ban) 1 y1 := by
    rw [m_open hM h10 h11 hpar (by simp only [List.length_append, List.length_replicate]; omega), ← hY, s2, bd_e, h172 s4.2.2.2.1 (by simp only [List.length_cons, List.length_append, List.length_replicate]; omega) hcB]
  have ht1 : y1 109 (par + 1) = 0 := by rw [s6.1 109 (by omega), Y109, if_pos rfl]
  obtain ⟨r, x2, e1, e2⟩ := IH a ky L p1 q1 nu 0 (par + 1) ban g d C _ x1 y1 ha hky (by omega) (by omega) (by omega) hban s4 hcA hcB (Or.inr ⟨_, _, rfl, Or.inl rfl⟩) (fun _ => ht1) (Or.inl ht1) hd (by omega)
  rw [s1, bd_e, nI_1, show (0 : Int32) = nI 0 from rfl, e1, bd_e, em]
  rcases e2 with hF | ⟨rfl, y2, g1, P, C1, p2, q2, nu1, o1, o2, o3, o4, oP, o5, o6, o9, -, oT, o7, o8⟩
  · refine ⟨0, x2, ?_, Or.inl ?_⟩
    · rw [hF.1]; rfl
    · have := hF.tr (s5.fx ha) (fY.fy.tr s6.fy)
      rw [hF.1] at this; exact this
  · rw [if_neg (show ¬ (1 : Int32) = nI 0 by decide), o1]
    obtain ⟨tT, tK, tC, tM, tl1, tl2, tD⟩ := o4
    have tK0 := tK
    have hp2 : p2 ≤ 96 := by have := tK.1; have := tK.2.1; omega
    obtain ⟨g1, rfl⟩ : ∃ q, g1 = q + 1 := ⟨g1 - 1, by omega⟩
    simp only [List.length_cons, List.length_append, List.length_replicate] at tl1
    obtain ⟨k3a, k3b⟩ := tK.k3
    rw [ev_isSign tT tK]
    by_cases c : x2 2 3 = 3 ∧ x2 3 p2 = 41
    · have c10 := k3a.mp c.1
      obtain ⟨c1, c2, c3⟩ := k3b c10
      have c11 : y2 99 11 = 41 := by
        rw [c3]
        exact ((tT.2.2.2 p2 c1).eq (by decide) (by decide)).mp c.2
      obtain ⟨Z, z1, z2, z3, z4⟩ := m_close (u2 := nI ban) (g := g1) (par := par) tM c10 c11 (by omega) hW (fun s hs => ⟨(oP s hs).1, (oP s hs).2.1⟩) (by omega)
      obtain ⟨x3, y3, p3, q3, v1, v2, v3, v4, v5, v6⟩ := both_step ha tT tK FA.refl z3 tC z2 (by simp only [List.length_append, List.length_replicate, List.length_reverse]; omega) (by omega) tD
      refine ⟨1, x3, ?_, Or.inr ⟨rfl, y3, g1, P.reverse ++ C1, p3, q3, nu1, ?_, by omega, by omega, v4, o5, fun i hi => ?_, ?_, ?_⟩⟩
      · rw [if_pos c, bd_e, if_neg (show ¬ (1 : Int32) = nI 0 by decide), v1, bd_e]
      · rw [z1, v2, bd_e]
      · rw [v6.1 109 (by omega), z4, o6 i (by omega), s6.1 109 (by omega), Y109, if_neg (by omega)]
      · exact ((s5.fx ha).tr o7).tr (v5.fx ha)
      · exact ((fY.fy.tr s6.fy).tr o8).tr (z3.fy.tr v6.fy)
    · refine ⟨0, x2, ?_, Or.inl ?_⟩
      · rw [if_neg c, bd_e, if_pos (show (0 : Int32) = nI 0 from rfl)]
        rfl
      · by_cases z0 : y2 99 10 = 0
        · obtain ⟨y3, w1, w2, w3⟩ := m_zero (par := par + 1) (g := g1) (u2 := nI ban) (W := (-11) :: (List.replicate k (-10) ++ W0)) tM z0 (Or.inr ⟨_, _, rfl, Or.inl rfl⟩) (fun s hs => ⟨(oP s hs).1, (oP s hs).2.1⟩) (by simp only [List.length_cons, List.length_append, List.length_replicate]; omega)
          rw [w1, if_neg (nI_ne0 (by omega) (by omega))]
          exact ⟨rfl, y3, p2, rfl, tK.2.2.1, by rw [w3.2 9 (by omega) (by omega) (by omega)]; exact tK.2.2.2.2.1, hp2, (s5.fx ha).tr o7, ((fY.fy.tr s6.fy).tr o8).tr w3.fy⟩
        · have := m_end (kk := lX8_takesE_h28 g1) (u2 := nI ban) (par := par + 1) (by omega) z0 oT (fun h => c ⟨k3a.mpr h.1, by
            obtain ⟨c1, c2, c3⟩ := k3b h.1
            rw [c3] at h
            exact ((tT.2.2.2 p2 c1).eq (by decide) (by decide)).mpr h.2.1⟩)
          rw [show lX8_takesE_h28 (g1 + 1) (nI (par + 1)) (nI ban) 0 y2 = some (0, y2) from this]
          exact ⟨rfl, y2, p2, rfl, tK.2.2.1, tK.2.2.2.2.1, hp2, (s5.fx ha).tr o7, (fY.fy.tr s6.fy).tr o8⟩
theorem piece_step {n : Nat} (I1 : RPc n) (I2 : REc n) : RPc (n + 1) := by
  intro a ky L p q nu par ban k g d C W0 x y ha hky hn hpar hban hS hc1 hc2 hW hd hg
  obtain ⟨hT, hK, -⟩ := id hS
  have hL : L ≤ 96 := hT.1
  have hpL : p ≤ 96 := by have := hK.1; have := hK.2.1; omega
  obtain ⟨g, rfl⟩ : ∃ q, g = q + 1 := ⟨g - 1, by omega⟩
  obtain ⟨k3a, k3b⟩ := hK.k3
  show ∃ r x1, FX5_piece (fEP n).1 (fEP n).2 a (nI par) (nI ban) x = some (r, x1) ∧ _
  unfold FX5_piece
  by_cases c2 : x 2 3 = 2
  · rw [if_pos c2]; exact num_case ha hS hW hd hg c2
  rw [if_neg c2]
  by_cases c1 : x 2 3 = 1
  · rw [if_pos c1]; exact name_case ha hky hS hW hd hg c1
  rw [if_neg c1, ev_isSign hT hK, bdif]
  have hm12 : y 99 10 ≠ 1 ∧ y 99 10 ≠ 2 := by
    rcases hK.2.2.2.2.2.2.2 with ⟨a, b, -⟩ | ⟨a, b, -⟩ | ⟨a, b, -⟩ | ⟨a, b, -⟩ | ⟨a, b, -⟩ | ⟨a, b, -⟩
    · rw [b]; decide
    · exact absurd a c1
    · exact absurd a c2
    · exact absurd a c2
    · rw [b]; decide
    · rw [b]; decide
  have heq : ∀ v : Int32, 0 ≤ v → v < 128 → y 99 10 = 3 → (x 3 p = v ↔ y 99 11 = v) := fun v h0 h1 h => by
    obtain ⟨c1, c2, c3⟩ := k3b h
    rw [c3]; exact (hT.2.2.2 p c1).eq h0 h1
  unfold fX5_piece_h69
  rw [ev_isSign hT hK, bdif]
  by_cases cn : y 99 10 = 3 ∧ y 99 11 = 33 ∧ ban < 8
  · rw [if_pos ⟨k3a.mpr cn.1, (heq 33 (by decide) (by decide) cn.1).mpr cn.2.1⟩, if_neg (show ¬ (8 : Int32) ≤ nI ban from nI_ge (b := 8) cn.2.2 (by omega))]
    exact not_case I1 ha hky hn hpar cn.2.2 hS hc1 hc2 hW hd hg (k3b cn.1).2.1 cn.1 cn.2.1
  have e33 : ∀ (A B D : Option (Int32 × XS)), (A = D) → (if x 2 3 = 3 ∧ x 3 p = 33 then (if (8 : Int32) ≤ nI ban then A else B) else D) = D := fun A B D hAD => by
    by_cases c : x 2 3 = 3 ∧ x 3 p = 33
    · have c10 := k3a.mp c.1
      have : ¬ ban < 8 := fun h => cn ⟨c10, (heq 33 (by decide) (by decide) c10).mp c.2, h⟩
      rw [if_pos c, if_pos (show (8 : Int32) ≤ nI ban from nI_le (a := 8) (by omega) (by omega)), hAD]
    · rw [if_neg c]
  rw [e33 _ _ _ rfl]
  by_cases co : y 99 10 = 3 ∧ y 99 11 = 40 ∧ par < 8
  · rw [if_pos ⟨k3a.mpr co.1, (heq 40 (by decide) (by decide) co.1).mpr co.2.1⟩, if_neg (show ¬ (8 : Int32) ≤ nI par from nI_ge (b := 8) co.2.2 (by omega))]
    exact open_case I2 ha hky hn co.2.2 hban hS hc1 hc2 hW hd hg (k3b co.1).2.1 co.1 co.2.1
  refine ⟨0, x, ?_, Or.inl ?_⟩
  · by_cases c : x 2 3 = 3 ∧ x 3 p = 40
    · have c10 := k3a.mp c.1
      have : ¬ par < 8 := fun h => co ⟨c10, (heq 40 (by decide) (by decide) c10).mp c.2, h⟩
      rw [if_pos c, if_pos (show (8 : Int32) ≤ nI par from nI_le (a := 8) (by omega) (by omega))]
    · rw [if_neg c]
  · have : lX8_takesE_h28 (g + 1) (nI par) (nI ban) 1 y = some (0, y) := by
      show bX8_takesE_h28 (lX8_takesE_h28 g) (nI par) (nI ban) 1 y = _
      refine m_bad hm12.1 hm12.2 (fun h => cn ⟨h.1, h.2.1, ?_⟩) (fun h => co ⟨h.1, h.2.1, ?_⟩)
      · exact Nat.lt_of_not_le (fun q => h.2.2 (nI_le (a := 8) q (by omega)))
      · exact Nat.lt_of_not_le (fun q => h.2.2 (nI_le (a := 8) q (by omega)))
    rw [this]
    exact Fl.here hT hK
