def nt3 (l : Nat) (b : Int32) : Int32 := if l = 2 then 1 else if l < 2 then 0 else b
theorem m_sign {ky nu par l g : Nat} {C P W : List Int32} {u2 : Int32} {y : XS} (h : MD ky nu C (P ++ W) y) (h0 : y 99 10 = 3) (hl5 : l < 5) (hlv : lvo (y 99 11) = nI l) (hpar : par ≤ 8) (ht : y 109 par = 0 ∨ y 109 par = 1) (ht2 : l = 2 → y 109 par = 0) (hW : hdP W (nI (l + 1))) (hP : ∀ s, s ∈ P → -9 ≤ s ∧ s ≤ -1 ∧ ¬ rk s < nI (l + 1)) (hl : C.length + P.length + W.length < 96) : ∃ Y, lX8_takesE_h28 (g + 1) (nI par) u2 0 y = bd (fX8_go Y) (fun _ x => lX8_takesE_h28 g (nI par) u2 1 x) ∧ MD ky nu (P.reverse ++ C) (sgn (y 99 11) :: W) Y ∧ FP y Y ∧ ∀ i, Y 109 i = if i = par then nt3 l (y 109 par) else y 109 i := by
  obtain ⟨s, hs⟩ : ∃ s, s = sgn (y 99 11) := ⟨_, rfl⟩
  obtain ⟨hr, hs9, hs1⟩ : rk s = nI (l + 1) ∧ -9 ≤ s ∧ s ≤ -1 := by
    rw [hs]
    rcases lv_cases (y 99 11) with ⟨e, -⟩ | ⟨j, hj, e1, e2, e3, e4⟩
    · rw [hlv] at e
      have : (0 : Int32) ≤ nI l := nI_pos' (by omega)
      rw [e] at this
      exact absurd this (by decide)
    · have : l = j := (nI_eq (by omega) (by omega)).mp (hlv.symm.trans e1)
      subst this
      exact ⟨e2, e3, e4⟩
  obtain ⟨Y0, hY0⟩ : ∃ Y0, Y0 = wr y 109 par (nt3 l (y 109 par)) := ⟨_, rfl⟩
  have hM0 : MD ky nu C (P ++ W) Y0 := by rw [hY0]; exact h.cong (fun k _ => by rw [wr_ne (by omega)]) (wr_ne (by omega)) (wr_ne (by omega))
  obtain ⟨y1, e1, e2, e3, e4⟩ := settle_rel (r := nI (l + 1)) hW P C Y0 hM0 (fun s hs => ⟨by have := hP s hs; grind, (hP s hs).2.2⟩) (by omega) FU (by unfold FU; omega)
  obtain ⟨m1, m2⟩ := e2.push (s := s)
  refine ⟨_, ?_, by rw [← hs]; exact m1, ?_, fun i => ?_⟩
  · show bX8_takesE_h28 (lX8_takesE_h28 g) (nI par) u2 0 y = _
    have n41 : ¬ y 99 11 = 41 := fun e => by
      rw [e] at hlv
      have : (0 : Int32) ≤ nI l := nI_pos' (by omega)
      rw [← hlv] at this
      exact absurd this (by decide)
    have e305 : ∀ b : Int32, vp_nar .boolean b = nt3 l (y 109 par) → fX8_takesE_h305 (lX8_takesE_h28 g) (nI par) u2 s (nI par) b y = bd (fX8_go (wr (wr y1 108 W.length s) 99 20 (nI (W.length + 1)))) (fun _ x => lX8_takesE_h28 g (nI par) u2 1 x) := fun b hb => by
      unfold fX8_takesE_h305
      have w : wr y1 108 W.length s 99 20 + 1 = nI (W.length + 1) := by rw [wr_ne (by omega), e2.2.2.2.1, nI_1]
      rw [gd_e (inb_nI (by omega) (by omega)), ix_nI (by omega), hb, st_e, ← hY0, ev_rank, bd_e, hr, show fX8_settle (nI (l + 1)) Y0 = some ((), y1) from e1, bd_e, e2.2.2.2.1, gd_e (inb_nI (by omega) (by omega)), ix_nI (by omega), st_e, st_e, w]
    have e268 : fX8_takesE_h268 (lX8_takesE_h28 g) (nI par) u2 s y = bd (fX8_go (wr (wr y1 108 W.length s) 99 20 (nI (W.length + 1)))) (fun _ x => lX8_takesE_h28 g (nI par) u2 1 x) := by
      unfold fX8_takesE_h268
      rw [ev_rank, bd_e, hr]
      by_cases c2 : l = 2
      · rw [if_pos (show nI (l + 1) = 3 by rw [c2]; rfl)]
        exact e305 1 (by unfold nt3; rw [if_pos c2]; rfl)
      · rw [if_neg (show ¬ nI (l + 1) = 3 from fun e => c2 (by have := (nI_eq (b := 3) (by omega) (by omega)).mp e; omega)), ev_rank, bd_e, hr]
        by_cases c : l < 2
        · rw [if_pos (show nI (l + 1) ≤ 3 from nI_le (b := 3) (by omega) (by omega))]
          exact e305 0 (by unfold nt3; rw [if_neg c2, if_pos c]; rfl)
        · rw [if_neg (show ¬ nI (l + 1) ≤ 3 from nI_ge (a := 3) (by omega) (by omega)), gd_e (inb_nI (by omega) (by omega)), ix_nI (by omega)]
          rcases ht with e | e
          · rw [if_pos e]
            exact e305 0 (by unfold nt3; rw [if_neg c2, if_neg c, e]; rfl)
          · rw [if_neg (show ¬ y 109 par = 0 by rw [e]; decide)]
            exact e305 1 (by unfold nt3; rw [if_neg c2, if_neg c, e]; rfl)
    unfold bX8_takesE_h28 fX8_takesE_h39 fX8_takesE_h237
    rw [if_pos rfl, if_neg (show ¬ y 99 10 = 0 by rw [h0]; decide), if_pos rfl, if_pos h0, if_neg n41, ev_signHere, if_pos h0, ← hs, bd_e, if_neg (show ¬ s = 0 by grind), ev_rank, bd_e, hr, e268]
    by_cases c2 : l = 2
    · rw [if_pos (show nI (l + 1) = 3 by rw [c2]; rfl), gd_e (inb_nI (by omega) (by omega)), ix_nI (by omega), if_pos (ht2 c2)]
    · rw [if_neg (show ¬ nI (l + 1) = 3 from fun e => c2 (by have := (nI_eq (b := 3) (by omega) (by omega)).mp e; omega))]
  · have f1 : FP y Y0 := by rw [hY0]; exact ⟨fun j _ _ _ d => wr_ne d, fun k _ _ _ => by rw [wr_ne (by omega)]⟩
    have f2 : FP Y0 y1 := ⟨fun j a b _ _ => e3 j a b, fun k a _ c => e4 k a c⟩
    exact (f1.tr f2).tr m2
  · rw [wr_ne (by omega), wr_ne (by omega), e3 109 (by omega) (by omega), hY0, wr_at, if_pos rfl]
theorem hdP.up {W : List Int32} {l : Nat} (h : hdP W (nI (l + 1))) (hl : l < 90) : hdP W (nI (l + 2)) := by
  rcases h with h | ⟨s, W1, e, h⟩
  · exact Or.inl h
  · refine Or.inr ⟨s, W1, e, h.imp id (fun q => ?_)⟩
    have : nI (l + 1) < nI (l + 2) := nI_lt (by omega) (by omega)
    grind
theorem OkE.tr {a ky L pm pn d l par ban : Nat} {W : List Int32} {x y x1 y1 x2 : XS} {r : Int32} {mo : Option (Int32 × XS)} (h : OkE a ky L pn d l par ban W x1 y1 x2 r mo) (hp : pm ≤ pn) (hx : FX a x x1) (hy : FY y y1) (h9 : ∀ i, i < par → y1 109 i = y 109 i) (h3 : 3 ≤ l → y1 109 par = y 109 par) : OkE a ky L pm d l par ban W x y x2 r mo := by
  obtain ⟨h1, z, g1, P, C1, p1, q1, nu1, b1, b2, b3, b4, b5, b6, b7, b8, b9, b10, b11, b12⟩ := h
  exact ⟨h1, z, g1, P, C1, p1, q1, nu1, b1, b2, by omega, b4, b5, b6, fun i hi => by rw [b7 i hi, h9 i hi], b8, fun e => by rw [b9 e, h3 e], b10, hx.tr b11, hy.tr b12⟩
theorem loopE {n a ky L l par ban lim d : Nat} {W : List Int32} (IH : REc n) (ha : 41 ≤ a) (hky : ky < 3) (hl4 : l ≤ 4) (hn : 7 * (8 - par) + (8 - ban) + 1 + (6 - (l + 1)) ≤ n) (hpar : par ≤ 8) (hban : ban ≤ 8) (hc1 : W.count (-11) = par) (hc2 : W.count (-10) = ban) (hW : hdP W (nI (l + 1))) (hlim : lim = if l = 2 then 1 else 96) : ∀ (e p q nu u g : Nat) (P C : List Int32) (x y : XS), L ≤ p + e → ST a ky L p q nu (P.reverse ++ C) C (P ++ W) x y → (∀ s, s ∈ P → -9 ≤ s ∧ s ≤ -1 ∧ ¬ rk s < nI (l + 1)) → dlr (P.reverse ++ C) = some (d + 1) → (y 109 par = 0 ∨ y 109 par = 1) → (l = 2 → (u = 0 ∧ y 109 par = 0) ∨ (u = 1 ∧ y 109 par = 1)) → PT (l + 1) par y → u ≤ p → 100 ≤ g + p → ∀ f, e < f → ∃ r x1, lX5_expression_h46 (fEP n).1 (fEP n).2 a f (nI l) (nI par) (nI ban) (nI lim) (nI u) x = some (r, x1) ∧ (Fl a x y x1 r (lX8_takesE_h28 g (nI par) (nI ban) 0 y) ∨ OkE a ky L p d l par ban W x y x1 r (lX8_takesE_h28 g (nI par) (nI ban) 0 y)) := by
  intro e
  induction e with
  | zero =>
    intro p q nu u g P C x y he hS hP hd ht ht2 hPT hu hg f hf
    obtain ⟨f, rfl⟩ : ∃ q, f = q + 1 := ⟨f - 1, by omega⟩
    obtain ⟨hT, hK, -⟩ := id hS
    have hpq := hK.1
    have hqL := hK.2.1
    obtain ⟨k3a, k3b⟩ := hK.k3
    have n3 : ¬ y 99 10 = 3 := fun h => by have := (k3b h).1; omega
    refine ⟨1, x, ?_, Or.inr ⟨rfl, y, g, P, C, p, q, nu, rfl, hg, Nat.le_refl _, hS, hP, hd, fun _ _ => rfl, ht, fun _ => rfl, fun h => absurd h n3, FX.refl, FY.refl⟩⟩
    show bX5_expression_h46 (fEP n).1 (fEP n).2 a (lX5_expression_h46 (fEP n).1 (fEP n).2 a f) (nI l) (nI par) (nI ban) (nI lim) (nI u) x = _
    unfold bX5_expression_h46
    rw [if_neg (show ¬ x 2 3 = 3 from fun h => n3 (k3a.mp h))]
    by_cases c : nI lim ≤ nI u
    · rw [if_pos c]
    · rw [if_neg c]
  | succ e ih =>
    intro p q nu u g P C x y he hS hP hd ht ht2 hPT hu hg f hf
    obtain ⟨f, rfl⟩ : ∃ q, f = q + 1 := ⟨f - 1, by omega⟩
    obtain ⟨hT, hK, hC, hM, l1, l2, hD⟩ := id hS
    have hL : L ≤ 96 := hT.1
    have hpq := hK.1
    have hqL := hK.2.1
    obtain ⟨k3a, k3b⟩ := hK.k3
    show ∃ r x1, bX5_expression_h46 (fEP n).1 (fEP n).2 a (lX5_expression_h46 (fEP n).1 (fEP n).2 a f) (nI l) (nI par) (nI ban) (nI lim) (nI u) x = some (r, x1) ∧ _
    unfold bX5_expression_h46
    have stop : PT l par y → ∀ o : Option (Int32 × XS), o = some (1, x) → ∃ r x1, o = some (r, x1) ∧ (Fl a x y x1 r (lX8_takesE_h28 g (nI par) (nI ban) 0 y) ∨ OkE a ky L p d l par ban W x y x1 r (lX8_takesE_h28 g (nI par) (nI ban) 0 y)) := fun hp o ho => ⟨1, x, ho, Or.inr ⟨rfl, y, g, P, C, p, q, nu, rfl, hg, Nat.le_refl _, hS, hP, hd, fun _ _ => rfl, ht, fun _ => rfl, hp, FX.refl, FY.refl⟩⟩
    by_cases cu : lim ≤ u
    · rw [if_pos (nI_le cu (by omega))]
      refine stop ?_ _ rfl
      intro h10 j hj hlv hlj
      have := (k3b h10).1
      rw [hlim] at cu
      by_cases c2 : l = 2
      · rw [if_pos c2] at cu
        rcases ht2 c2 with ⟨q1, -⟩ | ⟨-, q2⟩
        · omega
        · by_cases e2 : j = 2
          · exact ⟨e2, q2⟩
          · exact hPT h10 j hj hlv (by omega)
      · rw [if_neg c2] at cu; omega
    rw [if_neg (show ¬ nI lim ≤ nI u from nI_ge (by omega) (by rw [hlim]; by_cases c2 : l = 2 <;> simp [c2]))]
    by_cases c3 : x 2 3 = 3
    · have h10 := k3a.mp c3
      obtain ⟨hpL, hq1, h11⟩ := k3b h10
      have hch := hT.2.2.2 p hpL
      have hlvb : lvo (x 3 p) = lvo (y 99 11) := by rw [h11]; exact hch.lvl
      rw [if_pos c3, ev_sign hT hK hpL, bd_e, ev_levelOf, bd_e, ev_sign hT hK hpL, bd_e, hlvb]
      by_cases cl : lvo (y 99 11) = nI l
      · rw [if_pos cl]
        have hlen : (P ++ W).length = P.length + W.length := List.length_append
        have hlenD : (P.reverse ++ C).length = P.length + C.length := by rw [List.length_append, List.length_reverse]
        have ht20 : l = 2 → y 109 par = 0 := fun c2 => by
          rcases ht2 c2 with ⟨-, q2⟩ | ⟨q1, -⟩
          · exact q2
          · rw [hlim, if_pos c2] at cu; omega
        obtain ⟨g, rfl⟩ : ∃ q, g = q + 1 := ⟨g - 1, by omega⟩
        obtain ⟨Y, w1, w2, w3, w4⟩ := m_sign (g := g) (u2 := nI ban) hM h10 (by omega) cl hpar ht ht20 hW hP (by omega)
        obtain ⟨s, hs⟩ : ∃ s, s = sgn (y 99 11) := ⟨_, rfl⟩
        rw [← hs] at w2
        obtain ⟨hr, hs9, hs1⟩ : rk s = nI (l + 1) ∧ -9 ≤ s ∧ s ≤ -1 := by
          rw [hs]
          rcases lv_cases (y 99 11) with ⟨e, -⟩ | ⟨j, hj, e1, e2, e3, e4⟩
          · rw [cl] at e
            have : (0 : Int32) ≤ nI l := nI_pos' (by omega)
            rw [e] at this
            exact absurd this (by decide)
          · have : l = j := (nI_eq (by omega) (by omega)).mp (cl.symm.trans e1)
            subst this
            exact ⟨e2, e3, e4⟩
        have hce : ce s = 10000 + x 3 p := by
          rw [hs, h11]
          refine ce_sgn hch ?_
          rw [← h11, cl]
          intro e
          have : (0 : Int32) ≤ nI l := nI_pos' (by omega)
          rw [e] at this
          exact absurd this (by decide)
        obtain ⟨x1, y1, p1, q1, s1, s2, s3, s4, s5, s6⟩ := both_step ha hT hK FA.refl w3 hC w2 (by simp only [List.length_cons]; omega) (by omega) hD
        have y1t : ∀ i, y1 109 i = if i = par then nt3 l (y 109 par) else y 109 i := fun i => by rw [s6.1 109 (by omega)]; exact w4 i
        have y1p : y1 109 par = nt3 l (y 109 par) := by rw [y1t, if_pos rfl]
        have y1q : ∀ i, i < par → y1 109 i = y 109 i := fun i hi => by rw [y1t, if_neg (by omega)]
        have hnt : nt3 l (y 109 par) = 0 ∨ nt3 l (y 109 par) = 1 := by
          unfold nt3
          by_cases a1 : l = 2
          · rw [if_pos a1]; exact Or.inr rfl
          · rw [if_neg a1]
            by_cases a2 : l < 2
            · rw [if_pos a2]; exact Or.inl rfl
            · rw [if_neg a2]; exact ht
        have hns : s ≠ -11 ∧ s ≠ -10 := by grind
        obtain ⟨r, x2, f1, f2⟩ := IH a ky L p1 q1 nu (l + 1) par ban g (d + 1) (P.reverse ++ C) (s :: W) x1 y1 ha hky (by omega) (by omega) hpar hban s4 (by rw [List.count_cons, hc1, if_neg (by simpa using hns.1)]; rfl) (by rw [List.count_cons, hc2, if_neg (by simpa using hns.2)]; rfl) (Or.inr ⟨s, W, rfl, Or.inr (by rw [hr]; exact nI_lt (by omega) (by omega))⟩) (fun h2 => by
          rw [y1p]; unfold nt3; rw [if_neg (by omega), if_pos (by omega)]) (by rw [y1p]; exact hnt) hd (by omega)
        rw [s1, bd_e, show nI l + 1 = nI (l + 1) from nI_1 l, f1, bd_e, w1, s2, bd_e]
        rcases f2 with hF | ⟨rfl, y2, g1, P1, C1, p2, q2, nu1, o1, o2, o3, o4, oP, o5, o6, o9, o10, oT, o7, o8⟩
        · refine ⟨0, x2, ?_, Or.inl ?_⟩
          · rw [if_pos hF.1]
          · have := hF.tr (s5.fx ha) (w3.fy.tr s6.fy)
            rw [hF.1] at this; exact this
        · rw [if_neg (show ¬ (1 : Int32) = 0 by decide), o1]
          have ol := o4.2.2.2.2.1
          have hp2 : p2 ≤ 96 := by have := o4.2.1.1; have := o4.2.1.2.1; omega
          simp only [List.length_append, List.length_cons] at ol
          have hlenD1 : (P1.reverse ++ C1).length = P1.length + C1.length := by rw [List.length_append, List.length_reverse]
          obtain ⟨X, a1, a2, a3⟩ := ev_addItem (m := s) (v := 10000 + x 3 p) o4.2.2.1 (by omega) hce
          have oA := o4.add (nu1 := nu1) ha a3 a2 (Or.inr (Or.inr (Or.inr (Or.inr ⟨by grind, hs1⟩)))) (by omega)
          have eP : s :: (P1.reverse ++ C1) = (P1 ++ [s]).reverse ++ C1 := by simp
          have eW : P1 ++ s :: W = (P1 ++ [s]) ++ W := by simp
          rw [eP, eW] at oA
          have hlt : nI (l + 1) < nI (l + 2) := nI_lt (by omega) (by omega)
          obtain ⟨r3, x3, t1, t2⟩ := ih p2 q2 nu1 (u + 1) g1 (P1 ++ [s]) C1 X y2 (by omega) oA (fun s' hs' => by
              rcases List.mem_append.mp hs' with h | h
              · have := oP s' h
                refine ⟨this.1, this.2.1, fun q => this.2.2 ?_⟩
                show rk s' < nI (l + 2)
                grind
              · rw [List.mem_singleton.mp h]
                exact ⟨hs9, hs1, by rw [hr]; exact Int32.lt_irrefl⟩) (by
              rw [← eP]
              show (dlr (P1.reverse ++ C1)).bind (dpt s) = _
              rw [o5]
              show dpt s (d + 1 + 1) = _
              unfold dpt
              rw [if_neg (show ¬ 0 ≤ s by grind), if_neg hns.2, if_pos (by omega)]
              rfl) o9 (fun c2 => Or.inr ⟨by
                rw [hlim, if_pos c2] at cu; omega, by
                rw [o10 (by omega), y1p]; unfold nt3; rw [if_pos c2]⟩) oT (by omega) (by omega) f (by omega)
          refine ⟨r3, x3, ?_, ?_⟩
          · unfold fX6_addSign
            rw [a1, bd_e, bd_e, st_e, nI_1]
            exact t1
          · have FXt : FX a x X := ((s5.fx ha).tr o7).tr (a3.fx ha)
            have FYt : FY y y2 := (w3.fy.tr s6.fy).tr o8
            rcases t2 with hF | hO
            · exact Or.inl (hF.tr FXt FYt)
            · refine Or.inr (hO.tr (by omega) FXt FYt (fun i hi => by rw [o6 i hi, y1q i hi]) (fun h3 => ?_))
              rw [o10 (by omega), y1p]
              unfold nt3
              rw [if_neg (by omega), if_neg (by omega)]
      · rw [if_neg cl]
        refine stop ?_ _ rfl
        intro _ j hj hlv hlj
        refine hPT h10 j hj hlv ?_
        by_cases ej : j = l
        · rw [ej] at hlv; exact absurd hlv cl
        · omega
    · rw [if_neg c3]
      exact stop (fun h => absurd (k3a.mpr h) c3) _ rfl
theorem expr_step {n : Nat} (I1 : RPc n) (I2 : REc n) : REc (n + 1) := by
  intro a ky L p q nu l par ban g d C W x y ha hky hl5 hn hpar hban hS hc1 hc2 hW ht0 ht hd hg
  show ∃ r x1, FX5_expression (fEP n).1 (fEP n).2 a (nI l) (nI par) (nI ban) x = some (r, x1) ∧ _
  unfold FX5_expression
  by_cases c5 : l = 5
  · subst c5
    rw [if_neg (show ¬ nI 5 ≤ 4 by decide)]
    obtain ⟨r, x1, e1, e2⟩ := I1 a ky L p q nu par ban 0 g d C W x y ha hky (by omega) hpar hban hS hc1 (by omega) hW hd hg
    rw [e1, bd_e]
    rcases e2 with hF | ⟨rfl, y1, g1, D1, p1, q1, nu1, o1, o2, o3, o4, o5, o6, o7, o8⟩
    · exact ⟨r, x1, by rw [hF.1, gd_e (by decide)], Or.inl hF⟩
    · refine ⟨1, x1, by rw [gd_e (by decide)], Or.inr ⟨rfl, y1, g1, [], D1, p1, q1, nu1, by rw [o1, hc2], o2, by omega, o4, fun s hs => absurd hs (by simp), o5, fun i hi => o6 i (by omega), by rw [o6 par (Nat.le_refl _)]; exact ht, fun _ => o6 par (Nat.le_refl _), fun _ j hj _ h5 => by omega, o7, o8⟩⟩
  · rw [if_pos (show nI l ≤ 4 from nI_le (b := 4) (by omega) (by omega)), nI_1]
    obtain ⟨r, x1, e1, e2⟩ := I2 a ky L p q nu (l + 1) par ban g d C W x y ha hky (by omega) (by omega) hpar hban hS hc1 hc2 (hW.up (by omega)) (fun h => ht0 (by omega)) ht hd hg
    rw [e1, bd_e]
    rcases e2 with hF | ⟨rfl, y1, g1, P, C1, p1, q1, nu1, o1, o2, o3, o4, oP, o5, o6, o9, o10, oT, o7, o8⟩
    · exact ⟨0, x1, by rw [if_pos hF.1], Or.inl (by have := hF; rw [hF.1] at this; exact this)⟩
    · rw [if_neg (show ¬ (1 : Int32) = 0 by decide), o1]
      have hlt : nI (l + 1) < nI (l + 2) := nI_lt (by omega) (by omega)
      obtain ⟨r3, x3, t1, t2⟩ := loopE (lim := if l = 2 then 1 else 96) (d := d) I2 ha hky (by omega) (by omega) hpar hban hc1 hc2 hW rfl 96 p1 q1 nu1 0 g1 P C1 x1 y1 (by have := o4.1.1; omega) o4 (fun s hs => ⟨(oP s hs).1, (oP s hs).2.1, fun q => (oP s hs).2.2 (by show rk s < nI (l + 2); grind)⟩) o5 o9 (fun c2 => Or.inl ⟨rfl, by rw [o10 (by omega)]; exact ht0 (by omega)⟩) oT (by omega) o2 FU (by unfold FU; omega)
      refine ⟨r3, x3, ?_, ?_⟩
      · by_cases c2 : l = 2
        · rw [if_pos c2] at t1
          rw [if_pos (show nI l = 2 by rw [c2]; rfl)]
          exact t1
        · rw [if_neg c2] at t1
          rw [if_neg (show ¬ nI l = 2 from fun e => c2 ((nI_eq (b := 2) (by omega) (by omega)).mp e))]
          exact t1
      · rcases t2 with hF | hO
        · exact Or.inl (hF.tr o7 o8)
        · exact Or.inr (hO.tr o3 o7 o8 o6 (fun h3 => o10 (by omega)))
theorem EP_all : ∀ n, RPc n ∧ REc n := by
  intro n
  induction n with
  | zero =>
    refine ⟨?_, ?_⟩
    · intro a ky L p q nu par ban k g d C W0 x y ha hky hn; omega
    · intro a ky L p q nu l par ban g d C W x y ha hky hl5 hn; omega
  | succ n ih => exact ⟨piece_step ih.1 ih.2, expr_step ih.1 ih.2⟩
