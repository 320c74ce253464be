def Fl (a : Nat) (x y x1 : XS) (r : Int32) (mo : Option (Int32 × XS)) : Prop := r = 0 ∧ ∃ y1 p1, mo = some (0, y1) ∧ x1 2 4 = nI p1 ∧ y1 99 9 = nI p1 ∧ p1 ≤ 96 ∧ FX a x x1 ∧ FY y y1
def OkP (a ky L p d par k : Nat) (W0 : List Int32) (x y x1 : XS) (r : Int32) (mo : Option (Int32 × XS)) : Prop := r = 1 ∧ ∃ y1 g1 D1 p1 q1 nu1, mo = lX8_takesE_h28 g1 (nI par) (nI (W0.count (-10))) 0 y1 ∧ 100 ≤ g1 + p1 ∧ p < p1 ∧ ST a ky L p1 q1 nu1 D1 (List.replicate k (-10) ++ D1) W0 x1 y1 ∧ dlr D1 = some (d + 1) ∧ (∀ i, i ≤ par → y1 109 i = y 109 i) ∧ FX a x x1 ∧ FY y y1
def hdP (W0 : List Int32) (r : Int32) : Prop := W0 = [] ∨ ∃ h W1, W0 = h :: W1 ∧ (h = -11 ∨ rk h < r)
theorem m_bad {kk : Int32 → Int32 → Int32 → XS → Option (Int32 × XS)} {u1 u2 : Int32} {y : XS} (h1 : y 99 10 ≠ 1) (h2 : y 99 10 ≠ 2) (h3 : ¬ (y 99 10 = 3 ∧ y 99 11 = 33 ∧ ¬ 8 ≤ u2)) (h4 : ¬ (y 99 10 = 3 ∧ y 99 11 = 40 ∧ ¬ 8 ≤ u1)) : bX8_takesE_h28 kk u1 u2 1 y = some (0, y) := by
  have hp : fX8_takesPart y = some (0, y) := by
    unfold fX8_takesPart fX8_takesPart_h37
    rw [if_neg h1, if_neg h2, if_pos rfl]
  have h158 : fX8_takesE_h158 kk u1 y = some (0, y) := by
    unfold fX8_takesE_h158
    rw [hp, bd_e, if_pos rfl]
  have h97 : fX8_takesE_h97 kk u1 1 y = some (0, y) := by
    unfold fX8_takesE_h97
    rw [h158]
    by_cases c : y 99 10 = 3
    · rw [if_pos c]
      by_cases c1 : y 99 11 = 40
      · rw [if_pos c1]
        by_cases c2 : 8 ≤ u1
        · rw [if_pos c2]
        · exact absurd ⟨c, c1, c2⟩ h4
      · rw [if_neg c1]
    · rw [if_neg c]
  unfold bX8_takesE_h28 fX8_takesE_h39
  rw [if_neg (show ¬ (1 : Int32) = 0 by decide), if_neg (show ¬ (1 : Int32) = 0 by decide), h97]
  by_cases c : y 99 10 = 3
  · rw [if_pos c]
    by_cases c1 : y 99 11 = 33
    · rw [if_pos c1]
      by_cases c2 : 8 ≤ u2
      · rw [if_pos c2]
      · exact absurd ⟨c, c1, c2⟩ h3
    · rw [if_neg c1]
  · rw [if_neg c]
theorem m_toP {kk : Int32 → Int32 → Int32 → XS → Option (Int32 × XS)} {u1 u2 : Int32} {y : XS} (h : y 99 10 ≠ 3) : bX8_takesE_h28 kk u1 u2 1 y = bd (fX8_takesPart y) (fun r x => if r = 0 then some (0, x) else fX8_takesE_h172 kk u1 0 x) := by
  unfold bX8_takesE_h28 fX8_takesE_h39 fX8_takesE_h97 fX8_takesE_h158
  rw [if_neg (show ¬ (1 : Int32) = 0 by decide), if_neg (show ¬ (1 : Int32) = 0 by decide), if_neg h, if_neg h]
theorem rep_count (k : Nat) (W0 : List Int32) : (List.replicate k (-10 : Int32) ++ W0).count (-11) = W0.count (-11) ∧ (List.replicate k (-10 : Int32) ++ W0).count (-10) = k + W0.count (-10) := by
  constructor
  · rw [List.count_append, List.count_replicate, if_neg (by decide), Nat.zero_add]
  · rw [List.count_append, List.count_replicate, if_pos (by decide)]
theorem leaf_ok {a ky L p q nu par k g d : Nat} {C W0 : List Int32} {x y : XS} {m v : Int32} (ha : 41 ≤ a) (hS : ST a ky L p q nu C C (List.replicate k (-10) ++ W0) x y) (hW : hdP W0 6) (hd : dlr C = some d) (hg : 100 ≤ g + 1 + p) (hpq : p < q) (hm : okc ky m) (h0 : 0 ≤ m) (hv : ce m = v) : ∃ X x1, (∀ {β : Type} (K : XS → Option β), bd (fX6_addItem a v x) (fun _ x_8 => st_ (wr x_8 a 2 ((x_8 a 2) + 1)) (fun x_9 => K x_9)) = K X) ∧ fX5_step X = some ((), x1) ∧ OkP a ky L p d par k W0 x y x1 1 (bd (fX8_takesPart_h87 (y 99 17) m y) (fun r x => if r = 0 then some (0, x) else fX8_takesE_h172 (lX8_takesE_h28 g) (nI par) 0 x)) := by
  obtain ⟨hT, hK, hC, hM, l1, l2, hD⟩ := hS
  have hq : q ≤ L := hK.2.1
  have hL : L ≤ 96 := hT.1
  simp only [List.length_append, List.length_replicate] at l1
  obtain ⟨X, e1, e2, e3⟩ := ev_addNum (m := m) hC (by omega) hv
  obtain ⟨Y, f1, f2, f3, f4⟩ := m_part (m := m) hM (by omega) hW
  obtain ⟨x1, y1, p1, q1, s1, s2, s3, s4, s5, s6⟩ := both_step ha hT hK e3 f3 e2 f2 (by simp only [List.length_append, List.length_replicate, List.length_cons]; omega) (by simp only [List.length_cons]; omega) (fun m' hm' => by
    rcases List.mem_cons.mp hm' with rfl | h
    · exact hm
    · exact hD m' h)
  refine ⟨X, x1, e1, s1, rfl, y1, g, m :: C, p1, q1, nu + 1, ?_, by omega, by omega, s4, ?_, fun i _ => ?_, (e3.fx ha).tr (s5.fx ha), f3.fy.tr s6.fy⟩
  · rw [f1, s2, bd_e, bd_e, if_neg (show ¬ (1 : Int32) = 0 by decide)]
    unfold fX8_takesE_h172
    have hw0 : W0.length ≤ 96 := by omega
    rw [ev_nots s4.2.2.2.1 hw0, bd_e]
  · show (dlr C).bind (dpt m) = _
    rw [hd]
    show dpt m d = _
    unfold dpt
    rw [if_pos h0]
  · rw [s6.1 109 (by omega), f4]
theorem Fl.here {a L p q : Nat} {x y : XS} (hT : TI L x y) (hK : TK L p q x y) : Fl a x y x 0 (some (0, y)) :=
  ⟨rfl, y, p, rfl, hK.2.2.1, hK.2.2.2.2.1, by have := hT.1; have := hK.1; have := hK.2.1; omega, FX.refl, FY.refl⟩
theorem num_case {a ky L p q nu par ban k g d : Nat} {C W0 : List Int32} {x y : XS} (ha : 41 ≤ a) (hS : ST a ky L p q nu C C (List.replicate k (-10) ++ W0) x y) (hW : hdP W0 6) (hd : dlr C = some d) (hg : 100 ≤ g + 1 + p) (h3 : x 2 3 = 2) : ∃ r x1, bd (fX5_number a x) (fun r_17 x_18 => (gd (isB r_17) (some (r_17, x_18)))) = some (r, x1) ∧ (Fl a x y x1 r (lX8_takesE_h28 (g + 1) (nI par) (nI ban) 1 y) ∨ OkP a ky L p d par k W0 x y x1 r (lX8_takesE_h28 (g + 1) (nI par) (nI ban) 1 y)) := by
  have hS0 := hS
  obtain ⟨hT, hK, hC, hM, l1, l2, hD⟩ := hS
  have hK0 := hK
  have hL : L ≤ 96 := hT.1
  obtain ⟨k1, k2, k3, k4, k5, k6, k7, k8⟩ := hK
  have el : ∀ o, bX8_takesE_h28 (lX8_takesE_h28 g) (nI par) (nI ban) 1 y = o → lX8_takesE_h28 (g + 1) (nI par) (nI ban) 1 y = o := fun o h => h
  have hdiff : x 2 5 - x 2 4 = nI (q - p) := by rw [k3, k4, show q = p + (q - p) by omega, ← nI_add, show p + (q - p) - p = q - p by omega]; grind
  unfold fX5_number
  rw [hdiff]
  rcases k8 with ⟨e, -⟩ | ⟨e, -⟩ | ⟨-, t, c1, c2, c3, c4⟩ | ⟨-, t, c1⟩ | ⟨e, -⟩ | ⟨e, -⟩
  · rw [h3] at e; exact absurd e (by decide)
  · rw [h3] at e; exact absurd e (by decide)
  · have hbm : ∀ i, p ≤ i → i < q → x 3 i = y 104 i := fun i a b => by
      have h1 := hT.2.2.2 i (by omega)
      have h2 := c4 i a b
      unfold chR at h1; unfold isd at h2; grind
    have hv : dv (x 3) p (q - p) = dv (y 104) p (q - p) := dv_cong _ (fun i a b => hbm i a (by omega))
    obtain ⟨n, hn, en⟩ := dv_num (M := x 3) (p := p) (q - p) (by omega) (fun i a b => c4 i a (by omega))
    have hn4 : n ≤ 9999 := by
      have : 10 ^ (q - p) ≤ 10 ^ 4 := Nat.pow_le_pow_right (by omega) (by omega)
      omega
    have h0 : (0 : Int32) ≤ nI n := nI_pos' (by omega)
    have h9 : nI n ≤ (9999 : Int32) := nI_le (b := 9999) hn4 (by omega)
    obtain ⟨X, x1, e1, e2, e3⟩ := leaf_ok (m := nI n) (v := nI n) (par := par) ha hS0 hW hd hg c1 (Or.inl ⟨h0, h9⟩) h0 (by unfold ce; rw [if_pos h0, if_pos h9])
    refine ⟨1, x1, ?_, Or.inr ?_⟩
    · rw [if_pos (show nI (q - p) ≤ 4 from nI_le (b := 4) (by omega) (by omega)), st_e, k3]
      have := num_loop (a := a) (p := p) (q := q) (x := x) (by omega) k4 (q - p) 0 (by omega) FU (by unfold FU; omega)
      rw [show fX5_number_h22 a 0 (nI p) x = lX5_number_h22 a FU (dv (x 3) p 0) (nI (p + 0)) x from rfl, this, en]
      unfold fX6_addNumber
      rw [e1, bd_e, e2, bd_e, bd_e, gd_e (by decide)]
    · have em : lX8_takesE_h28 (g + 1) (nI par) (nI ban) 1 y = (bd (fX8_takesPart_h87 (y 99 17) (nI n) y) (fun r x => if r = 0 then some (0, x) else fX8_takesE_h172 (lX8_takesE_h28 g) (nI par) 0 x)) := by
        refine el _ ?_
        rw [m_toP (by rw [t]; decide)]
        unfold fX8_takesPart fX8_takesPart_h37 fX8_takesPart_h52
        rw [t, if_neg (show ¬ (2 : Int32) = 1 by decide), if_pos rfl, if_pos rfl, c3, ← hv, en]
      rw [em]; exact e3
  · refine ⟨0, x, ?_, Or.inl ?_⟩
    · rw [if_neg (show ¬ nI (q - p) ≤ 4 from nI_ge (a := 4) (by omega) (by omega)), bd_e, gd_e (by decide)]
    · rw [el _ (m_bad (by rw [t]; decide) (by rw [t]; decide) (by rw [t]; exact fun h => absurd h.1 (by decide)) (by rw [t]; exact fun h => absurd h.1 (by decide)))]
      exact Fl.here hT hK0
  · rw [h3] at e; exact absurd e (by decide)
  · rw [h3] at e; exact absurd e (by decide)
theorem name_case {a ky L p q nu par ban k g d : Nat} {C W0 : List Int32} {x y : XS} (ha : 41 ≤ a) (hky : ky < 3) (hS : ST a ky L p q nu C C (List.replicate k (-10) ++ W0) x y) (hW : hdP W0 6) (hd : dlr C = some d) (hg : 100 ≤ g + 1 + p) (h3 : x 2 3 = 1) : ∃ r x1, bd (fX5_name a x) (fun r_17 x_18 => (gd (isB r_17) (some (r_17, x_18)))) = some (r, x1) ∧ (Fl a x y x1 r (lX8_takesE_h28 (g + 1) (nI par) (nI ban) 1 y) ∨ OkP a ky L p d par k W0 x y x1 r (lX8_takesE_h28 (g + 1) (nI par) (nI ban) 1 y)) := by
  have hS0 := hS
  obtain ⟨hT, hK, hC, hM, l1, l2, hD⟩ := hS
  have hK0 := hK
  have hL : L ≤ 96 := hT.1
  obtain ⟨k1, k2, k3, k4, k5, k6, k7, k8⟩ := hK
  have el : ∀ o, bX8_takesE_h28 (lX8_takesE_h28 g) (nI par) (nI ban) 1 y = o → lX8_takesE_h28 (g + 1) (nI par) (nI ban) 1 y = o := fun o h => h
  have hdiff : x 2 5 - x 2 4 = nI (q - p) := by rw [k3, k4, show q = p + (q - p) by omega, ← nI_add, show p + (q - p) - p = q - p by omega]; grind
  have hdifm : y 99 8 - y 99 9 = nI (q - p) := by rw [k5, k6, show q = p + (q - p) by omega, ← nI_add, show p + (q - p) - p = q - p by omega]; grind
  obtain ⟨t, c1, c3, c4⟩ : y 99 10 = 1 ∧ p < q ∧ y 99 11 = y 104 p ∧ ∀ i, p ≤ i → i < q → isl (x 3 i) := by
    rcases k8 with ⟨e, -⟩ | ⟨-, h⟩ | ⟨e, -⟩ | ⟨e, -⟩ | ⟨e, -⟩ | ⟨e, -⟩
    · rw [h3] at e; exact absurd e (by decide)
    · exact h
    · rw [h3] at e; exact absurd e (by decide)
    · rw [h3] at e; exact absurd e (by decide)
    · rw [h3] at e; exact absurd e (by decide)
    · rw [h3] at e; exact absurd e (by decide)
  have hb : isl (x 3 p) := c4 p (by omega) c1
  have hbm : x 3 p = y 104 p := by
    have h1 := hT.2.2.2 p (by omega)
    unfold chR at h1; unfold isl at hb; grind
  unfold fX5_name
  rw [hdiff]
  by_cases c : q - p = 1
  · have e1 : nI (q - p) = 1 := by rw [c]; rfl
    rw [if_pos e1, k3, gd_e (inb_nI (by omega) (by omega)), ix_nI (by omega), st_e]
    obtain ⟨n, n1, n2, n3⟩ := ev_names (x := x) (y := y) hky hb hM.1
    have hnm : fX6_namesOf (x a 1) x = some (3 + ky, x) := by
      unfold fX6_namesOf
      rw [hC.1]
      rcases (show ky = 0 ∨ ky = 1 ∨ ky = 2 by omega) with rfl | rfl | rfl <;> rfl
    have hT1 : ∀ s, fX8_takesPart y = s → bX8_takesE_h28 (lX8_takesE_h28 g) (nI par) (nI ban) 1 y = bd s (fun r x => if r = 0 then some (0, x) else fX8_takesE_h172 (lX8_takesE_h28 g) (nI par) 0 x) := fun s hs => by
      rw [m_toP (by rw [t]; decide), hs]
    have htp : fX8_takesPart y = if n < 0 then fX8_takesPart_h37 0 y else fX8_takesPart_h37 1 y := by
      unfold fX8_takesPart
      rw [t, if_pos rfl, hdifm, if_pos e1, c3, ← hbm, n2, bd_e]
    unfold fX6_addName
    rw [hnm, bd_e, gd_e (decide_eq_true (by omega)), n1, bd_e]
    rcases n3 with rfl | ⟨h0, hok, hce, h00⟩
    · refine ⟨0, x, ?_, Or.inl ?_⟩
      · rw [if_neg (show ¬ (0 : Int32) ≤ -1 by decide), bd_e, if_pos rfl, bd_e, gd_e (by decide)]
      · rw [el _ (hT1 _ htp), if_pos (show (-1 : Int32) < 0 by decide)]
        unfold fX8_takesPart_h37
        rw [t, if_neg (show ¬ (1 : Int32) = 2 by decide), if_pos rfl, bd_e, if_pos rfl]
        exact Fl.here hT hK0
    · obtain ⟨X, x1, e2, e3, e4⟩ := leaf_ok (m := 10000 + n) (v := -1 - n) (par := par) ha hS0 hW hd hg c1 hok h00 hce
      refine ⟨1, x1, ?_, Or.inr ?_⟩
      · rw [if_pos h0, e2, bd_e, if_neg (show ¬ (1 : Int32) = 0 by decide), e3, bd_e, bd_e, gd_e (by decide)]
      · have em : lX8_takesE_h28 (g + 1) (nI par) (nI ban) 1 y = (bd (fX8_takesPart_h87 (y 99 17) (10000 + n) y) (fun r x => if r = 0 then some (0, x) else fX8_takesE_h172 (lX8_takesE_h28 g) (nI par) 0 x)) := by
          refine el _ ?_
          rw [hT1 _ htp, if_neg (show ¬ n < 0 by grind)]
          unfold fX8_takesPart_h37 fX8_takesPart_h52
          rw [t, if_neg (show ¬ (1 : Int32) = 2 by decide), if_neg (show ¬ (1 : Int32) = 0 by decide), if_neg (show ¬ (1 : Int32) = 2 by decide), c3, ← hbm, n2, bd_e]
        rw [em]; exact e4
  · have e1 : ¬ nI (q - p) = 1 := fun h => c ((nI_eq (b := 1) (by omega) (by omega)).mp h)
    refine ⟨0, x, ?_, Or.inl ?_⟩
    · rw [if_neg e1, bd_e, gd_e (by decide)]
    · have em : lX8_takesE_h28 (g + 1) (nI par) (nI ban) 1 y = some (0, y) := by
        refine el _ ?_
        rw [m_toP (by rw [t]; decide)]
        unfold fX8_takesPart fX8_takesPart_h37
        rw [t, if_pos rfl, hdifm, if_neg e1, if_neg (show ¬ (1 : Int32) = 2 by decide), if_pos rfl, bd_e, if_pos rfl]
      rw [em]
      exact Fl.here hT hK0
