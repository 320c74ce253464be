theorem ev_start {a0 : Nat} {v1 v2 v3 v4 : Int32} {x : XS} : ∃ x1, fX0_start a0 v1 v2 v3 v4 x = some ((), x1) ∧ (∀ j, j ≠ a0 → x1 j = x j) ∧ ∀ k, x1 a0 k = if k = 0 then v1 else if k = 1 then v2 else if k = 2 then v3 else if k = 3 then v4 else if k < 7 then 0 else x a0 k := by
  unfold fX0_start
  simp only [st_e]
  refine ⟨_, rfl, fun j hj => ?_, fun k => ?_⟩
  · rw [wr_ne hj, wr_ne hj, wr_ne hj, wr_ne hj, wr_ne hj, wr_ne hj, wr_ne hj]
  · simp only [wr_at, if_true]
    grind
theorem ev_addBoy {n : Nat} {v1 v2 v3 v4 : Int32} {x : XS} (hn : n < 8) (h2 : x 4 2 = nI n) : ∃ x1, fX4_addBoy 4 v1 v2 v3 v4 x = some ((), x1) ∧ (∀ j, j ≠ 4 → j ≠ 7 + n → x1 j = x j) ∧ (∀ k, x1 4 k = if k = 2 then nI (n + 1) else x 4 k) ∧ ∀ k, k < 7 → x1 (7 + n) k = if k = 0 then v1 else if k = 1 then v2 else if k = 2 then v3 else if k = 3 then v4 else 0 := by
  obtain ⟨x1, e1, e2, e3⟩ := ev_start (a0 := 4 + 3 + n) (v1 := v1) (v2 := v2) (v3 := v3) (v4 := v4) (x := x)
  unfold fX4_addBoy
  rw [h2, if_neg (by rw [show (8 : Int32) = nI 8 from rfl]; exact nI_ge hn (by omega)), gd_e (inb_nI hn (by omega)), ix_nI (by omega), e1, bd_e, st_e]
  have e4 : x1 4 = x 4 := e2 4 (by omega)
  refine ⟨_, rfl, fun j h1 h3 => ?_, fun k => ?_, fun k hk => ?_⟩
  · rw [wr_ne h1]; exact e2 j (by omega)
  · rw [wr_at, if_pos rfl, e4, h2, nI_1]
  · rw [wr_ne (by omega), show 7 + n = 4 + 3 + n by omega, e3]
    grind
theorem ev_comes {n : Nat} {v1 v2 v3 v4 : Int32} {y : XS} (hn : n < 8) (h1 : y 100 1 = nI n) : ∃ y1, fX8_comes v1 v2 v3 v4 y = some (nI n, y1) ∧ (∀ j, j ≠ 100 → y1 j = y j) ∧ ∀ k, y1 100 k = if k = 1 then nI (n + 1) else if k = 9 + 7 * n then v1 else if k = 9 + 7 * n + 1 then v2 else if k = 9 + 7 * n + 2 then v3 else if k = 9 + 7 * n + 3 then v4 else if k = 9 + 7 * n + 4 then 0 else if k = 9 + 7 * n + 5 then 0 else if k = 9 + 7 * n + 6 then 0 else y 100 k := by
  unfold fX8_comes
  rw [gd_e (by decide), st_e, show ix 1 = 1 from rfl, h1, ev_put0 hn, bd_e, ev_put1 hn, bd_e, ev_put2 hn, bd_e, ev_put3 hn, bd_e, ev_put4 hn, bd_e, ev_put5 hn, bd_e, ev_put6 hn, bd_e, gd_e (by decide), gd_e (by decide), st_e]
  refine ⟨_, rfl, fun j hj => ?_, fun k => ?_⟩
  · rw [wr_ne hj, wr_ne hj, wr_ne hj, wr_ne hj, wr_ne hj, wr_ne hj, wr_ne hj, wr_ne hj]
  · have w : ∀ (z : XS) (k h : Nat) (v : Int32), h ≠ k → wr z 100 k v 100 h = z 100 h := fun z k h v hne => by rw [wr_at, if_pos rfl, if_neg hne]
    have e1 : wr (wr (wr (wr (wr (wr (wr y 100 (9 + 7 * n) v1) 100 (9 + 7 * n + 1) v2) 100 (9 + 7 * n + 2) v3) 100 (9 + 7 * n + 3) v4) 100 (9 + 7 * n + 4) 0) 100 (9 + 7 * n + 5) 0) 100 (9 + 7 * n + 6) 0 100 1 = nI n := by
      rw [w _ _ _ _ (by omega), w _ _ _ _ (by omega), w _ _ _ _ (by omega), w _ _ _ _ (by omega), w _ _ _ _ (by omega), w _ _ _ _ (by omega), w _ _ _ _ (by omega), h1]
    rw [e1, nI_1]
    simp only [wr_at, if_true]
    grind
/-- one boy more in both -/
theorem CN.add {n nt : Nat} {x y x1 y1 : XS} {v1 v2 v3 v4 : Int32} (h : CN n nt x y) (hn : n < 8) (hx : ∀ j, j ≠ 4 → j ≠ 7 + n → x1 j = x j) (h4 : ∀ k, x1 4 k = if k = 2 then nI (n + 1) else x 4 k) (hb : ∀ k, k < 7 → x1 (7 + n) k = if k = 0 then v1 else if k = 1 then v2 else if k = 2 then v3 else if k = 3 then v4 else 0)
    (hy : ∀ j, j ≠ 100 → y1 j = y j) (hr : ∀ k, y1 100 k = if k = 1 then nI (n + 1) else if k = 9 + 7 * n then v1 else if k = 9 + 7 * n + 1 then v2 else if k = 9 + 7 * n + 2 then v3 else if k = 9 + 7 * n + 3 then v4 else if k = 9 + 7 * n + 4 then 0 else if k = 9 + 7 * n + 5 then 0 else if k = 9 + 7 * n + 6 then 0 else y 100 k)
    (r1 : rg 0 5 v1) (r2 : rg 0 9 v2) (r3 : rg 1 99 v3) (r4 : rg 1 20 v4) : CN (n + 1) nt x1 y1 := by
  have hro : ∀ q, q < 9 + 7 * n → q ≠ 1 → y1 100 q = y 100 q := fun q h1 h2 => by
    rw [hr, if_neg h2, if_neg (by omega), if_neg (by omega), if_neg (by omega), if_neg (by omega), if_neg (by omega), if_neg (by omega), if_neg (by omega)]
  have hP : PR 4 (n + 1) x1 y1 := by
    obtain ⟨h8, p1, p2, p3, p4, p5, p6, p7, p9, p10, p11, p12, p13, pb⟩ := h.1.1
    refine ⟨by omega, ?_, ?_, ?_, ?_, ?_, ?_, ?_, ?_, ?_, ?_, ?_, ?_, ?_⟩
    · rw [hr]; grind
    · rw [h4]; grind
    · rw [h4, hr]; grind
    · rw [h4, hr]; grind
    · rw [h4, hr]; grind
    · rw [h4, hr]; grind
    · rw [h4, hr]; grind
    · rw [h4, hr]; grind
    · rw [h4, hr]; grind
    · rw [h4, hr]; grind
    · rw [hr]; grind
    · rw [h4, hy 99 (by omega)]; grind
    · intro i hi
      by_cases e : i = n
      · subst e
        refine ⟨fun k hk => ?_, ?_⟩
        · rw [show 4 + 3 + i = 7 + i by omega, hb k hk, hr]
          rcases (show k = 0 ∨ k = 1 ∨ k = 2 ∨ k = 3 ∨ k = 4 ∨ k = 5 ∨ k = 6 by omega) with rfl | rfl | rfl | rfl | rfl | rfl | rfl <;> grind
        · unfold BOK
          rw [hr, hr, hr, hr, hr]
          unfold rg at *
          grind
      · obtain ⟨g1, g2⟩ := pb i (by omega)
        refine ⟨fun k hk => ?_, ?_⟩
        · rw [hx _ (by omega) (by omega), g1 k hk, hro _ (by omega) (by omega)]
        · unfold BOK at *
          rw [hro _ (by omega) (by omega), hro _ (by omega) (by omega), hro _ (by omega) (by omega), hro _ (by omega) (by omega), hro _ (by omega) (by omega)]
          exact g2
  refine h.one (h.1.upd hP (fun j _ _ => hx j (by omega) (by omega)) (hx 6 (by omega) (by omega)) ⟨fun k hk => ?_, ?_⟩ (by rw [hy 99 (by omega)]) ?_) (fun j _ a b _ _ => hx j a (by omega)) (fun j _ a _ _ _ _ _ => hy j a)
  · rw [hr]; grind
  · rw [hr]; grind
  · rw [hr]
    have := h.1.2.2.2
    grind
theorem op_boy {x y : XS} {v1 v2 v3 v4 : Int32} (h : CI x y) : RCI (fX7_boy v1 v2 v3 v4 x) (fX8_boy v1 v2 v3 v4 y) := by
  have h0 := h
  obtain ⟨n, nt, h⟩ := h
  have hn8 := h.1.1.1
  unfold fX7_boy fX8_boy
  rw [ev_isKind, ev_in, bdif, bdif]
  refine R2.ite (fun c1 => ?_) (fun _ => RCI.same h0)
  rw [ev_may1, ev_isOf1, bdif, bdif]
  refine R2.ite (fun c2 => ?_) (fun _ => RCI.same h0)
  rw [ev_may2, ev_isOf2, bdif, bdif]
  refine R2.ite (fun c3 => ?_) (fun _ => RCI.same h0)
  rw [ev_may3, ev_isOf3, bdif, bdif]
  refine R2.ite (fun c4 => ?_) (fun _ => RCI.same h0)
  refine R2.gR (by decide) ?_
  rw [show ix 1 = 1 from rfl, show y 100 1 = nI n from h.1.1.2.1, h.n4]
  by_cases e : n = 8
  · subst e
    rw [if_neg (by decide), if_pos (by decide)]
    exact RCI.same h0
  · have hn : n < 8 := by omega
    obtain ⟨x1, e1, e2, e3, e4⟩ := ev_addBoy (v1 := v1) (v2 := v2) (v3 := v3) (v4 := v4) hn h.n4
    obtain ⟨y1, f1, f2, f3⟩ := ev_comes (v1 := v1) (v2 := v2) (v3 := v3) (v4 := v4) hn h.1.1.2.1
    rw [if_pos (by rw [show (8 : Int32) = nI 8 from rfl]; exact nI_lt hn (by omega)), if_neg (by rw [show (8 : Int32) = nI 8 from rfl]; intro q; exact e ((nI_eq (by omega) (by omega)).mp q)), e1, bd_e, f1, bd_e, e3, if_pos rfl, nI_pred]
    exact R2.ret ⟨rfl, n + 1, nt, h.add hn e2 e3 e4 f2 f3 c1 c2 c3 c4⟩
theorem CN.drawn {n nt : Nat} {x y : XS} (h : CN n nt x y) : R2 (fun r x1 q y1 => r = q ∧ (∃ v, r = jushr v 8) ∧ CN n nt x1 y1) (fX4_draw 4 x) (fX8_draw y) := by
  rw [ev_draw, ev_mdraw, h.1.1.z]
  exact R2.ret ⟨rfl, ⟨_, rfl⟩, h.put1 (PR_draw h.1.1) (by omega) (by omega) (by omega)⟩
theorem rem_in {v : Int32} {d b : Nat} (h0 : 0 < d) (hd : d < 1000) (hb : d ≤ b + 1) (hb2 : b < 1000) : rg 0 (nI b) (jrem (jushr v 8) (nI d)) := by
  obtain ⟨k, hk, e⟩ := rem_rg (v := v) h0 hd
  rw [e]
  exact ⟨nI_pos' (by omega), nI_le (by omega) (by omega)⟩
theorem rem_in1 {v : Int32} {d b : Nat} (h0 : 0 < d) (hd : d < 1000) (hb : d ≤ b) (hb2 : b < 1000) : rg 1 (nI b) (1 + jrem (jushr v 8) (nI d)) := by
  obtain ⟨k, hk, e⟩ := rem_rg (v := v) h0 hd
  rw [e, show (1 : Int32) + nI k = nI (1 + k) from nI_add 1 k]
  exact ⟨nI_le (a := 1) (by omega) (by omega), nI_le (by omega) (by omega)⟩
theorem deal_loop {m : Nat} : ∀ (d k n nt : Nat) (x y : XS), CN n nt x y → d + k = m → m ≤ 8 → n + d = min 8 (n + d) → ∀ (w : Int32), (w = nI m ∨ (n + d = 8 ∧ nI m ≤ w)) → ∀ f g, d < f → d < g → R2 (fun r x1 q y1 => r = q ∧ CI x1 y1) (lX7_deal_h31 f (nI m) (nI k) x) (lX8_deal_h15 g w (nI k) y) := by
  intro d
  induction d with
  | zero =>
    intro k n nt x y h hk hm hn w hw f g hf hg
    obtain ⟨f, rfl⟩ : ∃ q, f = q + 1 := ⟨f - 1, by omega⟩
    obtain ⟨g, rfl⟩ : ∃ q, g = q + 1 := ⟨g - 1, by omega⟩
    show R2 _ (bX7_deal_h31 (lX7_deal_h31 f) (nI m) (nI k) x) (bX8_deal_h15 (lX8_deal_h15 g) w (nI k) y)
    have e : m = k := by omega
    subst e
    unfold bX7_deal_h31 bX8_deal_h15
    rw [if_pos (Int32.le_refl _)]
    refine R2.ifR (fun _ => RCI.same ⟨n, nt, h⟩) (fun c => ?_)
    refine R2.gR (by decide) ?_
    rcases hw with hw | ⟨hw, -⟩
    · exact absurd (by rw [hw]; exact Int32.le_refl _) c
    · rw [show ix 1 = 1 from rfl, show y 100 1 = nI n from h.1.1.2.1, show n = 8 by omega, if_pos (by decide)]
      exact RCI.same ⟨n, nt, h⟩
  | succ d ih =>
    intro k n nt x y h hk hm hn w hw f g hf hg
    obtain ⟨f, rfl⟩ : ∃ q, f = q + 1 := ⟨f - 1, by omega⟩
    obtain ⟨g, rfl⟩ : ∃ q, g = q + 1 := ⟨g - 1, by omega⟩
    show R2 _ (bX7_deal_h31 (lX7_deal_h31 f) (nI m) (nI k) x) (bX8_deal_h15 (lX8_deal_h15 g) w (nI k) y)
    have hlt : ¬ nI m ≤ nI k := nI_ge (by omega) (by omega)
    have hlw : ¬ w ≤ nI k := by
      rcases hw with hw | ⟨-, hw⟩
      · rw [hw]; exact hlt
      · intro q; exact hlt (by grind)
    have hn8 : n < 8 := by omega
    unfold bX7_deal_h31 bX8_deal_h15
    rw [if_neg hlt, if_neg hlw]
    refine R2.gR (by decide) ?_
    rw [show ix 1 = 1 from rfl, show y 100 1 = nI n from h.1.1.2.1, if_neg (show ¬ (8 : Int32) ≤ nI n by rw [show (8 : Int32) = nI 8 from rfl]; exact nI_ge hn8 (by omega))]
    have key : R2 (fun (_ : Unit) x1 (z : Int32) y1 => CN (n + 1) nt x1 y1) (fX4_drawBoy 4 x) (bd (fX8_draw y) fun r_7 x_8 => st_ (jrem r_7 6) fun v_9 => bd (fX8_draw x_8) fun r_10 x_11 => st_ (jrem r_10 10) fun v_12 => bd (fX8_draw x_11) fun r_13 x_14 => st_ (jrem r_13 20) fun v_15 => st_ (1 + v_15) fun v_16 => bd (fX8_draw x_14) fun r_17 x_18 => st_ (jrem r_17 12) fun v_19 => bd (fX8_comes v_9 v_12 v_16 (1 + v_19) x_18) fun r_20 x_21 => some (r_20, x_21)) := by
      unfold fX4_drawBoy
      refine R2.bind h.drawn ?_
      rintro r1 x1 _ y1 ⟨rfl, ⟨u1, rfl⟩, h1⟩
      refine R2.sL (R2.sR (R2.bind h1.drawn ?_))
      rintro r2 x2 _ y2 ⟨rfl, ⟨u2, rfl⟩, h2⟩
      refine R2.sL (R2.sR (R2.bind h2.drawn ?_))
      rintro r3 x3 _ y3 ⟨rfl, ⟨u3, rfl⟩, h3⟩
      refine R2.sL (R2.sR (R2.sL (R2.sR (R2.bind h3.drawn ?_))))
      rintro r4 x4 _ y4 ⟨rfl, ⟨u4, rfl⟩, h4⟩
      refine R2.sL (R2.sR (R2.sL ?_))
      obtain ⟨x5, e1, e2, e3, e4⟩ := ev_addBoy (v1 := jrem (jushr u1 8) 6) (v2 := jrem (jushr u2 8) 10) (v3 := 1 + jrem (jushr u3 8) 20) (v4 := 1 + jrem (jushr u4 8) 12) hn8 h4.n4
      obtain ⟨y5, f1, f2, f3⟩ := ev_comes (v1 := jrem (jushr u1 8) 6) (v2 := jrem (jushr u2 8) 10) (v3 := 1 + jrem (jushr u3 8) 20) (v4 := 1 + jrem (jushr u4 8) 12) hn8 h4.1.1.2.1
      rw [e1, bd_e, f1, bd_e]
      exact R2.ret (h4.add hn8 e2 e3 e4 f2 f3 (rem_in (d := 6) (b := 5) (by omega) (by omega) (by omega) (by omega)) (rem_in (d := 10) (b := 9) (by omega) (by omega) (by omega) (by omega)) (rem_in1 (d := 20) (b := 99) (by omega) (by omega) (by omega) (by omega)) (rem_in1 (d := 12) (b := 20) (by omega) (by omega) (by omega) (by omega)))
    obtain ⟨_, x1, z, y1, k1, k2, h1⟩ := key
    rw [k1, bd_e, st_e, nI_1]
    have k3 : (bd (fX8_draw y) fun r_7 x_8 => st_ (jrem r_7 6) fun v_9 => bd (fX8_draw x_8) fun r_10 x_11 => st_ (jrem r_10 10) fun v_12 => bd (fX8_draw x_11) fun r_13 x_14 => st_ (jrem r_13 20) fun v_15 => st_ (1 + v_15) fun v_16 => bd (fX8_draw x_14) fun r_17 x_18 => st_ (jrem r_17 12) fun v_19 => bd (fX8_comes v_9 v_12 v_16 (1 + v_19) x_18) fun r_20 x_21 => st_ (nI (k + 1)) fun v_22 => lX8_deal_h15 g w v_22 x_21) = lX8_deal_h15 g w (nI (k + 1)) y1 := by
      obtain ⟨a1, z1, c1, k2⟩ := bd_out k2
      obtain ⟨_, rfl, k2⟩ := st_out k2
      obtain ⟨a2, z2, c2, k2⟩ := bd_out k2
      obtain ⟨_, rfl, k2⟩ := st_out k2
      obtain ⟨a3, z3, c3, k2⟩ := bd_out k2
      obtain ⟨_, rfl, k2⟩ := st_out k2
      obtain ⟨_, rfl, k2⟩ := st_out k2
      obtain ⟨a4, z4, c4, k2⟩ := bd_out k2
      obtain ⟨_, rfl, k2⟩ := st_out k2
      obtain ⟨a5, z5, c5, k2⟩ := bd_out k2
      rw [c1, bd_e, st_e, c2, bd_e, st_e, c3, bd_e, st_e, st_e, c4, bd_e, st_e, c5, bd_e, st_e]
      have := so_out k2
      rw [this]
    rw [k3]
    refine ih (k + 1) (n + 1) nt x1 y1 h1 (by omega) hm (by omega) w ?_ f g (by omega) (by omega)
    rcases hw with hw | ⟨hw, hw2⟩
    · exact Or.inl hw
    · exact Or.inr ⟨by omega, hw2⟩
theorem op_deal {x y : XS} {v : Int32} (h : CI x y) : RCI (fX7_deal v x) (fX8_deal v y) := by
  have h0 := h
  obtain ⟨n, nt, h⟩ := h
  have hn8 := h.1.1.1
  unfold fX7_deal fX8_deal
  rw [ev_in, bdif]
  have bad : RCI (some (-1000000001, x)) (some (-1000000001, y)) := RCI.same h0
  by_cases c : 1 ≤ v ∧ v ≤ 8
  · rw [if_neg (show ¬ v < 1 by grind), if_pos c.2, if_pos c]
    refine R2.sL ?_
    obtain ⟨k, hk, rfl⟩ := kind_ix (v := v) (b := 8) (by omega) ⟨by grind, c.2⟩
    have e1 : (8 : Int32) - x 4 2 = nI (8 - n) := by rw [h.n4, show (8 : Int32) = nI 8 from rfl]; exact pk_sub hn8
    have e2 : jmin (nI k) (8 - x 4 2) = nI (min k (8 - n)) := by
      rw [e1]; unfold jmin
      by_cases q : 8 - n < k
      · rw [if_pos (nI_lt q (by omega)), Nat.min_eq_right (by omega)]
      · rw [if_neg (nI_nlt (by omega) (by omega)), Nat.min_eq_left (by omega)]
    rw [e2]
    exact deal_loop (min k (8 - n)) 0 n nt x y h (by omega) (by omega) (by omega) (nI k) (by
      by_cases q : k ≤ 8 - n
      · exact Or.inl (by rw [Nat.min_eq_left q])
      · exact Or.inr ⟨by omega, nI_le (by omega) (by omega)⟩) FU FU (by unfold FU; omega) (by unfold FU; omega)
  · rw [if_neg c]
    exact R2.ifL (fun _ => bad) (fun _ => R2.ifL (fun _ => absurd c (by grind)) (fun _ => bad))
