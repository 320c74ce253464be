theorem ev_become0 {a0 a1 : Nat} {x : XS} (hne : a1 ≠ a0) : ∃ x1, fX0_become a0 a1 x = some ((), x1) ∧ (∀ j, j ≠ a0 → x1 j = x j) ∧ ∀ k, x1 a0 k = if k < 7 then x a1 k else x a0 k := by
  unfold fX0_become
  simp only [st_e, wr_ne hne]
  refine ⟨_, rfl, fun j hj => ?_, fun k => ?_⟩
  · rw [wr_ne hj, wr_ne hj, wr_ne hj, wr_ne hj, wr_ne hj, wr_ne hj, wr_ne hj]
  · simp only [wr_at, if_true]
    by_cases h : k < 7
    · rw [if_pos h]
      rcases (show k = 0 ∨ k = 1 ∨ k = 2 ∨ k = 3 ∨ k = 4 ∨ k = 5 ∨ k = 6 by omega) with rfl | rfl | rfl | rfl | rfl | rfl | rfl <;> simp
    · rw [if_neg h, if_neg (by omega), if_neg (by omega), if_neg (by omega), if_neg (by omega), if_neg (by omega), if_neg (by omega), if_neg (by omega)]
theorem ev_become2 {a0 a1 : Nat} {x : XS} (h1 : a1 ≠ a0) (h2 : a1 + 1 ≠ a0) (h3 : a1 ≠ a0 + 1) : ∃ x1, fX2_become a0 a1 x = some ((), x1) ∧ (∀ j, j ≠ a0 → j ≠ a0 + 1 → x1 j = x j) ∧ x1 a0 1 = x a1 1 ∧ ∀ k, k < 24 → x1 (a0 + 1) k = x (a1 + 1) k := by
  unfold fX2_become
  rw [st_e, st_e, gd_e (by decide), st_e]
  refine ⟨_, rfl, fun j hj hj2 => ?_, ?_, fun k hk => ?_⟩
  · rw [cpx_ne hj2, wr_ne hj, wr_ne hj]
  · rw [cpx_ne (by omega), wr_at, if_pos rfl, if_pos rfl, wr_ne h1]
  · unfold cpx
    rw [if_pos rfl, show ix 0 = 0 from rfl, show ix 24 = 24 from rfl, pk_cpy_in (by omega) (by omega), show 0 + (k - 0) = k by omega, wr_ne h2, wr_ne h2]
theorem lay_loop {s q : Nat} {w : Int32} (hs : s < 5) (hq : q < 4) : ∀ (d k : Nat) (y : XS), k + d = 24 → ∀ f, d < f → ∃ y1, lX8_lay_h134 f (nI s) 2 (nI q) w (nI k) y = some (w, y1) ∧ (∀ j, j ≠ 118 → y1 j = y j) ∧ ∀ z, y1 118 z = if 24 * s + k ≤ z ∧ z < 24 * s + 24 then y 114 (24 * q + (z - 24 * s)) else y 118 z := by
  intro d
  induction d with
  | zero =>
    intro k y hk f hf
    obtain ⟨f, rfl⟩ : ∃ q, f = q + 1 := ⟨f - 1, by omega⟩
    refine ⟨y, ?_, fun _ _ => rfl, fun z => by rw [if_neg (by omega)]⟩
    show bX8_lay_h134 (lX8_lay_h134 f) (nI s) 2 (nI q) w (nI k) y = _
    unfold bX8_lay_h134
    rw [show k = 24 by omega, if_pos (by decide)]
  | succ d ih =>
    intro k y hk f hf
    obtain ⟨f, rfl⟩ : ∃ q, f = q + 1 := ⟨f - 1, by omega⟩
    obtain ⟨y1, e1, e2, e3⟩ := ih (k + 1) (wr y 118 (24 * s + k) (y 114 (24 * q + k))) (by omega) f (by omega)
    refine ⟨y1, ?_, fun j hj => by rw [e2 j hj, wr_ne hj], fun z => ?_⟩
    · show bX8_lay_h134 (lX8_lay_h134 f) (nI s) 2 (nI q) w (nI k) y = _
      unfold bX8_lay_h134
      rw [if_neg (show ¬ (24 : Int32) ≤ nI k by rw [show (24 : Int32) = nI 24 from rfl]; exact nI_ge (by omega) (by omega)), if_pos rfl, cI24, gd_e (inb_nI (by omega) (by omega)), cI24, gd_e (inb_nI (by omega) (by omega)), st_e, st_e, ix_nI (i := 24 * q + k) (by omega), ix_nI (i := 24 * s + k) (by omega), nI_1]
      exact e1
    · rw [e3, show wr y 118 (24 * s + k) (y 114 (24 * q + k)) 114 = y 114 from wr_ne (by omega), wr_at, if_pos rfl]
      by_cases z1 : z = 24 * s + k
      · subst z1
        rw [if_neg (by omega), if_pos rfl, if_pos (by omega), show 24 * s + k - 24 * s = k by omega]
      · rw [if_neg z1]
        by_cases z2 : 24 * s + (k + 1) ≤ z ∧ z < 24 * s + 24
        · rw [if_pos z2, if_pos (by omega)]
        · rw [if_neg z2, if_neg (by omega)]
theorem ev_lay134 {u1 u2 u3 w : Int32} {y : XS} (h : ¬ u2 = 2) : fX8_lay_h134 u1 u2 u3 w 0 y = some (w, y) := by
  show bX8_lay_h134 (lX8_lay_h134 3999) u1 u2 u3 w 0 y = _
  unfold bX8_lay_h134
  rw [if_neg (by decide), if_neg h]
/-- only slot s has changed -/
theorem CN.slot {n nt s : Nat} {x y x1 y1 : XS} (h : CN n nt x y) (hs : s < 5) (hx : ∀ j, j < 79 + 4 * s ∨ 83 + 4 * s ≤ j → x1 j = x j) (hy : ∀ j, j ≠ 115 → j ≠ 116 → j ≠ 117 → j ≠ 118 → y1 j = y j) (h1 : ∀ q, q ≠ s → y1 115 q = y 115 q) (h2 : ∀ q, q ≠ s → y1 116 q = y 116 q) (h3 : ∀ q, q ≠ s → y1 117 q = y 117 q) (h4 : ∀ q, q < 24 * s ∨ 24 * s + 24 ≤ q → y1 118 q = y 118 q) (hR : slR s x1 y1) : CN n nt x1 y1 := by
  refine h.seven (fun j hj => hx j (by omega)) hy (fun q hq => ?_)
  by_cases e : q = s
  · subst e; exact hR
  · exact (h.2.2.2.2.2.2.1 q hq).cong (fun j _ _ => hx j (by omega)) (h1 q e) (h2 q e) (h3 q e) (fun k hk => h4 _ (by omega))
theorem op_lay {x y : XS} {v1 v2 v3 : Int32} (h : CI x y) : RCI (fX7_lay v1 v2 v3 x) (fX8_lay v1 v2 v3 y) := by
  have h0 := h
  obtain ⟨n, nt, h⟩ := h
  have hn8 := h.1.1.1
  have bad : RCI (some (-1000000001, x)) (some (-1000000001, y)) := RCI.same h0
  unfold fX7_lay fX8_lay
  refine R2.slot h0 (fun s hs e => ?_)
  subst e
  have s5 : inb (nI s) 5 = true := inb_nI hs (by omega)
  obtain ⟨a1, a2, -⟩ := h.2.2.2.2.2.2.1 s hs
  rw [ev_in, bdif]
  have wr5 : ∀ (z : XS) (c q k : Nat) (v : Int32), k ≠ q → wr z c q v c k = z c k := fun z c q k v hk => by rw [wr_at, if_pos rfl, if_neg hk]
  have wrs : ∀ (z : XS) (c q : Nat) (v : Int32), wr z c q v c q = v := fun z c q v => by rw [wr_at, if_pos rfl, if_pos rfl]
  by_cases c : 0 ≤ v2 ∧ v2 ≤ 3
  · rw [if_neg (show ¬ v2 < 0 by grind), if_pos c.2, if_pos c]
    by_cases k1 : v2 = 1
    · subst k1
      rw [if_pos rfl, if_pos rfl]
      refine R2.boy h (fun i hi e => ?_)
      subst e
      obtain ⟨i8, b0, b1, b2, b3, b4, b5, b6, bk⟩ := h.bx hi
      unfold fX7_lay_h32 fX7_lay_h47 fX7_lay_h67 fX8_lay_h29 fX8_lay_h44 fX8_lay_h61 fX8_lay_h110
      rw [if_neg (show ¬ (1 : Int32) = 2 by decide), if_neg (show ¬ (1 : Int32) = 2 by decide), if_neg (show ¬ (1 : Int32) = 2 by decide), if_neg (show ¬ (1 : Int32) = 2 by decide)]
      refine R2.gL s5 (R2.gR s5 (R2.sL (R2.sL (R2.sR (R2.gR s5 (R2.sR ?_))))))
      rw [if_pos rfl, if_pos rfl, ix_nI (i := s) (by omega), ix_nI (i := i) (by omega)]
      refine R2.gL (inb_nI i8 (by omega)) ?_
      obtain ⟨x1, e1, e2, e3⟩ := ev_become0 (a0 := 79 + 4 * s + 1) (a1 := 7 + i) (x := wr x (79 + 4 * s) 0 1) (by omega)
      rw [e1, bd_e, ev_of0 i8, bd_e]
      refine R2.gR s5 (R2.sR ?_)
      rw [if_pos rfl, ev_worthOf i8, bd_e]
      refine R2.gR s5 (R2.sR ?_)
      rw [ev_lay134 (by decide), a1]
      have y100 : wr (wr y 115 s 1) 116 s (wr y 115 s 1 100 (9 + 7 * i)) 100 = y 100 := by rw [wr_ne (by omega), wr_ne (by omega)]
      rw [y100, show wr y 115 s 1 100 = y 100 from wr_ne (by omega)]
      have xb : ∀ k, k < 7 → x1 (79 + 4 * s + 1) k = x (7 + i) k := fun k hk => by rw [e3, if_pos hk, wr_ne (by omega)]
      refine R2.ret ⟨rfl, n, nt, h.slot hs (fun j hj => by rw [e2 j (by omega), wr_ne (by omega)]) (fun j p q r _ => by rw [wr_ne r, wr_ne q, wr_ne p]) (fun q hq => by rw [wr_ne (by omega), wr_ne (by omega), wr5 _ _ _ _ _ hq]) (fun q hq => by rw [wr_ne (by omega), wr5 _ _ _ _ _ hq, wr_ne (by omega)]) (fun q hq => by rw [wr5 _ _ _ _ _ hq, wr_ne (by omega), wr_ne (by omega)]) (fun q _ => by rw [wr_ne (by omega), wr_ne (by omega), wr_ne (by omega)]) ?_⟩
      have z115 : wr (wr (wr y 115 s 1) 116 s (y 100 (9 + 7 * i))) 117 s (wk (y 100 (9 + 7 * i)) (y 100 (9 + 7 * i + 2))) 115 s = 1 := by rw [wr_ne (by omega), wr_ne (by omega), wrs]
      have z116 : wr (wr (wr y 115 s 1) 116 s (y 100 (9 + 7 * i))) 117 s (wk (y 100 (9 + 7 * i)) (y 100 (9 + 7 * i + 2))) 116 s = y 100 (9 + 7 * i) := by rw [wr_ne (by omega), wrs]
      refine ⟨?_, ?_, fun _ => ⟨?_, ?_, ?_⟩, fun q => ?_, fun q => ?_⟩
      · rw [z115, e2 _ (by omega), wrs]
      · rw [z115]; unfold rg; decide
      · rw [z116, show 80 + 4 * s = 79 + 4 * s + 1 by omega, xb 0 (by omega), b0]
      · rw [z116]; exact bk.1
      · rw [wrs, show 80 + 4 * s = 79 + 4 * s + 1 by omega, xb 0 (by omega), xb 2 (by omega), b0, b2]
      · rw [z115] at q; exact absurd q (by decide)
      · rw [z115] at q; exact absurd q (by decide)
    rw [if_neg k1, if_neg k1]
    unfold fX7_lay_h32 fX8_lay_h29
    by_cases k2 : v2 = 2
    · subst k2
      rw [if_pos rfl, if_pos rfl]
      refine R2.sheet h0 (fun q hq e => ?_)
      subst e
      have q4 : inb (nI q) 4 = true := inb_nI hq (by omega)
      obtain ⟨p1, p2, p3, ⟨cc, hcc, p4⟩, p5⟩ := h.2.2.2.2.2.1 q hq
      unfold fX7_lay_h47 fX8_lay_h44
      rw [if_pos rfl, if_pos rfl]
      refine R2.gL q4 (R2.gR q4 ?_)
      rw [ix_nI (by omega), ev_missing, bdif, p1]
      refine R2.iteN (by unfold rg at p2; grind) (fun _ => RCI.same h0) (fun _ => ?_)
      unfold fX7_lay_h67 fX8_lay_h61 fX8_lay_h110
      refine R2.gL s5 (R2.gR s5 (R2.sL (R2.sL (R2.sR (R2.gR s5 (R2.sR ?_))))))
      rw [if_neg k1, if_neg k1, if_pos rfl, if_pos rfl, ix_nI (i := s) (by omega), ix_nI (i := q) (by omega)]
      obtain ⟨x1, e1, e2, e3, e4⟩ := ev_become2 (a0 := 79 + 4 * s + 2) (a1 := 71 + 2 * q) (x := wr x (79 + 4 * s) 0 2) (by omega) (by omega) (by omega)
      refine R2.gL q4 (R2.gR q4 (R2.gR s5 (R2.sR ?_)))
      rw [if_neg k1, e1, bd_e]
      refine R2.gR s5 (R2.sR ?_)
      rw [show wr y 115 s 2 113 q = y 113 q by rw [wr_ne (by omega)], a1]
      obtain ⟨y1, f1, f2, f3⟩ := lay_loop (w := y 115 s) hs hq 24 0 (wr (wr (wr y 115 s 2) 116 s (y 113 q)) 117 s 0) (by omega) FU (by unfold FU; omega)
      rw [show fX8_lay_h134 (nI s) 2 (nI q) (y 115 s) 0 (wr (wr (wr y 115 s 2) 116 s (y 113 q)) 117 s 0) = some (y 115 s, y1) from f1]
      have z115 : ∀ k, y1 115 k = wr y 115 s 2 115 k := fun k => by rw [f2 _ (by omega), wr_ne (by omega), wr_ne (by omega)]
      have z116 : ∀ k, y1 116 k = if k = s then y 113 q else y 116 k := fun k => by rw [f2 _ (by omega), wr_ne (by omega), wr_at, if_pos rfl, wr_ne (by omega)]
      have z118 : ∀ z, y1 118 z = if 24 * s ≤ z ∧ z < 24 * s + 24 then y 114 (24 * q + (z - 24 * s)) else y 118 z := fun z => by rw [f3, wr_ne (by omega), wr_ne (by omega), wr_ne (by omega), wr_ne (by omega), wr_ne (by omega), wr_ne (by omega)]; rfl
      refine R2.ret ⟨rfl, n, nt, h.slot hs (fun j hj => by rw [e2 j (by omega) (by omega), wr_ne (by omega)]) (fun j p q r t => by rw [f2 j t, wr_ne r, wr_ne q, wr_ne p]) (fun k hk => by rw [z115, wr5 _ _ _ _ _ hk]) (fun k hk => by rw [z116, if_neg hk]) (fun k hk => by rw [f2 _ (by omega), wr5 _ _ _ _ _ hk, wr_ne (by omega), wr_ne (by omega)]) (fun k hk => by rw [z118, if_neg (by omega)]) ?_⟩
      have zs : y1 115 s = 2 := by rw [z115, wrs]
      refine ⟨?_, ?_, fun q => ?_, fun _ => ⟨?_, ⟨cc, hcc, ?_⟩, fun k hk => ?_⟩, fun q => ?_⟩
      · rw [zs, e2 _ (by omega) (by omega), wrs]
      · rw [zs]; unfold rg; decide
      · rw [zs] at q; exact absurd q (by decide)
      · rw [show 81 + 4 * s = 79 + 4 * s + 2 by omega, e3, wr_ne (by omega), p3, z116, if_pos rfl]
      · rw [z116, if_pos rfl, p4]
      · have := (p5 k hk).1
        rw [show 72 + 2 * q = 71 + 2 * q + 1 by omega] at this
        rw [show 82 + 4 * s = 79 + 4 * s + 2 + 1 by omega, e4 k hk, wr_ne (by omega), this, z118, if_pos (by omega), show 24 * s + k - 24 * s = k by omega]
      · rw [zs] at q; exact absurd q (by decide)
    rw [if_neg k2, if_neg k2]
    unfold fX7_lay_h47 fX8_lay_h44
    rw [if_neg k2, if_neg k2]
    unfold fX7_lay_h67 fX8_lay_h61 fX8_lay_h110
    refine R2.gL s5 (R2.gR s5 (R2.sL (R2.sL (R2.sR (R2.gR s5 (R2.sR ?_))))))
    rw [if_neg k1, if_neg k1, if_neg k2, if_neg k2, ix_nI (i := s) (by omega)]
    refine R2.gR s5 (R2.sR ?_)
    rw [if_neg k1]
    refine R2.gR s5 (R2.sR ?_)
    rw [ev_lay134 k2, a1]
    have fin : ∀ x1 : XS, (∀ j, j ≠ 79 + 4 * s → x1 j = x j) → x1 (79 + 4 * s) 0 = v2 → (v2 = 3 → x1 (79 + 4 * s) 1 = v3) → RCI (some (y 115 s, x1)) (some (y 115 s, wr (wr (wr y 115 s v2) 116 s v3) 117 s 0)) := by
      intro x1 g1 g2 g3
      refine R2.ret ⟨rfl, n, nt, h.slot hs (fun j hj => g1 j (by omega)) (fun j p q r _ => by rw [wr_ne r, wr_ne q, wr_ne p]) (fun q hq => by rw [wr_ne (by omega), wr_ne (by omega), wr5 _ _ _ _ _ hq]) (fun q hq => by rw [wr_ne (by omega), wr5 _ _ _ _ _ hq, wr_ne (by omega)]) (fun q hq => by rw [wr5 _ _ _ _ _ hq, wr_ne (by omega), wr_ne (by omega)]) (fun q _ => by rw [wr_ne (by omega), wr_ne (by omega), wr_ne (by omega)]) ?_⟩
      have z115 : wr (wr (wr y 115 s v2) 116 s v3) 117 s 0 115 s = v2 := by rw [wr_ne (by omega), wr_ne (by omega), wrs]
      have z116 : wr (wr (wr y 115 s v2) 116 s v3) 117 s 0 116 s = v3 := by rw [wr_ne (by omega), wrs]
      refine ⟨by rw [z115, g2], by rw [z115]; exact c, fun q => ?_, fun q => ?_, fun q => ?_⟩
      · rw [z115] at q; exact absurd q k1
      · rw [z115] at q; exact absurd q k2
      · rw [z116]; rw [z115] at q; exact g3 q
    refine R2.ifL (fun k3 => ?_) (fun k3 => ?_)
    · refine R2.sL ?_
      exact fin _ (fun j hj => by rw [wr_ne hj, wr_ne hj]) (by rw [wr5 _ _ _ _ _ (by omega), wrs]) (fun _ => by rw [wrs])
    · exact fin _ (fun j hj => by rw [wr_ne hj]) (by rw [wrs]) (fun e => absurd e k3)
  · rw [if_neg c]
    exact R2.ifL (fun _ => bad) (fun _ => R2.ifL (fun _ => absurd c (by grind)) (fun _ => bad))
theorem ev_finding {a : Nat} {w : Int32} {x : XS} : fX3_findingFor a w x = some (if x a 0 = 0 then -1000000011 else if x a 0 = w then 0 else -1000000012, x) := by
  unfold fX3_findingFor; grind
theorem op_ask {x y : XS} {v w : Int32} (h : CI x y) : RCI (fX7_ask v w x) (fX8_ask v w y) := by
  have h0 := h
  obtain ⟨n, nt, h⟩ := h
  unfold fX7_ask fX8_ask
  refine R2.slot h0 (fun s hs e => ?_)
  subst e
  have s5 : inb (nI s) 5 = true := inb_nI hs (by omega)
  obtain ⟨a1, a2, a3, -⟩ := h.2.2.2.2.2.2.1 s hs
  rw [ev_isKind, bdif, ev_in, bdif]
  refine R2.ite (fun c => ?_) (fun _ => RCI.same h0)
  refine R2.gL s5 (R2.gR s5 ?_)
  rw [ix_nI (by omega), ev_finding, bd_e, a1]
  by_cases t0 : y 115 s = 0
  · rw [if_pos t0, if_pos t0, if_neg (by decide)]
    exact RCI.same h0
  rw [if_neg t0, if_neg t0]
  refine R2.gR s5 ?_
  by_cases t1 : y 115 s = 1
  · rw [if_pos t1, if_pos t1, if_pos rfl]
    obtain ⟨b1, b2, b3⟩ := a3 t1
    refine R2.gL s5 (R2.gR s5 ?_)
    obtain ⟨u, hu, rfl⟩ := kind_ix (b := 5) (by omega) c
    obtain ⟨k, hk, ek⟩ := kind_ix (b := 5) (by omega) b2
    rw [show 79 + 4 * s + 1 = 80 + 4 * s by omega, b1, ek]
    obtain ⟨b, e1, e2⟩ := ev_under (k := k) (u := u) (by omega) (by omega) x y
    rw [e1, bd_e, e2, bd_e]
    refine R2.ite (fun _ => RCI.same h0) (fun _ => ?_)
    refine R2.gR s5 ?_
    rw [ev_worth, bd_e, b3]
    exact RCI.same h0
  · rw [if_neg t1, if_neg t1, if_neg (by decide)]
    exact RCI.same h0
theorem op_item {x y : XS} {v w : Int32} (h : CI x y) : RCI (fX7_item v w x) (fX8_item v w y) := by
  have h0 := h
  obtain ⟨n, nt, h⟩ := h
  unfold fX7_item fX8_item
  refine R2.slot h0 (fun s hs e => ?_)
  subst e
  have s5 : inb (nI s) 5 = true := inb_nI hs (by omega)
  obtain ⟨a1, a2, -, a3, -⟩ := h.2.2.2.2.2.2.1 s hs
  refine R2.gL s5 (R2.gR s5 ?_)
  rw [ix_nI (by omega), ev_finding, bd_e, a1]
  by_cases t0 : y 115 s = 0
  · rw [if_pos t0, if_pos t0, if_neg (by decide)]
    exact RCI.same h0
  rw [if_neg t0, if_neg t0]
  refine R2.gR s5 ?_
  by_cases t1 : y 115 s = 2
  · rw [if_pos t1, if_pos t1, if_pos rfl]
    obtain ⟨b1, ⟨c, hc, b2⟩, b3⟩ := a3 t1
    refine R2.gL s5 (R2.gR s5 ?_)
    have e1 : x (79 + 4 * s + 2) 1 = nI c := by rw [show 79 + 4 * s + 2 = 81 + 4 * s by omega, b1, b2]
    rw [ev_hasPlace, bdif, e1, ev_in, bdif, b2]
    have hs' := nI_small (b := 24) hc (by omega)
    rw [show nI 24 = 24 from rfl] at hs'
    refine R2.iteC (by generalize nI c = N at *; grind) (fun q => ?_) (fun _ => RCI.same h0)
    obtain ⟨k, hk, rfl⟩ := place_ix hc q
    rw [ev_hasNumber hc e1 (by omega), bdif, cI24]
    have bb := b3 k (by omega)
    rw [show 82 + 4 * s = 79 + 4 * s + 2 + 1 by omega] at bb
    refine R2.gR (inb_nI (by omega) (by omega)) (R2.sR ?_)
    rw [ix_nI (i := 24 * s + k) (by omega), bb]
    by_cases hN : y 118 (24 * s + k) = -1000000005
    · rw [if_neg (fun q => q.2 hN), if_pos hN]; exact RCI.same h0
    · rw [if_pos ⟨hk, hN⟩, if_neg hN]
      refine R2.gL (inb_nI (by omega) (by omega)) ?_
      rw [ix_nI (by omega), bb]
      exact RCI.same h0
  · rw [if_neg t1, if_neg t1, if_neg (by decide)]
    exact RCI.same h0
theorem jrem_m1 (v : Int32) : jrem v (-1) = 0 := by
  unfold jrem
  have e : v / -1 = -v := by
    apply Int32.toInt_inj.mp
    rw [Int32.toInt_div, show (-1 : Int32).toInt = -1 by decide, Int32.toInt_neg, Int.tdiv_neg, Int.tdiv_one]
  rw [e]
  grind
theorem op_rest {x y : XS} {v w : Int32} (h : CI x y) : RCI (fX7_rest v w x) (fX8_rest v w y) := by
  have h0 := h
  obtain ⟨n, nt, h⟩ := h
  unfold fX7_rest fX8_rest
  refine R2.slot h0 (fun s hs e => ?_)
  subst e
  have s5 : inb (nI s) 5 = true := inb_nI hs (by omega)
  obtain ⟨a1, a2, -, -, a3⟩ := h.2.2.2.2.2.2.1 s hs
  refine R2.gL s5 (R2.gR s5 ?_)
  rw [ix_nI (by omega), ev_finding, bd_e, a1]
  by_cases t0 : y 115 s = 0
  · rw [if_pos t0, if_pos t0, if_neg (by decide)]
    exact RCI.same h0
  rw [if_neg t0, if_neg t0]
  refine R2.gR s5 ?_
  by_cases t1 : y 115 s = 3
  · rw [if_pos t1, if_pos t1, if_pos rfl]
    refine R2.ite (fun _ => RCI.same h0) (fun w0 => ?_)
    refine R2.gL s5 (R2.gL (decide_eq_true w0) (R2.sL ?_))
    rw [a3 t1]
    refine R2.ifR (fun e => ?_) (fun _ => R2.gR s5 (R2.gR (decide_eq_true w0) (R2.sR (RCI.same h0))))
    rw [e, jrem_m1]
    exact RCI.same h0
  · rw [if_neg t1, if_neg t1, if_neg (by decide)]
    exact RCI.same h0
