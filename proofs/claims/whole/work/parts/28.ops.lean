theorem byR_of (s : Int32) : byR (ji2b s).toInt8.toInt32 (s &&& 255) := by
  refine ⟨s.toBitVec.toNat % 256, Nat.mod_lt _ (by omega), pk_and s 8 (by decide), ?_⟩
  unfold ji2b
  have e1 : s.toInt8.toInt32.toInt8 = s.toInt8 := by simp
  rw [e1]
  congr 1
  apply Int8.toBitVec_inj.mp
  apply BitVec.eq_of_toNat_eq
  simp only [Int32.toBitVec_toInt8]
  rw [BitVec.signExtend_eq_setWidth_of_le _ (by omega), BitVec.signExtend_eq_setWidth_of_le _ (by omega), BitVec.toNat_setWidth, BitVec.toNat_setWidth, pk_tn (by omega)]
  omega
/-- the byte k of a number, as the class holds it -/
def cb8 (v : Int32) (k : Nat) : Int32 := (ji2b (jshr v (24 - 8 * nI k))).toInt8.toInt32
theorem addN_step {v : Int32} {c k : Nat} {x : XS} (hc : c < 96) (hk : k < 4) (h0 : x 2 0 = nI c) (f : Nat) : lX5_addNumber_h3 (f + 1) v (24 - 8 * nI k) x = lX5_addNumber_h3 f v (24 - 8 * nI (k + 1)) (wr (wr x 3 c (cb8 v k)) 2 0 (nI (c + 1))) := by
  show bX5_addNumber_h3 (lX5_addNumber_h3 f) v (24 - 8 * nI k) x = _
  unfold bX5_addNumber_h3
  have h1 : ¬ (24 - 8 * nI k) < 0 := by
    rcases (show k = 0 ∨ k = 1 ∨ k = 2 ∨ k = 3 by omega) with rfl | rfl | rfl | rfl <;> decide
  have h2 : (24 - 8 * nI k) + -8 = 24 - 8 * nI (k + 1) := by
    rcases (show k = 0 ∨ k = 1 ∨ k = 2 ∨ k = 3 by omega) with rfl | rfl | rfl | rfl <;> decide
  rw [if_neg h1, h0, if_neg (show ¬ (96 : Int32) ≤ nI c by rw [show (96 : Int32) = nI 96 from rfl]; exact nI_ge hc (by omega)), st_e, st_e, gd_e (inb_nI hc (by omega)), st_e, st_e, st_e, h2, ix_nI (by omega)]
  rw [show wr x 3 c (ji2b (jshr v (24 - 8 * nI k))).toInt8.toInt32 2 0 = nI c by rw [wr_ne (by omega)]; exact h0, nI_1]
  rfl
theorem ev_addNumber {v : Int32} {c : Nat} {x : XS} (hc : c + 4 ≤ 96) (h0 : x 2 0 = nI c) : ∃ x1, fX5_addNumber v x = some ((), x1) ∧ x1 2 0 = nI (c + 4) ∧ (∀ j, j ≠ 2 → j ≠ 3 → x1 j = x j) ∧ ∀ q, x1 3 q = if c ≤ q ∧ q < c + 4 then cb8 v (q - c) else x 3 q := by
  have e0 : fX5_addNumber v x = lX5_addNumber_h3 (3999 + 1) v (24 - 8 * nI 0) x := rfl
  have w0 : ∀ (z : XS) (u : Int32), wr z 2 0 u 2 0 = u := fun z u => by rw [wr_at, if_pos rfl, if_pos rfl]
  rw [e0, addN_step (k := 0) (c := c) (by omega) (by omega) h0 3999, addN_step (k := 1) (c := c + 1) (by omega) (by omega) (w0 _ _) 3998, addN_step (k := 2) (c := c + 2) (by omega) (by omega) (w0 _ _) 3997, addN_step (k := 3) (c := c + 3) (by omega) (by omega) (w0 _ _) 3996]
  generalize hx : wr (wr (wr (wr (wr (wr (wr (wr x 3 c (cb8 v 0)) 2 0 (nI (c + 1))) 3 (c + 1) (cb8 v 1)) 2 0 (nI (c + 1 + 1))) 3 (c + 2) (cb8 v 2)) 2 0 (nI (c + 2 + 1))) 3 (c + 3) (cb8 v 3)) 2 0 (nI (c + 3 + 1)) = x1
  refine ⟨x1, ?_, ?_, fun j h2 h3 => ?_, fun q => ?_⟩
  · show bX5_addNumber_h3 (lX5_addNumber_h3 3995) v (24 - 8 * nI 4) x1 = _
    unfold bX5_addNumber_h3
    rw [if_pos (by decide)]
  · rw [← hx, w0]
  · rw [← hx, wr_ne h2, wr_ne h3, wr_ne h2, wr_ne h3, wr_ne h2, wr_ne h3, wr_ne h2, wr_ne h3]
  · have o : ∀ (z : XS) (u : Int32), wr z 2 0 u 3 = z 3 := fun z u => wr_ne (by omega)
    rw [← hx, o, wr_at, if_pos rfl, o, wr_at, if_pos rfl, o, wr_at, if_pos rfl, o, wr_at, if_pos rfl]
    by_cases q3 : q = c + 3
    · rw [if_pos q3, if_pos (by omega), q3, show c + 3 - c = 3 by omega]
    by_cases q2 : q = c + 2
    · rw [if_neg q3, if_pos q2, if_pos (by omega), q2, show c + 2 - c = 2 by omega]
    by_cases q1 : q = c + 1
    · rw [if_neg q3, if_neg q2, if_pos q1, if_pos (by omega), q1, show c + 1 - c = 1 by omega]
    by_cases q0 : q = c
    · rw [if_neg q3, if_neg q2, if_neg q1, if_pos q0, if_pos (by omega), q0, show c - c = 0 by omega]
    · rw [if_neg q3, if_neg q2, if_neg q1, if_neg q0, if_neg (by omega)]
def wd (a b c : Int32) (k : Nat) : Int32 := if k < 4 then a else if k < 8 then b else c
theorem feed_loop {a b c : Int32} {t : Nat} (ht : t + 12 ≤ 96) : ∀ (d k : Nat) (y : XS), k + d = 12 → y 99 7 = nI t → ∀ f, d < f → ∃ y1, lX8_feed_h18 f a b c (nI k) y = some (nI (t + 12), y1) ∧ (∀ j, j ≠ 99 → j ≠ 104 → y1 j = y j) ∧ (∀ q, y1 99 q = if q = 7 then nI (t + 12) else y 99 q) ∧ ∀ q, y1 104 q = if t + k ≤ q ∧ q < t + 12 then (jshr (wd a b c (q - t)) (24 - 8 * nI ((q - t) % 4)) &&& 255) else y 104 q := by
  intro d
  induction d with
  | zero =>
    intro k y hk h7 f hf
    obtain ⟨f, rfl⟩ : ∃ q, f = q + 1 := ⟨f - 1, by omega⟩
    have e12 : y 99 7 + 12 = nI (t + 12) := by rw [h7, show (12 : Int32) = nI 12 from rfl, nI_add]
    refine ⟨wr y 99 7 (nI (t + 12)), ?_, fun j h1 _ => wr_ne h1, fun q => by rw [wr_at, if_pos rfl], fun q => by rw [wr_ne (by omega), if_neg (by omega)]⟩
    show bX8_feed_h18 (lX8_feed_h18 f) a b c (nI k) y = _
    unfold bX8_feed_h18
    rw [show k = 12 by omega, if_pos (by decide), st_e, e12, wr_at, if_pos rfl, if_pos rfl]
  | succ d ih =>
    intro k y hk h7 f hf
    obtain ⟨f, rfl⟩ : ∃ q, f = q + 1 := ⟨f - 1, by omega⟩
    obtain ⟨y1, e1, e2, e4, e3⟩ := ih (k + 1) (wr y 104 (t + k) (jshr (wd a b c k) (24 - 8 * nI (k % 4)) &&& 255)) (by omega) (by rw [wr_ne (by omega)]; exact h7) f (by omega)
    refine ⟨y1, ?_, fun j h1 h2 => by rw [e2 j h1 h2, wr_ne h2], fun q => by rw [e4, wr_ne (by omega)], fun q => ?_⟩
    · show bX8_feed_h18 (lX8_feed_h18 f) a b c (nI k) y = _
      have hb : ∀ s0, fX8_feed_h47 (lX8_feed_h18 f) a b c (nI k) s0 y = lX8_feed_h18 f a b c (nI (k + 1)) (wr y 104 (t + k) (jshr s0 (24 - 8 * nI (k % 4)) &&& 255)) := by
        intro s0
        unfold fX8_feed_h47
        rw [st_e, st_e, h7, nI_add, gd_e (inb_nI (by omega) (by omega)), st_e, st_e, ix_nI (by omega), nI_1, show jrem (nI k) 4 = nI (k % 4) from jrem_nI (d := 4) (by omega) (by omega) (by omega)]
      unfold bX8_feed_h18
      rw [if_neg (show ¬ (12 : Int32) ≤ nI k by rw [show (12 : Int32) = nI 12 from rfl]; exact nI_ge (by omega) (by omega)), hb, hb, hb, ← e1]
      by_cases k4 : k < 4
      · rw [if_neg (show ¬ (4 : Int32) ≤ nI k by rw [show (4 : Int32) = nI 4 from rfl]; exact nI_ge k4 (by omega)), show wd a b c k = a from if_pos k4]
      · rw [if_pos (show (4 : Int32) ≤ nI k by rw [show (4 : Int32) = nI 4 from rfl]; exact nI_le (by omega) (by omega))]
        by_cases k8 : k < 8
        · rw [if_neg (show ¬ (8 : Int32) ≤ nI k by rw [show (8 : Int32) = nI 8 from rfl]; exact nI_ge k8 (by omega)), show wd a b c k = b by unfold wd; rw [if_neg k4, if_pos k8]]
        · rw [if_pos (show (8 : Int32) ≤ nI k by rw [show (8 : Int32) = nI 8 from rfl]; exact nI_le (by omega) (by omega)), show wd a b c k = c by unfold wd; rw [if_neg k4, if_neg k8]]
    · rw [e3, wr_at, if_pos rfl]
      by_cases c1 : q = t + k
      · subst c1
        rw [if_neg (by omega), if_pos rfl, if_pos (by omega), show t + k - t = k by omega]
      · rw [if_neg c1]
        by_cases c2 : t + (k + 1) ≤ q ∧ q < t + 12
        · rw [if_pos c2, if_pos (by omega)]
        · rw [if_neg c2, if_neg (by omega)]
theorem op_feed {x y : XS} {a b c : Int32} (h : CI x y) : RCI (fX7_feed a b c x) (fX8_feed a b c y) := by
  have h0 := h
  obtain ⟨n, nt, h⟩ := h
  obtain ⟨t, ht, e1, e2, e3⟩ := h.2.2.1
  unfold fX7_feed fX8_feed
  rw [e1, e2, show nI t + 12 = nI (t + 12) from nI_add t 12]
  by_cases q : t + 12 ≤ 96
  · rw [if_pos (show nI (t + 12) ≤ (96 : Int32) from nI_le (b := 96) q (by omega)), if_pos (show nI (t + 12) ≤ (96 : Int32) from nI_le (b := 96) q (by omega))]
    obtain ⟨x1, a1, a2, a3, a4⟩ := ev_addNumber (v := a) (c := t) (x := x) (by omega) e1
    obtain ⟨x2, b1, b2, b3, b4⟩ := ev_addNumber (v := b) (c := t + 4) (x := x1) (by omega) a2
    obtain ⟨x3, c1, c2, c3, c4⟩ := ev_addNumber (v := c) (c := t + 4 + 4) (x := x2) (by omega) b2
    obtain ⟨y1, f1, f2, f3, f4⟩ := feed_loop (a := a) (b := b) (c := c) q 12 0 y (by omega) e2 FU (by unfold FU; omega)
    rw [a1, bd_e, b1, bd_e, c1, bd_e, show fX8_feed_h18 a b c 0 y = some (nI (t + 12), y1) from f1, c2]
    refine R2.ret ⟨rfl, n, nt, h.three (fun j p r => by rw [c3 j p r, b3 j p r, a3 j p r]) f2 (fun k hk => by rw [f3, if_neg hk]) ⟨t + 12, q, c2, by rw [f3, if_pos rfl], fun i hi => ?_⟩⟩
    rw [c4, b4, a4, f4]
    by_cases i0 : i < t
    · rw [if_neg (by omega), if_neg (by omega), if_neg (by omega), if_neg (by omega)]; exact e3 i i0
    · rw [show (if t + 0 ≤ i ∧ i < t + 12 then jshr (wd a b c (i - t)) (24 - 8 * nI ((i - t) % 4)) &&& 255 else y 104 i) = jshr (wd a b c (i - t)) (24 - 8 * nI ((i - t) % 4)) &&& 255 from if_pos (by omega)]
      by_cases i1 : i < t + 4
      · rw [if_neg (by omega), if_neg (by omega), if_pos (by omega), show wd a b c (i - t) = a from if_pos (by omega), show (i - t) % 4 = i - t by omega]
        exact byR_of _
      by_cases i2 : i < t + 8
      · rw [if_neg (by omega), if_pos (by omega), show wd a b c (i - t) = b by unfold wd; rw [if_neg (by omega), if_pos (by omega)], show (i - t) % 4 = i - (t + 4) by omega]
        exact byR_of _
      · rw [if_pos (by omega), show wd a b c (i - t) = c by unfold wd; rw [if_neg (by omega), if_neg (by omega)], show (i - t) % 4 = i - (t + 4 + 4) by omega]
        exact byR_of _
  · rw [if_neg (show ¬ nI (t + 12) ≤ (96 : Int32) from nI_ge (b := t + 12) (a := 96) (by omega) (by omega)), if_neg (show ¬ nI (t + 12) ≤ (96 : Int32) from nI_ge (b := t + 12) (a := 96) (by omega) (by omega))]
    exact RCI.same h0
