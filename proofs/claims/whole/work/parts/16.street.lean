/-- n minutes in both -/
def MNs (a n nt : Nat) (y : XS) (k : Nat) (r : Int32) (x1 y1 : XS) : Prop := PR a n x1 y1 ∧ LW x1 (x1 (a + 2)) (y1 100) nt ∧ RS y y1 ∧ y1 100 2 = y 100 2 + nI k ∧ sumK (y1 100) 6 n = sumK (y 100) 6 n + r
theorem minutes_loop {a n nt m : Nat} (ha : a ≤ 26) (hm : m ≤ 300) : ∀ (d k : Nat) (s : Int32) (x y : XS), k + d = m → PR a n x y → LW x (x (a + 2)) (y 100) nt → ∀ f g : Nat, d < f → d < g →
    R2 (fun r x1 (_ : Unit) y1 => ∃ q, r = s + q ∧ MNs a n nt y d q x1 y1) (lX4_passMinutes_h4 a f (nI m) s (nI k) x) (lX8_goesOn_h2 g (nI m) (nI k) y) := by
  intro d
  induction d with
  | zero =>
    intro k s x y hk hR hL f g hf hg
    obtain ⟨f, rfl⟩ : ∃ q, f = q + 1 := ⟨f - 1, by omega⟩
    obtain ⟨g, rfl⟩ : ∃ q, g = q + 1 := ⟨g - 1, by omega⟩
    show R2 _ (bX4_passMinutes_h4 a (lX4_passMinutes_h4 a f) (nI m) s (nI k) x) (bX8_goesOn_h2 (lX8_goesOn_h2 g) (nI m) (nI k) y)
    have e : m = k := by omega
    subst e
    unfold bX4_passMinutes_h4 bX8_goesOn_h2
    rw [if_pos (Int32.le_refl _), if_pos (Int32.le_refl _)]
    exact R2.ret ⟨0, by grind, hR, hL, RS.rf, by rw [nI_0]; grind, by grind⟩
  | succ d ih =>
    intro k s x y hk hR hL f g hf hg
    obtain ⟨f, rfl⟩ : ∃ q, f = q + 1 := ⟨f - 1, by omega⟩
    obtain ⟨g, rfl⟩ : ∃ q, g = q + 1 := ⟨g - 1, by omega⟩
    show R2 _ (bX4_passMinutes_h4 a (lX4_passMinutes_h4 a f) (nI m) s (nI k) x) (bX8_goesOn_h2 (lX8_goesOn_h2 g) (nI m) (nI k) y)
    have hlt : ¬ nI m ≤ nI k := nI_ge (by omega) (by omega)
    unfold bX4_passMinutes_h4 bX8_goesOn_h2
    rw [if_neg hlt, if_neg hlt]
    refine R2.bind (minute_rel ha hR hL) ?_
    rintro r x1 _ y1 ⟨hR1, hL1, hs1, hm1, hd1⟩
    refine R2.sL (R2.sL (R2.sR ?_))
    rw [nI_1]
    refine (ih (k + 1) (s + r) x1 y1 (by omega) hR1 hL1 f g (by omega) (by omega)).mono ?_
    rintro r2 x2 _ y2 ⟨q, hq, b1, b2, b3, b4, b5⟩
    refine ⟨r + q, by rw [hq]; grind, b1, b2, hs1.tr b3, ?_, by rw [b5, hd1]; grind⟩
    rw [b4, hm1, nI_succ]; grind
theorem minutes_rel {a n nt m : Nat} {x y : XS} (ha : a ≤ 26) (hm : m ≤ 300) (hR : PR a n x y) (hL : LW x (x (a + 2)) (y 100) nt) : R2 (fun r x1 (_ : Unit) y1 => MNs a n nt y m r x1 y1) (fX4_passMinutes a (nI m) x) (fX8_goesOn (nI m) y) := by
  refine (minutes_loop ha hm m 0 0 x y (by omega) hR hL FU FU (by unfold FU; omega) (by unfold FU; omega)).mono ?_
  rintro r x1 _ y1 ⟨q, hq, h⟩
  have e : r = q := by rw [hq]; grind
  rw [e]; exact h
/-- sums over boys -/
theorem sum_loopC {a n k : Nat} {x : XS} {M : Nat → Int32} (hn : n ≤ 8) (h2 : x a 2 = nI n) (hb : ∀ i, i < n → x (a + 3 + i) k = M (9 + 7 * i + k)) {B : (Int32 → Int32 → XS → Option (Int32 × XS)) → Int32 → Int32 → XS → Option (Int32 × XS)}
    (hB : ∀ q u1 i, i < 8 → B q u1 (nI i) x = if x a 2 ≤ nI i then some (u1, x) else q (u1 + x (a + 3 + i) k) (nI (i + 1)) x) (hB8 : ∀ q u1, n = 8 → B q u1 (nI 8) x = some (u1, x)) (D : Int32 → Int32 → XS → Option (Int32 × XS)) :
    ∀ (d i : Nat), i + d = n → ∀ f, d < f → lp B D f (sumK M k i) (nI i) x = some (sumK M k n, x) := by
  intro d
  induction d with
  | zero =>
    intro i hi f hf
    obtain ⟨f, rfl⟩ : ∃ q, f = q + 1 := ⟨f - 1, by omega⟩
    rw [lp_s]
    have e : i = n := by omega
    subst e
    by_cases h8 : i = 8
    · rw [show nI i = nI 8 by rw [h8], hB8 _ _ h8]
    · rw [hB _ _ i (by omega), h2, if_pos (Int32.le_refl _)]
  | succ d ih =>
    intro i hi f hf
    obtain ⟨f, rfl⟩ : ∃ q, f = q + 1 := ⟨f - 1, by omega⟩
    rw [lp_s, hB _ _ i (by omega), h2, if_neg (nI_ge (by omega) (by omega)), hb i (by omega)]
    exact ih (i + 1) (by omega) f (by omega)
theorem ev_purses {a n : Nat} {x y : XS} (h : PR a n x y) : fX4_purses a x = some (sumK (y 100) 4 n, x) := by
  obtain ⟨hn, -, h2, -⟩ := id h
  refine sum_loopC (a := a) (n := n) (k := 4) (M := y 100) hn h2 (fun i hi => (h.boy hi).2.2.2.2.2.1) (fun q u1 i hi => ?_) (fun q u1 h8 => ?_) _ n 0 (by omega) FU (by unfold FU; omega)
  · unfold bX4_purses_h4
    rw [gd_e (inb_nI hi (by omega)), ix_nI (by omega), st_e, st_e, nI_1]
  · unfold bX4_purses_h4
    rw [h2, h8, if_pos (Int32.le_refl _)]
theorem ev_menDone {a n : Nat} {x y : XS} (h : PR a n x y) : fX4_menDone a x = some (sumK (y 100) 6 n, x) := by
  obtain ⟨hn, -, h2, -⟩ := id h
  refine sum_loopC (a := a) (n := n) (k := 6) (M := y 100) hn h2 (fun i hi => (h.boy hi).2.2.2.2.2.2.2.1) (fun q u1 i hi => ?_) (fun q u1 h8 => ?_) _ n 0 (by omega) FU (by unfold FU; omega)
  · unfold bX4_menDone_h4
    rw [gd_e (inb_nI hi (by omega)), ix_nI (by omega), st_e, st_e, nI_1]
  · unfold bX4_menDone_h4
    rw [h2, h8, if_pos (Int32.le_refl _)]
theorem ev_sumOf {n k : Nat} {y : XS} (hn : n ≤ 8) (hk : k < 7) (h1 : y 100 1 = nI n) : fX8_sumOf (nI k) y = some (sumK (y 100) k n, y) := by
  have key : ∀ (d i : Nat), i + d = n → ∀ f, d < f → lX8_sumOf_h4 f (nI k) (sumK (y 100) k i) (nI i) y = some (sumK (y 100) k n, y) := by
    intro d
    induction d with
    | zero =>
      intro i hi f hf
      obtain ⟨f, rfl⟩ : ∃ q, f = q + 1 := ⟨f - 1, by omega⟩
      show bX8_sumOf_h4 (lX8_sumOf_h4 f) (nI k) (sumK (y 100) k i) (nI i) y = _
      unfold bX8_sumOf_h4
      rw [gd_e (by decide), show ix 1 = 1 from rfl, h1, if_pos (by rw [show i = n by omega]; exact Int32.le_refl _), show i = n by omega]
    | succ d ih =>
      intro i hi f hf
      obtain ⟨f, rfl⟩ : ∃ q, f = q + 1 := ⟨f - 1, by omega⟩
      show bX8_sumOf_h4 (lX8_sumOf_h4 f) (nI k) (sumK (y 100) k i) (nI i) y = _
      unfold bX8_sumOf_h4
      rw [gd_e (by decide), show ix 1 = 1 from rfl, h1, if_neg (nI_ge (by omega) (by omega)), ev_of (by omega) hk, bd_e, st_e, st_e, nI_1]
      exact ih (i + 1) (by omega) f (by omega)
  exact key n 0 (by omega) FU (by unfold FU; omega)
theorem ev_sum4 {n : Nat} {y : XS} (hn : n ≤ 8) (h1 : y 100 1 = nI n) : fX8_sumOf 4 y = some (sumK (y 100) 4 n, y) := ev_sumOf (k := 4) hn (by omega) h1
theorem ev_sum6 {n : Nat} {y : XS} (hn : n ≤ 8) (h1 : y 100 1 = nI n) : fX8_sumOf 6 y = some (sumK (y 100) 6 n, y) := ev_sumOf (k := 6) hn (by omega) h1
theorem busy_loop {a n : Nat} {x y : XS} (hR : PR a n x y) : ∀ (d i : Nat) (s : Int32), i + d = n → ∀ f g, d < f → d < g → R2 (fun r x1 q y1 => r = q ∧ x1 = x ∧ y1 = y) (lX4_busyBoys_h4 a f s (nI i) x) (lX8_busy_h4 g s (nI i) y) := by
  intro d
  induction d with
  | zero =>
    intro i s hi f g hf hg
    obtain ⟨f, rfl⟩ : ∃ q, f = q + 1 := ⟨f - 1, by omega⟩
    obtain ⟨g, rfl⟩ : ∃ q, g = q + 1 := ⟨g - 1, by omega⟩
    show R2 _ (bX4_busyBoys_h4 a (lX4_busyBoys_h4 a f) s (nI i) x) (bX8_busy_h4 (lX8_busy_h4 g) s (nI i) y)
    unfold bX4_busyBoys_h4 bX8_busy_h4
    have e : i = n := by omega
    subst e
    rw [show x a 2 = nI i from hR.2.2.1, if_pos (Int32.le_refl _)]
    refine R2.gR (by decide) ?_
    rw [show ix 1 = 1 from rfl, show y 100 1 = nI i from hR.2.1, if_pos (Int32.le_refl _)]
    exact R2.ret ⟨rfl, rfl, rfl⟩
  | succ d ih =>
    intro i s hi f g hf hg
    obtain ⟨f, rfl⟩ : ∃ q, f = q + 1 := ⟨f - 1, by omega⟩
    obtain ⟨g, rfl⟩ : ∃ q, g = q + 1 := ⟨g - 1, by omega⟩
    show R2 _ (bX4_busyBoys_h4 a (lX4_busyBoys_h4 a f) s (nI i) x) (bX8_busy_h4 (lX8_busy_h4 g) s (nI i) y)
    obtain ⟨i8, b0, b1, b2, b3, b4, b5, b6, bk⟩ := hR.boy (i := i) (by omega)
    have hn8 := hR.1
    have hlt : ¬ nI n ≤ nI i := nI_ge (by omega) (by omega)
    unfold bX4_busyBoys_h4 bX8_busy_h4
    rw [show x a 2 = nI n from hR.2.2.1, if_neg hlt]
    refine R2.gL (inb_nI i8 (by omega)) (R2.gR (by decide) ?_)
    rw [show ix 1 = 1 from rfl, show y 100 1 = nI n from hR.2.1, if_neg hlt, ix_nI (by omega), b5]
    refine R2.bR (ev_of5 i8) ?_
    refine R2.ite (fun _ => ?_) (fun _ => ?_)
    · refine R2.sL (R2.sR (R2.sR ?_))
      rw [nI_1, show s ||| 0 = s from by simp]
      exact ih (i + 1) s (by omega) f g (by omega) (by omega)
    · refine R2.sL (R2.sR (R2.sL (R2.sL (R2.sR (R2.sR ?_)))))
      rw [nI_1]
      exact ih (i + 1) _ (by omega) f g (by omega) (by omega)
