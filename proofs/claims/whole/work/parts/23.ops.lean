theorem ev_hasNumber {a c i : Nat} {x : XS} (hc : c ≤ 24) (h1 : x a 1 = nI c) (hi : i < 100) : fX2_hasNumber a (nI i) x = some (if i < c ∧ x (a + 1) i ≠ -1000000005 then 1 else 0, x) := by
  unfold fX2_hasNumber
  rw [ev_hasPlace, bdif, h1]
  by_cases q : i < c
  · rw [if_pos ⟨nI_pos' (by omega), nI_lt q (by omega)⟩, gd_e (inb_nI (by omega) (by omega)), ix_nI (by omega)]
    by_cases e : x (a + 1) i = -1000000005
    · rw [if_pos e, if_neg (fun h => h.2 e)]
    · rw [if_neg e, if_pos ⟨q, e⟩]
  · rw [if_neg (fun h => nI_nlt (a := i) (b := c) (by omega) (by omega) h.2), if_neg (fun h => q h.1)]
theorem pour_tail {n nt q c : Nat} {x y : XS} (h : CN n nt x y) (hq : q < 4) (hc : c ≤ 24) (e1 : x (71 + 2 * q) 1 = nI c) : ∀ (d i : Nat) (s : Int32), i + d = n → c ≤ i → ∀ f, d < f → lX7_pour_h32 f (71 + 2 * q) s (nI i) x = some (s, x) := by
  have hn8 := h.1.1.1
  intro d
  induction d with
  | zero =>
    intro i s hi hci f hf
    obtain ⟨f, rfl⟩ : ∃ q, f = q + 1 := ⟨f - 1, by omega⟩
    show bX7_pour_h32 (lX7_pour_h32 f) (71 + 2 * q) s (nI i) x = _
    unfold bX7_pour_h32
    rw [h.n4, show i = n by omega, if_pos (Int32.le_refl _)]
  | succ d ih =>
    intro i s hi hci f hf
    obtain ⟨f, rfl⟩ : ∃ q, f = q + 1 := ⟨f - 1, by omega⟩
    show bX7_pour_h32 (lX7_pour_h32 f) (71 + 2 * q) s (nI i) x = _
    unfold bX7_pour_h32
    rw [h.n4, if_neg (nI_ge (by omega) (by omega)), ev_hasNumber hc e1 (by omega), bdif, if_neg (by omega), st_e, nI_1]
    exact ih (i + 1) s (by omega) (by omega) f (by omega)
theorem pour_loop {q : Nat} (hq : q < 4) : ∀ (d i n nt : Nat) (s : Int32) (x y : XS), i + d = n → CN n nt x y → ∀ f g, d < f → d < g → RCI (lX7_pour_h32 f (71 + 2 * q) s (nI i) x) (lX8_pour_h26 g (nI q) s (nI i) y) := by
  intro d
  induction d with
  | zero =>
    intro i n nt s x y hi h f g hf hg
    obtain ⟨f, rfl⟩ : ∃ q, f = q + 1 := ⟨f - 1, by omega⟩
    obtain ⟨g, rfl⟩ : ∃ q, g = q + 1 := ⟨g - 1, by omega⟩
    show RCI (bX7_pour_h32 (lX7_pour_h32 f) (71 + 2 * q) s (nI i) x) (bX8_pour_h26 (lX8_pour_h26 g) (nI q) s (nI i) y)
    have e : i = n := by omega
    subst e
    unfold bX7_pour_h32 bX8_pour_h26
    rw [h.n4, if_pos (Int32.le_refl _)]
    refine R2.gR (inb_nI hq (by omega)) (R2.ifR (fun _ => RCI.same ⟨_, _, h⟩) (fun _ => R2.gR (by decide) ?_))
    rw [show ix 1 = 1 from rfl, show y 100 1 = nI i from h.1.1.2.1, if_pos (Int32.le_refl _)]
    exact RCI.same ⟨_, _, h⟩
  | succ d ih =>
    intro i n nt s x y hi h f g hf hg
    have hn8 := h.1.1.1
    obtain ⟨a1, a2, a3, ⟨c, hc, a4⟩, a5⟩ := h.2.2.2.2.2.1 q hq
    have e1 : x (71 + 2 * q) 1 = nI c := by rw [a3, a4]
    by_cases hci : c ≤ i
    · rw [pour_tail h hq hc e1 (d + 1) i s hi hci f hf]
      obtain ⟨g, rfl⟩ : ∃ q, g = q + 1 := ⟨g - 1, by omega⟩
      show RCI _ (bX8_pour_h26 (lX8_pour_h26 g) (nI q) s (nI i) y)
      unfold bX8_pour_h26
      refine R2.gR (inb_nI hq (by omega)) ?_
      rw [ix_nI (by omega), a4, if_pos (nI_le hci (by omega))]
      exact RCI.same ⟨_, _, h⟩
    · obtain ⟨f, rfl⟩ : ∃ q, f = q + 1 := ⟨f - 1, by omega⟩
      obtain ⟨g, rfl⟩ : ∃ q, g = q + 1 := ⟨g - 1, by omega⟩
      show RCI (bX7_pour_h32 (lX7_pour_h32 f) (71 + 2 * q) s (nI i) x) (bX8_pour_h26 (lX8_pour_h26 g) (nI q) s (nI i) y)
      obtain ⟨i8, b0, b1, b2, b3, b4, b5, b6, bk⟩ := h.bx (i := i) (by omega)
      have ap := a5 i (by omega)
      rw [show 72 + 2 * q = 71 + 2 * q + 1 by omega] at ap
      unfold bX7_pour_h32 bX8_pour_h26
      rw [h.n4, if_neg (nI_ge (by omega) (by omega)), ev_hasNumber hc e1 (by omega), bdif]
      refine R2.gR (inb_nI hq (by omega)) ?_
      rw [ix_nI (i := q) (by omega), a4, if_neg (nI_ge (by omega) (by omega))]
      refine R2.gR (by decide) ?_
      rw [show ix 1 = 1 from rfl, show y 100 1 = nI n from h.1.1.2.1, if_neg (nI_ge (by omega) (by omega)), cI24]
      refine R2.gR (inb_nI (by omega) (by omega)) (R2.sR ?_)
      rw [ix_nI (i := 24 * q + i) (by omega), ap.1]
      by_cases hN : y 114 (24 * q + i) = -1000000005
      · rw [if_neg (fun hh => hh.2 hN), if_pos hN, st_e, nI_1, ev_of2 i8, bd_e]
        unfold fX8_pour_h83
        rw [show (9 + 7 * nI i) + 2 = nI (9 + 7 * i + 2) from cI9 i 2, ev_becomes (by omega), bd_e, if_pos rfl, wr_same rfl, st_e, st_e, nI_1, Int32.add_zero]
        exact ih (i + 1) n nt s x y (by omega) h f g (by omega) (by omega)
      · rw [if_pos ⟨by omega, hN⟩, if_neg hN, ev_within, bd_e]
        refine R2.gL (inb_nI (by omega) (by omega)) ?_
        rw [ix_nI (i := i) (by omega), ap.1]
        refine R2.sL (R2.sL (R2.gL (inb_nI i8 (by omega)) ?_))
        have ev : jmax 1 (jmin 99 (y 114 (24 * q + i))) = if y 114 (24 * q + i) < 1 then 1 else if 99 < y 114 (24 * q + i) then 99 else y 114 (24 * q + i) := by unfold jmax jmin; grind
        rw [ev]
        have hr : rg 1 99 (if y 114 (24 * q + i) < 1 then 1 else if 99 < y 114 (24 * q + i) then 99 else y 114 (24 * q + i)) := by unfold rg; grind
        generalize (if y 114 (24 * q + i) < 1 then (1 : Int32) else if 99 < y 114 (24 * q + i) then 99 else y 114 (24 * q + i)) = w at *
        unfold fX7_pour_h92 fX8_pour_h83
        rw [show (9 + 7 * nI i) + 2 = nI (9 + 7 * i + 2) from cI9 i 2, ev_becomes (by omega), bd_e, ix_nI (i := i) (by omega), b2]
        have h1 : CN n nt (wr x (7 + i) 2 w) (wr y 100 (9 + 7 * i + 2) w) := h.fld (by omega) (by omega) (bk.put (k := 2) (v := w) (fun q => by rw [wr_at, if_pos rfl]) (by grind [rg]))
        refine R2.iteC (by grind) (fun _ => ?_) (fun _ => ?_)
        · refine R2.gL (inb_nI i8 (by omega)) ?_
          rw [st_e, st_e, st_e, st_e, nI_1, Int32.add_zero]
          exact ih (i + 1) n nt s _ _ (by omega) h1 f g (by omega) (by omega)
        · refine R2.sL (R2.gL (inb_nI i8 (by omega)) ?_)
          rw [st_e, st_e, st_e, st_e, nI_1]
          exact ih (i + 1) n nt (s + 1) _ _ (by omega) h1 f g (by omega) (by omega)
theorem op_pour {x y : XS} {v : Int32} (h : CI x y) : RCI (fX7_pour v x) (fX8_pour v y) := by
  have h0 := h
  obtain ⟨n, nt, h⟩ := h
  have hn8 := h.1.1.1
  unfold fX7_pour fX8_pour
  refine R2.sheet h0 (fun i hi e => ?_)
  subst e
  obtain ⟨a1, a2, a3, -⟩ := h.2.2.2.2.2.1 i hi
  refine R2.gL (inb_nI hi (by omega)) (R2.gR (inb_nI hi (by omega)) ?_)
  rw [ix_nI (by omega), ev_missing, bdif, a1]
  refine R2.iteN (by unfold rg at a2; grind) (fun _ => RCI.same h0) (fun _ => ?_)
  exact pour_loop hi n 0 n nt 0 x y (by omega) h FU FU (by unfold FU; omega) (by unfold FU; omega)
theorem reads_loop {n nt q c : Nat} {x y : XS} (h : CN n nt x y) (hq : q < 4) (hc : c ≤ 24) (e4 : y 113 q = nI c) : ∀ (d i : Nat), i + d = c → ∀ f g, d < f → d < g → RCI (lX7_reads_h29 f (71 + 2 * q) (nI i) x) (lX8_reads_h24 g (nI q) (nI i) y) := by
  have h0 : CI x y := ⟨n, nt, h⟩
  have hn8 := h.1.1.1
  obtain ⟨a1, a2, a3, -, a5⟩ := h.2.2.2.2.2.1 q hq
  have e1 : x (71 + 2 * q) 1 = nI c := by rw [a3, e4]
  intro d
  induction d with
  | zero =>
    intro i hi f g hf hg
    obtain ⟨f, rfl⟩ : ∃ q, f = q + 1 := ⟨f - 1, by omega⟩
    obtain ⟨g, rfl⟩ : ∃ q, g = q + 1 := ⟨g - 1, by omega⟩
    show RCI (bX7_reads_h29 (lX7_reads_h29 f) (71 + 2 * q) (nI i) x) (bX8_reads_h24 (lX8_reads_h24 g) (nI q) (nI i) y)
    have e : i = c := by omega
    subst e
    unfold bX7_reads_h29 bX8_reads_h24
    rw [e1, if_pos (Int32.le_refl _)]
    refine R2.gR (inb_nI hq (by omega)) ?_
    rw [ix_nI (by omega), e4, if_pos (Int32.le_refl _)]
    exact RCI.same h0
  | succ d ih =>
    intro i hi f g hf hg
    obtain ⟨f, rfl⟩ : ∃ q, f = q + 1 := ⟨f - 1, by omega⟩
    obtain ⟨g, rfl⟩ : ∃ q, g = q + 1 := ⟨g - 1, by omega⟩
    show RCI (bX7_reads_h29 (lX7_reads_h29 f) (71 + 2 * q) (nI i) x) (bX8_reads_h24 (lX8_reads_h24 g) (nI q) (nI i) y)
    have ap := a5 i (by omega)
    rw [show 72 + 2 * q = 71 + 2 * q + 1 by omega] at ap
    have go : RCI (lX7_reads_h29 f (71 + 2 * q) (nI i + 1) x) (lX8_reads_h24 g (nI q) (nI i + 1) y) := by
      rw [nI_1]; exact ih (i + 1) (by omega) f g (by omega) (by omega)
    unfold bX7_reads_h29 bX8_reads_h24
    rw [e1, if_neg (nI_ge (by omega) (by omega)), ev_hasNumber hc e1 (by omega), bdif]
    refine R2.gR (inb_nI hq (by omega)) ?_
    rw [ix_nI (i := q) (by omega), e4, if_neg (nI_ge (by omega) (by omega)), cI24]
    refine R2.gR (inb_nI (by omega) (by omega)) (R2.sR ?_)
    rw [ix_nI (i := 24 * q + i) (by omega), ap.1]
    by_cases hN : y 114 (24 * q + i) = -1000000005
    · rw [if_neg (fun hh => hh.2 hN), if_pos hN, st_e, st_e]
      exact go
    · rw [if_pos ⟨by omega, hN⟩, if_neg hN, ev_isB7, bdif, h.n4, ev_isB8 hn8 h.1.1.2.1, bdif]
      refine R2.ite (fun cb => ?_) (fun _ => RCI.same h0)
      obtain ⟨j, hj, ej⟩ := boy_ix hn8 cb
      have eij : i = j := (nI_eq (by omega) (by omega)).mp ej
      subst eij
      obtain ⟨i8, b0, b1, b2, b3, b4, b5, b6, bk⟩ := h.bx (i := i) hj
      refine R2.gL (inb_nI (by omega) (by omega)) (R2.gL (inb_nI i8 (by omega)) ?_)
      rw [ix_nI (i := i) (by omega), ap.1, b4, ev_of4 i8, bd_e]
      refine R2.ite (fun _ => ?_) (fun _ => RCI.same h0)
      rw [st_e, st_e]; exact go
theorem op_reads {x y : XS} {v : Int32} (h : CI x y) : RCI (fX7_reads v x) (fX8_reads v y) := by
  have h0 := h
  obtain ⟨n, nt, h⟩ := h
  unfold fX7_reads fX8_reads
  refine R2.sheet h0 (fun i hi e => ?_)
  subst e
  obtain ⟨a1, a2, a3, ⟨c, hc, a4⟩, -⟩ := h.2.2.2.2.2.1 i hi
  refine R2.gL (inb_nI hi (by omega)) (R2.gR (inb_nI hi (by omega)) ?_)
  rw [ix_nI (by omega), ev_missing, bdif, a1]
  refine R2.iteN (by unfold rg at a2; grind) (fun _ => RCI.same h0) (fun _ => ?_)
  exact reads_loop h hi hc a4 c 0 (by omega) FU FU (by unfold FU; omega) (by unfold FU; omega)
theorem cI24b (i k j : Nat) : 24 * nI i + nI k + nI j = nI (24 * i + k + j) := by
  rw [cI24, nI_add]
theorem copy2 {t p m : Nat} (ht : t < 4) (hp : p + m ≤ 24) : ∀ (d k : Nat) (y : XS), k + d = m → ∀ f, d < f → ∃ y1, lX8_copy_h141 f (nI t) (nI p) (nI m) (nI k) y = some (nI m, y1) ∧ (∀ j, j ≠ 114 → y1 j = y j) ∧ ∀ q, y1 114 q = if 24 * t + p + k ≤ q ∧ q < 24 * t + p + m then y 119 (q - (24 * t + p)) else y 114 q := by
  intro d
  induction d with
  | zero =>
    intro k y hk f hf
    obtain ⟨f, rfl⟩ : ∃ q, f = q + 1 := ⟨f - 1, by omega⟩
    refine ⟨y, ?_, fun _ _ => rfl, fun q => by rw [if_neg (by omega)]⟩
    show bX8_copy_h141 (lX8_copy_h141 f) (nI t) (nI p) (nI m) (nI k) y = _
    unfold bX8_copy_h141
    rw [show k = m by omega, if_pos (Int32.le_refl _)]
  | succ d ih =>
    intro k y hk f hf
    obtain ⟨f, rfl⟩ : ∃ q, f = q + 1 := ⟨f - 1, by omega⟩
    obtain ⟨y1, e1, e2, e3⟩ := ih (k + 1) (wr y 114 (24 * t + p + k) (y 119 k)) (by omega) f (by omega)
    refine ⟨y1, ?_, fun j hj => by rw [e2 j hj, wr_ne hj], fun q => ?_⟩
    · show bX8_copy_h141 (lX8_copy_h141 f) (nI t) (nI p) (nI m) (nI k) y = _
      unfold bX8_copy_h141
      rw [if_neg (nI_ge (by omega) (by omega)), gd_e (inb_nI (by omega) (by omega)), cI24b, gd_e (inb_nI (by omega) (by omega)), st_e, st_e, ix_nI (i := k) (by omega), ix_nI (i := 24 * t + p + k) (by omega), nI_1]
      exact e1
    · rw [e3, wr_ne (by omega), wr_at, if_pos rfl]
      by_cases q1 : q = 24 * t + p + k
      · subst q1
        rw [if_neg (by omega), if_pos rfl, if_pos (by omega), show 24 * t + p + k - (24 * t + p) = k by omega]
      · rw [if_neg q1]
        by_cases q2 : 24 * t + p + (k + 1) ≤ q ∧ q < 24 * t + p + m
        · rw [if_pos q2, if_pos (by omega)]
        · rw [if_neg q2, if_neg (by omega)]
theorem copy1 {s b t p m : Nat} (hs : s < 4) (hb : b + m ≤ 24) (ht : t < 4) (hp : p + m ≤ 24) : ∀ (d k : Nat) (y : XS), k + d = m → ∀ f, d < f → ∃ y1, lX8_copy_h104 f (nI s) (nI b) (nI t) (nI p) (nI m) (nI k) y = some (nI m, y1) ∧ (∀ j, j ≠ 114 → j ≠ 119 → y1 j = y j) ∧ ∀ q, y1 114 q = if 24 * t + p ≤ q ∧ q < 24 * t + p + m then (if q - (24 * t + p) < k then y 119 (q - (24 * t + p)) else y 114 (24 * s + b + (q - (24 * t + p)))) else y 114 q := by
  intro d
  induction d with
  | zero =>
    intro k y hk f hf
    obtain ⟨f, rfl⟩ : ∃ q, f = q + 1 := ⟨f - 1, by omega⟩
    obtain ⟨y1, e1, e2, e3⟩ := copy2 ht hp m 0 y (by omega) FU (by unfold FU; omega)
    refine ⟨y1, ?_, fun j a b => e2 j a, fun q => ?_⟩
    · show bX8_copy_h104 (lX8_copy_h104 f) (nI s) (nI b) (nI t) (nI p) (nI m) (nI k) y = _
      unfold bX8_copy_h104 fX8_copy_h141
      rw [show k = m by omega, if_pos (Int32.le_refl _)]
      exact e1
    · rw [e3]
      by_cases q2 : 24 * t + p + 0 ≤ q ∧ q < 24 * t + p + m
      · rw [if_pos q2, if_pos (by omega), if_pos (by omega)]
      · rw [if_neg q2, if_neg (by omega)]
  | succ d ih =>
    intro k y hk f hf
    obtain ⟨f, rfl⟩ : ∃ q, f = q + 1 := ⟨f - 1, by omega⟩
    obtain ⟨y1, e1, e2, e3⟩ := ih (k + 1) (wr y 119 k (y 114 (24 * s + b + k))) (by omega) f (by omega)
    refine ⟨y1, ?_, fun j a b => by rw [e2 j a b, wr_ne b], fun q => ?_⟩
    · show bX8_copy_h104 (lX8_copy_h104 f) (nI s) (nI b) (nI t) (nI p) (nI m) (nI k) y = _
      unfold bX8_copy_h104
      rw [if_neg (nI_ge (by omega) (by omega)), cI24b, gd_e (inb_nI (by omega) (by omega)), gd_e (inb_nI (by omega) (by omega)), st_e, st_e, ix_nI (i := 24 * s + b + k) (by omega), ix_nI (i := k) (by omega), nI_1]
      exact e1
    · rw [e3, show wr y 119 k (y 114 (24 * s + b + k)) 114 = y 114 from wr_ne (by omega)]
      by_cases q2 : 24 * t + p ≤ q ∧ q < 24 * t + p + m
      · rw [if_pos q2, if_pos q2, wr_at, if_pos rfl]
        by_cases q3 : q - (24 * t + p) < k
        · rw [if_pos (by omega), if_neg (by omega), if_pos q3]
        · rw [if_neg q3]
          by_cases q4 : q - (24 * t + p) = k
          · rw [if_pos (by omega), if_pos q4, q4]
          · rw [if_neg (by omega)]
      · rw [if_neg q2, if_neg q2]
theorem ev_hasPlaces {a : Nat} {v w : Int32} {c : Nat} {x : XS} (h1 : x a 1 = nI c) (hc : c ≤ 24) : fX2_hasPlaces a v w x = some (if 0 ≤ v ∧ 0 ≤ w ∧ v ≤ nI c - w then 1 else 0, x) := by
  have hs := nI_small (b := 24) hc (by omega)
  rw [show nI 24 = 24 from rfl] at hs
  unfold fX2_hasPlaces
  rw [h1]
  generalize nI c = N at *
  by_cases c1 : v < 0
  · rw [if_pos c1, if_neg (by grind)]
  by_cases c2 : w < 0
  · rw [if_neg c1, if_pos c2, if_neg (by grind)]
  rw [if_neg c1, if_neg c2]
  have n0 : (0 : Int32).toInt = 0 := by decide
  have n24 : (24 : Int32).toInt = 24 := by decide
  have i1 := Int32.le_iff_toInt_le.mp hs.1
  have i2 := Int32.le_iff_toInt_le.mp hs.2
  have i3 : ¬ v.toInt < 0 := fun q => c1 (Int32.lt_iff_toInt_lt.mpr (by rw [n0]; exact q))
  have i4 : ¬ w.toInt < 0 := fun q => c2 (Int32.lt_iff_toInt_lt.mpr (by rw [n0]; exact q))
  have j1 := Int32.toInt_lt v
  have j2 := Int32.toInt_lt w
  rw [n0] at i1
  rw [n24] at i2
  have s1 : (N - v).toInt = N.toInt - v.toInt := by
    rw [Int32.toInt_sub]; exact Int.bmod_eq_of_le (by omega) (by omega)
  have s2 : (N - w).toInt = N.toInt - w.toInt := by
    rw [Int32.toInt_sub]; exact Int.bmod_eq_of_le (by omega) (by omega)
  by_cases c3 : N < v
  · rw [if_pos c3, if_neg]
    intro q
    have := Int32.le_iff_toInt_le.mp q.2.2
    have := Int32.lt_iff_toInt_lt.mp c3
    omega
  rw [if_neg c3]
  by_cases c4 : N - v < w
  · rw [if_pos c4, if_neg]
    intro q
    have := Int32.le_iff_toInt_le.mp q.2.2
    have := Int32.lt_iff_toInt_lt.mp c4
    omega
  · rw [if_neg c4, if_pos]
    refine ⟨by grind, by grind, Int32.le_iff_toInt_le.mpr ?_⟩
    have : ¬ (N - v).toInt < w.toInt := fun q => c4 (Int32.lt_iff_toInt_lt.mpr q)
    omega
theorem copy_ix {c : Nat} {v w : Int32} (hc : c ≤ 24) (h : 0 ≤ v ∧ 0 ≤ w ∧ v ≤ nI c - w) : ∃ b m, b + m ≤ c ∧ v = nI b ∧ w = nI m := by
  obtain ⟨b, hb, rfl⟩ := nI_of (x := v) (by grind)
  obtain ⟨m, hm, rfl⟩ := nI_of (x := w) (by grind)
  have hs := nI_small (b := 24) hc (by omega)
  rw [show nI 24 = 24 from rfl] at hs
  have h1 : nI m ≤ nI c := by
    have := h.2.2; have := h.1; have := h.2.1
    generalize nI c = N at *
    generalize nI m = K at *
    grind
  have hmc := (nI_leI hm (by omega)).mp h1
  have h2 : nI b ≤ nI (c - m) := by rw [← pk_sub hmc]; exact h.2.2
  have := (nI_leI hb (by omega)).mp h2
  exact ⟨b, m, by omega, rfl, rfl⟩
theorem op_copy {x y : XS} {v1 v2 v3 v4 v5 : Int32} (h : CI x y) : RCI (fX7_copy v1 v2 v3 v4 v5 x) (fX8_copy v1 v2 v3 v4 v5 y) := by
  have h0 := h
  obtain ⟨n, nt, h⟩ := h
  unfold fX7_copy fX8_copy
  refine R2.sheet h0 (fun s hs e => ?_)
  subst e
  refine R2.sheet h0 (fun t ht e => ?_)
  subst e
  have s4 : inb (nI s) 4 = true := inb_nI hs (by omega)
  have t4 : inb (nI t) 4 = true := inb_nI ht (by omega)
  obtain ⟨a1, a2, a3, ⟨c, hc, a4⟩, a5⟩ := h.2.2.2.2.2.1 s hs
  obtain ⟨b1, b2, b3, ⟨d, hd, b4⟩, b5⟩ := h.2.2.2.2.2.1 t ht
  refine R2.gL s4 (R2.gL t4 (R2.gR s4 ?_))
  rw [ix_nI (i := s) (by omega), ix_nI (i := t) (by omega), ev_missing, bdif, a1]
  refine R2.iteC (by unfold rg at a2; grind) (fun _ => RCI.same h0) (fun m1 => ?_)
  refine R2.gR t4 ?_
  rw [ev_missing, bdif, b1]
  refine R2.iteN (by unfold rg at b2; grind) (fun _ => RCI.same h0) (fun m2 => ?_)
  refine R2.gR s4 (R2.gR t4 ?_)
  rw [a1]
  refine R2.ite (fun es => ?_) (fun _ => RCI.same h0)
  have x1c : x (71 + 2 * s) 1 = nI c := by rw [a3, a4]
  have x1d : x (71 + 2 * t) 1 = nI d := by rw [b3, b4]
  rw [ev_hasPlaces x1c hc, bdif, ev_hasPlaces x1d hd, bdif]
  by_cases c1 : 0 ≤ v2 ∧ 0 ≤ v5 ∧ v2 ≤ nI c - v5
  · by_cases c2 : 0 ≤ v4 ∧ 0 ≤ v5 ∧ v4 ≤ nI d - v5
    · rw [if_pos c1, if_pos c2, if_neg (show ¬ v2 < 0 by grind), if_neg (show ¬ v4 < 0 by grind), if_neg (show ¬ v5 < 0 by grind), a4, b4]
      refine R2.gR s4 ?_
      rw [if_neg (show ¬ nI c - v5 < v2 by grind)]
      refine R2.gR t4 ?_
      rw [if_pos c2.2.2]
      obtain ⟨b, m, hb, rfl, rfl⟩ := copy_ix hc c1
      obtain ⟨p, m', hp, rfl, em⟩ := copy_ix hd c2
      have em' : m = m' := (nI_eq (by omega) (by omega)).mp em
      subst em'
      refine R2.gL (decide_eq_true ⟨nI_pos (by omega), nI_pos (by omega), nI_pos (by omega), by rw [ix_nI (by omega), ix_nI (by omega)]; omega, by rw [ix_nI (by omega), ix_nI (by omega)]; omega⟩) (R2.sL ?_)
      rw [ix_nI (i := b) (by omega), ix_nI (i := p) (by omega), ix_nI (i := m) (by omega)]
      obtain ⟨y1, e1, e2, e3⟩ := copy1 hs (by omega : b + m ≤ 24) ht (by omega : p + m ≤ 24) m 0 y (by omega) FU (by unfold FU; omega)
      have e1' : fX8_copy_h104 (nI s) (nI b) (nI t) (nI p) (nI m) 0 y = some (nI m, y1) := e1
      rw [e1']
      have hcx : ∀ j, j ≠ 71 + 2 * t + 1 → cpx x (71 + 2 * s + 1) (71 + 2 * t + 1) b p m j = x j := fun j hj => cpx_ne hj
      refine R2.ret ⟨rfl, n, nt, h.six (fun j hj => hcx j (by omega)) (fun j a b c d => e2 j c d) (fun q hq => ?_)⟩
      by_cases e : q = t
      · subst e
        refine ⟨by rw [hcx _ (by omega), e2 112 (by omega) (by omega)]; exact b1, by rw [e2 112 (by omega) (by omega)]; exact b2, by rw [hcx _ (by omega), e2 113 (by omega) (by omega)]; exact b3, ⟨d, hd, by rw [e2 113 (by omega) (by omega)]; exact b4⟩, fun k hk => ?_⟩
        rw [show 72 + 2 * q = 71 + 2 * q + 1 by omega, e3]
        have ec : cpx x (71 + 2 * s + 1) (71 + 2 * q + 1) b p m (71 + 2 * q + 1) k = va_cpy (x (71 + 2 * s + 1)) (x (71 + 2 * q + 1)) b p m k := by unfold cpx; rw [if_pos rfl]
        rw [ec]
        by_cases hin : p ≤ k ∧ k < p + m
        · rw [pk_cpy_in hin.1 hin.2, if_pos (by omega), if_neg (by omega)]
          have := a5 (b + (k - p)) (by omega)
          rw [show 72 + 2 * s = 71 + 2 * s + 1 by omega] at this
          rw [show 24 * s + b + (24 * q + k - (24 * q + p)) = 24 * s + (b + (k - p)) by omega]
          exact this
        · rw [pk_cpy_out (by omega), if_neg (by omega)]
          have := b5 k hk
          rw [show 72 + 2 * q = 71 + 2 * q + 1 by omega] at this
          exact this
      · exact (h.2.2.2.2.2.1 q hq).cong (hcx _ (by omega)) (hcx _ (by omega)) (by rw [e2 112 (by omega) (by omega)]) (by rw [e2 113 (by omega) (by omega)]) (fun k hk => by rw [e3, if_neg (by omega)])
    · rw [if_pos c1, if_neg c2, if_neg (show ¬ v2 < 0 by grind), a4, b4]
      refine R2.ifR (fun _ => RCI.same h0) (fun _ => R2.ifR (fun _ => RCI.same h0) (fun _ => R2.gR s4 (R2.ifR (fun _ => RCI.same h0) (fun _ => R2.gR t4 (R2.ifR (fun _ => absurd c2 (by grind)) (fun _ => RCI.same h0))))))
  · rw [if_neg c1, a4, b4]
    refine R2.ifR (fun _ => RCI.same h0) (fun _ => R2.ifR (fun _ => RCI.same h0) (fun _ => R2.ifR (fun _ => RCI.same h0) (fun _ => R2.gR s4 (R2.ifR (fun _ => RCI.same h0) (fun _ => absurd c1 (by grind))))))
