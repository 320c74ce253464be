theorem copyAll_loop {a b : Nat} (hab : a ≠ b) : ∀ (d k : Nat) (y : XS), k + d = 1437 → ∀ f, d < f → ∃ y1, lX8_copyAll_h2 a b f (nI k) y = some ((), y1) ∧ (∀ j, j ≠ b → y1 j = y j) ∧ ∀ q, y1 b q = if k ≤ q ∧ q < 1437 then y a q else y b q := by
  intro d
  induction d with
  | zero =>
    intro k y hk f hf
    obtain ⟨f, rfl⟩ : ∃ q, f = q + 1 := ⟨f - 1, by omega⟩
    refine ⟨y, ?_, fun _ _ => rfl, fun q => by rw [if_neg (by omega)]⟩
    show bX8_copyAll_h2 a b (lX8_copyAll_h2 a b f) (nI k) y = _
    unfold bX8_copyAll_h2
    rw [show k = 1437 by omega, if_pos (by decide)]
  | succ d ih =>
    intro k y hk f hf
    obtain ⟨f, rfl⟩ : ∃ q, f = q + 1 := ⟨f - 1, by omega⟩
    obtain ⟨y1, e1, e2, e3⟩ := ih (k + 1) (wr y b k (y a k)) (by omega) f (by omega)
    refine ⟨y1, ?_, fun j hj => by rw [e2 j hj, wr_ne hj], fun q => ?_⟩
    · show bX8_copyAll_h2 a b (lX8_copyAll_h2 a b f) (nI k) y = _
      unfold bX8_copyAll_h2
      rw [if_neg (show ¬ (1437 : Int32) ≤ nI k by rw [show (1437 : Int32) = nI 1437 from rfl]; exact nI_ge (by omega) (by omega)), gd_e (inb_nI (by omega) (by omega)), gd_e (inb_nI (by omega) (by omega)), st_e, st_e, ix_nI (by omega), nI_1]
      exact e1
    · rw [e3, wr_ne hab, wr_at, if_pos rfl]
      by_cases c1 : q = k
      · rw [if_pos c1, if_neg (by omega), if_pos (by omega), c1]
      · rw [if_neg c1]
        by_cases c2 : k + 1 ≤ q ∧ q < 1437
        · rw [if_pos c2, if_pos (by omega)]
        · rw [if_neg c2, if_neg (by omega)]
theorem ev_copyAll {a b : Nat} (hab : a ≠ b) (y : XS) : ∃ y1, fX8_copyAll a b y = some ((), y1) ∧ (∀ j, j ≠ b → y1 j = y j) ∧ ∀ q, y1 b q = if q < 1437 then y a q else y b q := by
  obtain ⟨y1, e1, e2, e3⟩ := copyAll_loop hab 1437 0 y (by omega) FU (by unfold FU; omega)
  refine ⟨y1, e1, e2, fun q => ?_⟩
  rw [e3]
  by_cases c : q < 1437
  · rw [if_pos c, if_pos (by omega)]
  · rw [if_neg c, if_neg (by omega)]
theorem dps_cong {C D : Nat → Int32} : ∀ n, (∀ k, k < n → C k = D k) → dps C n = dps D n := by
  intro n
  induction n with
  | zero => intro _; rfl
  | succ n ih =>
    intro h
    simp only [dps]
    rw [ih (fun k hk => h k (by omega)), h n (by omega)]
theorem LW.mono4 {x x1 : XS} {L L1 M M1 : Nat → Int32} {nt : Nat} (h : LW x L M nt) (hx : ∀ j, 41 ≤ j → j < 71 → x1 j = x j) (hL : ∀ k, k < 3 → L1 k = L k) (hM : ∀ k, k < 1437 → M1 k = M k) : LW x1 L1 M1 nt := by
  obtain ⟨h14, h2, h3, h4⟩ := h
  refine ⟨h14, by rw [hM 8 (by omega)]; exact h2, fun t ht => ?_, fun ky hk => ?_⟩
  · obtain ⟨a, b, c1, c2, c3, c4, c5, c6, c7, c8, c9⟩ := h3 t ht
    refine ⟨a, b, c1, c2, by rw [hx _ (by omega) (by omega)]; exact c3, by rw [hx _ (by omega) (by omega)]; exact c4, by rw [hM _ (by omega)]; exact c5, by rw [hM _ (by omega), hx _ (by omega) (by omega)]; exact c6, fun k hk => by rw [hM _ (by omega), hx _ (by omega) (by omega)]; exact c7 k hk, fun e k hk => by rw [hM _ (by omega)]; exact c8 e k hk, ?_⟩
    rw [← c9]
    exact dps_cong b (fun k hk => hM _ (by omega))
  · rw [hL ky hk]
    rcases h4 ky hk with ⟨a, b⟩ | ⟨t, ht, a, b, c⟩
    · exact Or.inl ⟨a, fun t ht => by rw [hM _ (by omega)]; exact b t ht⟩
    · exact Or.inr ⟨t, ht, a, by rw [hM _ (by omega)]; exact b, fun s h1 h2 => by rw [hM _ (by omega)]; exact c s h1 h2⟩
theorem PR.cong2 {a n : Nat} {x y y1 : XS} (h : PR a n x y) (hy : ∀ q, q < 65 → y1 100 q = y 100 q) (h4 : y1 99 4 = y 99 4) : PR a n x y1 := by
  obtain ⟨h8, p1, p2, p3, p4, p5, p6, p7, p9, p10, p11, p12, p13, pb⟩ := h
  refine ⟨h8, by rw [hy 1 (by omega)]; exact p1, p2, by rw [hy 8 (by omega)]; exact p3, by rw [hy 3 (by omega)]; exact p4, by rw [hy 6 (by omega)]; exact p5, by rw [hy 4 (by omega)]; exact p6, by rw [hy 7 (by omega)]; exact p7, by rw [hy 2 (by omega)]; exact p9, by rw [hy 0 (by omega)]; exact p10, by rw [hy 5 (by omega)]; exact p11, by rw [hy 5 (by omega)]; exact p12, by rw [h4]; exact p13, fun i hi => ⟨fun k hk => by rw [hy _ (by omega)]; exact (pb i hi).1 k hk, ?_⟩⟩
  have := (pb i hi).2
  unfold BOK at *
  rw [hy _ (by omega), hy _ (by omega), hy _ (by omega), hy _ (by omega), hy _ (by omega)]
  exact this
theorem im100 (y : XS) : im y 100 = y 101 := if_pos rfl
theorem im99 (y : XS) : im y 99 = y 99 := if_neg (by omega)
theorem op_keep {x y : XS} (h : CI x y) : RCI (fX7_keep x) (fX8_keep y) := by
  obtain ⟨n, nt, h⟩ := h
  unfold fX7_keep fX8_keep
  obtain ⟨x1, e1, e2, e3, e4⟩ := become_rel (a := 15) (b := 4) (by omega) (by omega) h.1.1 h.1.2.1 h.1.2.2.1
  obtain ⟨y1, f1, f2, f3⟩ := ev_copyAll (a := 100) (b := 101) (by omega) y
  rw [e1, bd_e, f1, bd_e, st_e, st_e]
  refine R2.gR (by decide) ?_
  have ev : wr x1 0 9 1 15 2 = nI n := by rw [wr_ne (by omega)]; exact e3.2.2.1
  have ew : wr y1 99 3 1 100 (ix 1) = nI n := by rw [wr_ne (by omega), f2 _ (by omega)]; exact h.1.1.2.1
  rw [ev, ew]
  have xo : ∀ j, j ≠ 0 → j ≠ 15 → j ≠ 17 → (j < 18 ∨ 26 ≤ j) → wr x1 0 9 1 j = x j := fun j a b c d => by rw [wr_ne a]; exact e2 j b c (by omega)
  have x0 : ∀ k, k ≠ 9 → wr x1 0 9 1 0 k = x 0 k := fun k hk => by rw [wr_at, if_pos rfl, if_neg hk, e2 0 (by omega) (by omega) (by omega)]
  have yo : ∀ j, j ≠ 99 → j ≠ 101 → wr y1 99 3 1 j = y j := fun j a b => by rw [wr_ne a, f2 j b]
  have y9 : ∀ k, k ≠ 3 → wr y1 99 3 1 99 k = y 99 k := fun k hk => by rw [wr_at, if_pos rfl, if_neg hk, f2 99 (by omega)]
  refine R2.ret ⟨rfl, n, nt, h.1.cong (xo 4 (by omega) (by omega) (by omega) (by omega)) (xo 6 (by omega) (by omega) (by omega) (by omega)) (fun j _ _ => xo j (by omega) (by omega) (by omega) (by omega)) (fun j _ _ => xo j (by omega) (by omega) (by omega) (by omega)) (yo 100 (by omega) (by omega)) (y9 4 (by omega)), ?_, h.2.2.1.cong (by rw [xo 2 (by omega) (by omega) (by omega) (by omega)]) (xo 3 (by omega) (by omega) (by omega) (by omega)) (y9 7 (by omega)) (yo 104 (by omega) (by omega)), h.2.2.2.1.cong (yo 105 (by omega) (by omega)) (yo 106 (by omega) (by omega)), h.2.2.2.2.1.cong (x0 8 (by omega)) (xo 39 (by omega) (by omega) (by omega) (by omega)) (y9 33 (by omega)) (yo 120 (by omega) (by omega)), h.2.2.2.2.2.1.cong (fun j _ _ => xo j (by omega) (by omega) (by omega) (by omega)) (yo 112 (by omega) (by omega)) (yo 113 (by omega) (by omega)) (yo 114 (by omega) (by omega)), h.2.2.2.2.2.2.1.cong (fun j _ _ => xo j (by omega) (by omega) (by omega) (by omega)) (yo 115 (by omega) (by omega)) (yo 116 (by omega) (by omega)) (yo 117 (by omega) (by omega)) (yo 118 (by omega) (by omega)), h.2.2.2.2.2.2.2.cong (fun j _ _ => xo j (by omega) (by omega) (by omega) (by omega))⟩
  have y101 : ∀ q, q < 1437 → wr y1 99 3 1 101 q = y 100 q := fun q hq => by rw [wr_ne (by omega), f3, if_pos hq]
  refine Or.inr ⟨by rw [wr_at, if_pos rfl, if_pos rfl], by rw [wr_at, if_pos rfl, if_pos rfl], n, nt, Nat.le_refl _, ?_, ?_, ?_⟩
  · refine PR.cong2 (y := y) (e3.cong (y1 := y) (wr_ne (by omega)) (fun i hi => wr_ne (by omega)) rfl rfl) (fun q hq => by rw [im100]; exact y101 q (by omega)) (by rw [im99]; exact y9 4 (by omega))
  · exact e4.mono4 (fun j _ _ => wr_ne (by omega)) (fun k hk => by rw [wr_ne (by omega)]) (fun q hq => y101 q hq)
  · rw [y101 2 (by omega)]; exact h.1.2.2.2
theorem op_back {x y : XS} (h : CI x y) : RCI (fX7_back x) (fX8_back y) := by
  have h0 := h
  obtain ⟨n, nt, h⟩ := h
  unfold fX7_back fX8_back
  rcases h.2.1 with ⟨a, b⟩ | ⟨a, b, ni, ti, c1, c2, c3, c4⟩
  · rw [if_pos a, if_pos b]; exact RCI.same h0
  · rw [if_neg (by rw [a]; decide), if_neg (by rw [b]; decide)]
    obtain ⟨x1, e1, e2, e3, e4⟩ := become_rel (a := 4) (b := 15) (y := im y) (by omega) (by omega) c2 (by rw [im100]; exact c3) (by rw [im99]; exact h.1.2.2.1)
    obtain ⟨y1, f1, f2, f3⟩ := ev_copyAll (a := 101) (b := 100) (by omega) y
    rw [e1, bd_e, f1, bd_e]
    refine R2.gR (by decide) ?_
    have y100 : ∀ q, q < 1437 → y1 100 q = im y 100 q := fun q hq => by rw [f3, if_pos hq, im100]
    rw [show ix 1 = 1 from rfl, y100 1 (by omega), show x1 4 2 = nI ni from e3.2.2.1, show im y 100 1 = nI ni from e3.2.1]
    have xo : ∀ j, j ≠ 4 → j ≠ 6 → (j < 7 ∨ 15 ≤ j) → x1 j = x j := fun j p q r => e2 j p q (by omega)
    refine R2.ret ⟨rfl, ni, ti, ⟨e3.cong2 (fun q hq => y100 q (by omega)) (by rw [f2 99 (by omega), im99]), e4.mono4 (fun _ _ _ => rfl) (fun _ _ => rfl) y100, by rw [f2 99 (by omega)]; exact h.1.2.2.1, by rw [y100 2 (by omega), im100]; exact c4⟩, ?_, h.2.2.1.cong (by rw [xo 2 (by omega) (by omega) (by omega)]) (xo 3 (by omega) (by omega) (by omega)) (by rw [f2 99 (by omega)]) (f2 104 (by omega)), h.2.2.2.1.cong (f2 105 (by omega)) (f2 106 (by omega)), h.2.2.2.2.1.cong (by rw [xo 0 (by omega) (by omega) (by omega)]) (xo 39 (by omega) (by omega) (by omega)) (by rw [f2 99 (by omega)]) (f2 120 (by omega)), h.2.2.2.2.2.1.cong (fun j _ _ => xo j (by omega) (by omega) (by omega)) (f2 112 (by omega)) (f2 113 (by omega)) (f2 114 (by omega)), h.2.2.2.2.2.2.1.cong (fun j _ _ => xo j (by omega) (by omega) (by omega)) (f2 115 (by omega)) (f2 116 (by omega)) (f2 117 (by omega)) (f2 118 (by omega)), h.2.2.2.2.2.2.2.cong (fun j _ _ => xo j (by omega) (by omega) (by omega))⟩
    refine Or.inr ⟨by rw [xo 0 (by omega) (by omega) (by omega)]; exact a, by rw [f2 99 (by omega)]; exact b, ni, ti, Nat.le_refl _, c2.cong (xo 15 (by omega) (by omega) (by omega)) (fun i hi => xo _ (by omega) (by omega) (by omega)) (by rw [im100, im100, f2 101 (by omega)]) (by rw [im99, im99, f2 99 (by omega)]), ?_, by rw [f2 101 (by omega)]; exact c4⟩
    rw [xo 17 (by omega) (by omega) (by omega), f2 101 (by omega)]
    exact c3.cong (fun j _ _ => xo j (by omega) (by omega) (by omega)) rfl rfl
theorem ev_waits {k w : Nat} {v : Int32} {x : XS} (hk : k < 100) (hw : w ≤ 60) : fX7_waits (nI k) (nI w) v x = some (if k < w ∧ x 39 k = v then 1 else 0, x) := by
  unfold fX7_waits
  by_cases c : k < w
  · rw [if_neg (nI_ge c (by omega)), if_neg (show ¬ (60 : Int32) ≤ nI k by rw [show (60 : Int32) = nI 60 from rfl]; exact nI_ge (by omega) (by omega)), gd_e (inb_nI (by omega) (by omega)), ix_nI (by omega)]
    by_cases e : x 39 k = v
    · rw [if_pos e, if_pos ⟨c, e⟩]
    · rw [if_neg e, if_neg (fun q => e q.2)]
  · rw [if_pos (nI_le (by omega) (by omega)), if_neg (fun q => c q.1)]
theorem c2k (k : Nat) : 2 * nI k = nI (2 * k) := by rw [show (2 : Int32) = nI 2 from rfl, pk_mul]
theorem ev_h182 {m d r : Nat} {y : XS} (hr : r < 1000) (hm : m < 1000) (hd : d < 1000) : ∃ y1, fX8_check_h182 (nI m) (nI d) (nI r) y = some (if r = m ∧ r = d then 0 else nI (1 + r), y1) ∧ (∀ j, j ≠ 100 → y1 j = y j) ∧ ∀ q, y1 100 q = if q < 1437 then y 102 q else y 100 q := by
  obtain ⟨y1, f1, f2, f3⟩ := ev_copyAll (a := 102) (b := 100) (by omega) y
  refine ⟨y1, ?_, f2, f3⟩
  unfold fX8_check_h182
  rw [f1, bd_e, show (1 : Int32) + nI r = nI (1 + r) from nI_add 1 r]
  by_cases a : r = m
  · rw [if_pos (show nI r = nI m by rw [a])]
    by_cases b : r = d
    · rw [if_pos (show nI r = nI d by rw [b]), if_pos ⟨a, b⟩]
    · rw [if_neg (fun q => b ((nI_eq (by omega) (by omega)).mp q)), if_neg (fun q => b q.2)]
  · rw [if_neg (fun q => a ((nI_eq (by omega) (by omega)).mp q)), if_neg (fun q => a q.1)]
/-- what the loop of check leaves -/
def CK (A B : Nat → Int32) (x y : XS) (r : Int32) (x1 : XS) (q : Int32) (y1 : XS) : Prop := r = q ∧ (∀ k, y1 100 k = if k < 1437 then A k else B k) ∧ (∀ j, j ≠ 26 → (j < 29 ∨ 37 ≤ j) → j ≠ 40 → x1 j = x j) ∧ ∀ j, j ≠ 100 → j ≠ 110 → j ≠ 111 → y1 j = y j
theorem check_loop {n nt w c : Nat} {A B : Nat → Int32} (hw : w ≤ 60) (hc : c ≤ 30) : ∀ (d i : Nat) (x y : XS), i + d = c → PR 26 n x y → LW x (x 28) (y 100) nt → (∀ k, k < w → x 39 k = y 120 k) → 2 * i ≤ w → y 102 = A → (∀ q, 1437 ≤ q → y 100 q = B q) → ∀ f g, d < f → d + 1 < g →
    R2 (CK A B x y) (lX7_check_h65 f (nI w) (nI c) (nI i) x) (lX8_check_h80 g (nI w) (nI (2 * c)) (nI (2 * i)) (nI i) y) := by
  intro d
  induction d with
  | zero =>
    intro i x y hi hR hL hwt h2i hA hB f g hf hg
    obtain ⟨f, rfl⟩ : ∃ q, f = q + 1 := ⟨f - 1, by omega⟩
    obtain ⟨g, rfl⟩ : ∃ q, g = q + 1 := ⟨g - 1, by omega⟩
    show R2 _ (bX7_check_h65 (lX7_check_h65 f) (nI w) (nI c) (nI i) x) (bX8_check_h80 (lX8_check_h80 g) (nI w) (nI (2 * c)) (nI (2 * i)) (nI i) y)
    have e : i = c := by omega
    subst e
    unfold bX7_check_h65 bX8_check_h80
    rw [if_pos (Int32.le_refl _), c2k, if_pos (Int32.le_refl _), show (1 : Int32) + nI (2 * i) = nI (1 + 2 * i) from nI_add 1 _]
    obtain ⟨y1, e1, e0, e2⟩ := ev_h182 (m := w) (d := 2 * i) (r := 2 * i) (y := y) (by omega) (by omega) (by omega)
    rw [e1]
    have post : ∀ k, y1 100 k = if k < 1437 then A k else B k := fun k => by
      rw [e2, hA]
      by_cases ck : k < 1437
      · rw [if_pos ck, if_pos ck]
      · rw [if_neg ck, if_neg ck]; exact hB k (by omega)
    by_cases ew : 2 * i = w
    · rw [if_pos (by rw [ew]; exact Int32.le_refl _), if_pos ⟨ew, rfl⟩]
      exact R2.ret ⟨rfl, post, fun _ _ _ _ => rfl, fun j a _ _ => e0 j a⟩
    · rw [if_neg (nI_ge (by omega) (by omega)), if_neg (fun q => ew q.1)]
      exact R2.ret ⟨rfl, post, fun _ _ _ _ => rfl, fun j a _ _ => e0 j a⟩
  | succ d ih =>
    intro i x y hi hR hL hwt h2i hA hB f g hf hg
    obtain ⟨f, rfl⟩ : ∃ q, f = q + 1 := ⟨f - 1, by omega⟩
    obtain ⟨g, rfl⟩ : ∃ q, g = q + 1 := ⟨g - 1, by omega⟩
    show R2 _ (bX7_check_h65 (lX7_check_h65 f) (nI w) (nI c) (nI i) x) (bX8_check_h80 (lX8_check_h80 g) (nI w) (nI (2 * c)) (nI (2 * i)) (nI i) y)
    unfold bX7_check_h65 bX8_check_h80
    rw [if_neg (nI_ge (by omega) (by omega)), c2k, if_neg (nI_ge (by omega) (by omega)), if_pos rfl]
    obtain ⟨r, x1, _, y1, m1, m2, hR1, hL1, hs1, -, -⟩ := minute_rel (a := 26) (by omega) hR hL
    have gx : ∀ j, j ≠ 26 → (j < 29 ∨ 37 ≤ j) → j ≠ 40 → x1 j = x j := fun j a b c => frX4_passMinute a b c m1
    have gy : ∀ j, j ≠ 100 → j ≠ 110 → j ≠ 111 → y1 j = y j := fun j a b c => frX8_minute a c b m2
    have hwt1 : ∀ k, k < w → x1 39 k = y1 120 k := fun k hk => by rw [gx 39 (by omega) (by omega) (by omega), gy 120 (by omega) (by omega) (by omega)]; exact hwt k hk
    have hA1 : y1 102 = A := by rw [gy 102 (by omega) (by omega) (by omega)]; exact hA
    have hB1 : ∀ q, 1437 ≤ q → y1 100 q = B q := fun q hq => by rw [hs1.1 q (by omega)]; exact hB q hq
    rw [m1, bd_e, ev_purses hR1, bd_e, ev_waits (by omega) hw, bdif, m2, bd_e, show nI (2 * i) + 1 = nI (2 * i + 1) from nI_1 _, ev_waits (by omega) hw, bdif, show x1 26 7 = y1 100 7 from hR1.2.2.2.2.2.2.2.1]
    rw [show (1 : Int32) + nI (2 * i) = nI (1 + 2 * i) from nI_add 1 _, show (2 : Int32) + nI (2 * i) = nI (2 + 2 * i) from nI_add 2 _]
    have o : ∀ r' : Nat, r' ≠ 2 * (i + 1) → r' < 2 * c → r' < 1000 → ∃ y2, lX8_check_h80 g (nI w) (nI (2 * c)) (nI r') (nI (i + 1)) y1 = some (nI (1 + r'), y2) ∧ (∀ k, y2 100 k = if k < 1437 then A k else B k) ∧ (∀ j, j ≠ 26 → (j < 29 ∨ 37 ≤ j) → j ≠ 40 → x1 j = x j) ∧ ∀ j, j ≠ 100 → j ≠ 110 → j ≠ 111 → y2 j = y j := by
      intro r' h1 h2 h3
      obtain ⟨g, rfl⟩ : ∃ q, g = q + 1 := ⟨g - 1, by omega⟩
      obtain ⟨y2, e1, e0, e2⟩ := ev_h182 (m := w) (d := 2 * c) (r := r') (y := y1) h3 (by omega) (by omega)
      refine ⟨y2, ?_, fun k => ?_, gx, fun j a b c => by rw [e0 j a, gy j a b c]⟩
      · show bX8_check_h80 (lX8_check_h80 g) (nI w) (nI (2 * c)) (nI r') (nI (i + 1)) y1 = _
        unfold bX8_check_h80
        rw [c2k, e1, if_neg (show ¬ (r' = w ∧ r' = 2 * c) by omega), if_neg (show ¬ nI r' = nI (2 * (i + 1)) by intro q; exact h1 ((nI_eq (by omega) (by omega)).mp q))]
        by_cases cc : nI (2 * c) ≤ nI (2 * (i + 1))
        · rw [if_pos cc]
        · rw [if_neg cc]
      · rw [e2, hA1]
        by_cases ck : k < 1437
        · rw [if_pos ck, if_pos ck]
        · rw [if_neg ck, if_neg ck]; exact hB1 k (by omega)
    have h129 : ∀ s : Nat, s < 1000 → fX8_check_h172 (lX8_check_h80 g) (nI w) (nI (2 * c)) (nI i) (nI s) y1 = lX8_check_h80 g (nI w) (nI (2 * c)) (nI s) (nI (i + 1)) y1 := fun s _ => by
      unfold fX8_check_h172
      rw [st_e, st_e, nI_1, Int32.add_zero]
    by_cases b1 : 2 * i < w
    · rw [if_neg (show ¬ nI w ≤ nI (2 * i) from nI_ge b1 (by omega))]
      refine R2.gR (inb_nI (by omega) (by omega)) ?_
      rw [ev_sum4 hR1.1 hR1.2.1, bd_e, ix_nI (by omega), ← hwt1 (2 * i) b1]
      by_cases b2 : x1 39 (2 * i) = sumK (y1 100) 4 n
      · rw [if_pos ⟨b1, b2⟩, if_pos b2]
        unfold fX8_check_h129
        refine R2.sR ?_
        rw [c2k, show nI (2 * i) + 1 = nI (2 * i + 1) from nI_1 _, if_pos rfl]
        by_cases b3 : 2 * i + 1 < w
        · rw [if_neg (show ¬ nI w ≤ nI (2 * i + 1) from nI_ge b3 (by omega))]
          refine R2.gR (inb_nI (by omega) (by omega)) (R2.gR (by decide) ?_)
          rw [ix_nI (by omega), show ix 7 = 7 from rfl, ← hwt1 (2 * i + 1) b3]
          by_cases b4 : x1 39 (2 * i + 1) = y1 100 7
          · rw [if_pos ⟨b3, b4⟩, if_pos b4]
            refine R2.sL (R2.sR (R2.sR ?_))
            rw [show nI (2 * i + 1) + 1 = nI (2 * (i + 1)) by rw [nI_1]; rfl, nI_1 i]
            refine (ih (i + 1) x1 y1 (by omega) hR1 hL1 hwt1 (by omega) hA1 hB1 f g (by omega) (by omega)).mono ?_
            rintro r2 x2 q2 y2 ⟨z1, z2, z3, z4⟩
            exact ⟨z1, z2, fun j a b c => by rw [z3 j a b c, gx j a b c], fun j a b c => by rw [z4 j a b c, gy j a b c]⟩
          · rw [if_neg (fun q => b4 q.2), if_neg b4, h129 _ (by omega)]
            obtain ⟨y2, e1, e2⟩ := o (2 * i + 1) (by omega) (by omega) (by omega)
            rw [e1, show 1 + (2 * i + 1) = 2 + 2 * i by omega]
            exact R2.ret ⟨rfl, e2⟩
        · rw [if_neg (fun q => b3 q.1), if_pos (nI_le (by omega) (by omega)), h129 _ (by omega)]
          obtain ⟨y2, e1, e2⟩ := o (2 * i + 1) (by omega) (by omega) (by omega)
          rw [e1, show 1 + (2 * i + 1) = 2 + 2 * i by omega]
          exact R2.ret ⟨rfl, e2⟩
      · rw [if_neg (fun q => b2 q.2), if_neg b2]
        unfold fX8_check_h129
        refine R2.sR ?_
        rw [c2k, show nI (2 * i) + 1 = nI (2 * i + 1) from nI_1 _, Int32.add_zero, if_neg (show ¬ nI (2 * i) = nI (2 * i + 1) by intro q; have := (nI_eq (by omega) (by omega)).mp q; omega), h129 _ (by omega)]
        obtain ⟨y2, e1, e2⟩ := o (2 * i) (by omega) (by omega) (by omega)
        rw [e1]
        exact R2.ret ⟨rfl, e2⟩
    · rw [if_neg (fun q => b1 q.1), if_pos (nI_le (by omega) (by omega))]
      unfold fX8_check_h129
      refine R2.sR ?_
      rw [c2k, show nI (2 * i) + 1 = nI (2 * i + 1) from nI_1 _, Int32.add_zero, if_neg (show ¬ nI (2 * i) = nI (2 * i + 1) by intro q; have := (nI_eq (by omega) (by omega)).mp q; omega), h129 _ (by omega)]
      obtain ⟨y2, e1, e2⟩ := o (2 * i) (by omega) (by omega) (by omega)
      rw [e1]
      exact R2.ret ⟨rfl, e2⟩
theorem op_check {x y : XS} {v : Int32} (h : CI x y) : RCI (fX7_check v x) (fX8_check v y) := by
  obtain ⟨n, nt, h⟩ := h
  obtain ⟨w, hw, w1, w2, w3⟩ := h.2.2.2.2.1
  unfold fX7_check fX8_check
  refine R2.sL (R2.sR (R2.sL (R2.sR ?_)))
  rw [w1, w2, ev_in, bdif]
  have hz : CN n nt (wr x 0 8 0) (wr y 99 33 0) := h.five (fun j a _ => wr_ne a) (fun k hk => by rw [wr_at, if_pos rfl, if_neg hk]) (fun j a _ => wr_ne a) (fun k hk => by rw [wr_at, if_pos rfl, if_neg hk]) ⟨0, by omega, by rw [wr_at, if_pos rfl, if_pos rfl]; rfl, by rw [wr_at, if_pos rfl, if_pos rfl]; rfl, fun i hi => absurd hi (by omega)⟩
  have w3' : ∀ k, k < w → wr x 0 8 0 39 k = wr y 99 33 0 120 k := fun k hk => by rw [wr_ne (by omega), wr_ne (by omega)]; exact w3 k hk
  generalize wr x 0 8 0 = x at *
  generalize wr y 99 33 0 = y at *
  have bad : RCI (some (-1000000001, x)) (some (-1000000001, y)) := RCI.same ⟨n, nt, hz⟩
  by_cases c : 1 ≤ v ∧ v ≤ 30
  · rw [if_neg (show ¬ v < 1 by grind), if_pos c.2, if_pos c]
    rcases hz.2.1 with ⟨a, b⟩ | ⟨a, b, ni, ti, c1, c2, c3, c4⟩
    · rw [if_pos a, if_pos b]; exact RCI.same ⟨n, nt, hz⟩
    · rw [if_neg (by rw [a]; decide), if_neg (by rw [b]; decide)]
      obtain ⟨x1, e1, e2, e3, e4⟩ := become_rel (a := 26) (b := 15) (y := im y) (by omega) (by omega) c2 (by rw [im100]; exact c3) (by rw [im99]; exact hz.1.2.2.1)
      obtain ⟨y1, f1, f2, f3⟩ := ev_copyAll (a := 100) (b := 102) (by omega) y
      obtain ⟨y2, p1, p2, p3⟩ := ev_copyAll (a := 101) (b := 100) (by omega) y1
      rw [e1, bd_e, f1, bd_e, p1, bd_e]
      refine R2.sL (R2.gR (by decide) ?_)
      have y2r : ∀ q, q < 1437 → y2 100 q = im y 100 q := fun q hq => by rw [p3, if_pos hq, f2 101 (by omega), im100]
      rw [ev_within, bd_e, show ix 2 = 2 from rfl, y2r 2 (by omega), im100, show x1 15 8 = y 101 2 by rw [e2 15 (by omega) (by omega) (by omega), show x 15 8 = im y 100 2 from c2.2.2.2.2.2.2.2.2.1, im100]]
      obtain ⟨m, hm1, em⟩ := kind_ix (b := 9999) (by omega) c4
      obtain ⟨k, hk, rfl⟩ := kind_ix (v := v) (b := 30) (by omega) ⟨by grind, c.2⟩
      have q1 : (9999 : Int32) - y 101 2 = nI (9999 - m) := by rw [em, show (9999 : Int32) = nI 9999 from rfl]; exact pk_sub hm1
      have q2 : jmin (nI k) (9999 - y 101 2) = nI (min k (9999 - m)) := by
        rw [q1]; unfold jmin
        by_cases q : 9999 - m < k
        · rw [if_pos (nI_lt q (by omega)), Nat.min_eq_right (by omega)]
        · rw [if_neg (nI_nlt (by omega) (by omega)), Nat.min_eq_left (by omega)]
      have q3 : (if 9999 - y 101 2 < 0 then (0 : Int32) else if nI k < 9999 - y 101 2 then nI k else 9999 - y 101 2) = nI (min k (9999 - m)) := by
        rw [q1, if_neg (nI_pos (by omega))]
        by_cases q : k < 9999 - m
        · rw [if_pos (nI_lt q (by omega)), Nat.min_eq_left (by omega)]
        · rw [if_neg (nI_nlt (by omega) (by omega)), Nat.min_eq_right (by omega)]
      rw [q2, q3]
      refine R2.sR ?_
      rw [c2k]
      have hl := check_loop (A := y2 102) (B := y2 100) (c := min k (9999 - m)) hw (by omega) (min k (9999 - m)) 0 x1 y2 (by omega) (e3.cong2 (fun q hq => y2r q (by omega)) (by rw [p2 99 (by omega), f2 99 (by omega), im99])) (e4.mono4 (fun _ _ _ => rfl) (fun _ _ => rfl) y2r) (fun k hk => by rw [e2 39 (by omega) (by omega) (by omega), p2 120 (by omega), f2 120 (by omega)]; exact w3' k hk) (by omega) rfl (fun _ _ => rfl) FU FU (by unfold FU; omega) (by unfold FU; omega)
      obtain ⟨r, x3, _, y3, g1, g2, rfl, g3, g4, g5⟩ := hl
      rw [show fX7_check_h65 (nI w) (nI (min k (9999 - m))) 0 x1 = some (r, x3) from g1, show fX8_check_h80 (nI w) (nI (2 * min k (9999 - m))) 0 0 y2 = some (r, y3) from g2]
      have xo : ∀ j, j < 99 → (j < 26 ∨ 37 ≤ j) → j ≠ 40 → x3 j = x j := fun j _ b c => by
        rw [g4 j (by omega) (by omega) c]; exact e2 j (by omega) (by omega) (by omega)
      have yo : ∀ j, j ≠ 100 → j ≠ 102 → j ≠ 110 → j ≠ 111 → y3 j = y j := fun j a b c d => by rw [g5 j a c d, p2 j a, f2 j b]
      have y100 : y3 100 = y 100 := funext fun q => by
        rw [g3]
        by_cases cq : q < 1437
        · rw [if_pos cq, p2 102 (by omega), f3, if_pos cq]
        · rw [if_neg cq, p3, if_neg cq, f2 100 (by omega)]
      exact R2.ret ⟨rfl, n, nt, hz.one (hz.1.cong (xo 4 (by omega) (by omega) (by omega)) (xo 6 (by omega) (by omega) (by omega)) (fun j _ _ => xo j (by omega) (by omega) (by omega)) (fun j _ _ => xo j (by omega) (by omega) (by omega)) y100 (by rw [yo 99 (by omega) (by omega) (by omega) (by omega)])) (fun j a _ _ b c => xo j a b c) (fun j _ a b _ c d _ => yo j a b c d)⟩
  · rw [if_neg c]
    exact R2.ifL (fun _ => bad) (fun _ => R2.ifL (fun _ => absurd c (by grind)) (fun _ => bad))
