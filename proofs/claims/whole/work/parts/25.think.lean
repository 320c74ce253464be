theorem LW.mono3 {x x1 : XS} {L L1 M M1 : Nat → Int32} {nt : Nat} (h : LW x L M nt) (hx : ∀ j, 41 ≤ j → j < 71 → x1 j = x j) (hL : ∀ k, k < 3 → L1 k = L k) (hM : ∀ k, 65 ≤ k → M1 k = M k) (h8 : M1 8 = M 8) : LW x1 L1 M1 nt := by
  have h1 := h.mono hx rfl hM h8
  refine ⟨h1.1, h1.2.1, h1.2.2.1, fun ky hk => ?_⟩
  rw [hL ky hk]
  exact h1.2.2.2 ky hk
theorem LW.ok {x : XS} {L M : Nat → Int32} {nt k : Nat} (h : LW x L M nt) (hk : k < 3) : lawok (L k) = true := by
  have h14 := h.1
  rcases h.2.2.2 k hk with ⟨a, -⟩ | ⟨t, ht, a, -⟩
  · rw [a]; rfl
  · rw [a]; exact lawok_nI (el15_all t (by omega))
theorem laws_loop {a b : Nat} (hab : a + 2 ≠ b + 2) : ∀ (d k : Nat) (x : XS), k + d = 3 → (∀ q, q < 3 → lawok (x (b + 2) q) = true) → ∀ f, d < f → ∃ x1, lX4_become_h116 a b f (nI k) x = some ((), x1) ∧ (∀ j, j ≠ a + 2 → x1 j = x j) ∧ ∀ q, q < 3 → x1 (a + 2) q = if k ≤ q then x (b + 2) q else x (a + 2) q := by
  intro d
  induction d with
  | zero =>
    intro k x hk _ f hf
    obtain ⟨f, rfl⟩ : ∃ q, f = q + 1 := ⟨f - 1, by omega⟩
    refine ⟨x, ?_, fun _ _ => rfl, fun q hq => by rw [if_neg (by omega)]⟩
    show bX4_become_h116 a b (lX4_become_h116 a b f) (nI k) x = _
    unfold bX4_become_h116
    rw [show k = 3 by omega, if_pos (by decide)]
  | succ d ih =>
    intro k x hk hok f hf
    obtain ⟨f, rfl⟩ : ∃ q, f = q + 1 := ⟨f - 1, by omega⟩
    have eb : ∀ v : Int32, wr x (a + 2) k v (b + 2) = x (b + 2) := fun v => wr_ne (by omega)
    obtain ⟨x1, e1, e2, e3⟩ := ih (k + 1) (wr x (a + 2) k (x (b + 2) k)) (by omega) (fun q hq => by rw [eb]; exact hok q hq) f (by omega)
    refine ⟨x1, ?_, fun j hj => by rw [e2 j hj, wr_ne hj], fun q hq => ?_⟩
    · show bX4_become_h116 a b (lX4_become_h116 a b f) (nI k) x = _
      unfold bX4_become_h116
      rw [if_neg (show ¬ (3 : Int32) ≤ nI k by rw [show (3 : Int32) = nI 3 from rfl]; exact nI_ge (by omega) (by omega)), gd_e (inb_nI (by omega) (by omega)), gd_e (inb_nI (by omega) (by omega)), ix_nI (by omega), gd_e (hok k (by omega)), st_e, st_e, nI_1]
      exact e1
    · rw [e3 q hq, eb, wr_at, if_pos rfl]
      by_cases c1 : k + 1 ≤ q
      · rw [if_pos c1, if_pos (by omega)]
      · rw [if_neg c1]
        by_cases c2 : q = k
        · rw [if_pos c2, if_pos (by omega), c2]
        · rw [if_neg c2, if_neg (by omega)]
theorem boys_loop {a b n : Nat} (hab : a + 11 ≤ b ∨ b + 11 ≤ a) (hn : n ≤ 8) : ∀ (d k : Nat) (x : XS), k + d = n → x a 2 = nI n → (∀ q, q < 3 → lawok (x (b + 2) q) = true) → ∀ f, d < f → ∃ x1, lX4_become_h79 a b f (nI k) x = some ((), x1) ∧ x1 a = x a ∧ (∀ i, k ≤ i → i < n → ∀ q, q < 7 → x1 (a + 3 + i) q = x (b + 3 + i) q) ∧ (∀ i, i < k → x1 (a + 3 + i) = x (a + 3 + i)) ∧ ∀ q, q < 3 → x1 (a + 2) q = x (b + 2) q := by
  intro d
  induction d with
  | zero =>
    intro k x hk h2 hok f hf
    obtain ⟨f, rfl⟩ : ∃ q, f = q + 1 := ⟨f - 1, by omega⟩
    obtain ⟨x1, e1, e2, e3⟩ := laws_loop (a := a) (b := b) (by omega) 3 0 x (by omega) hok FU (by unfold FU; omega)
    refine ⟨x1, ?_, e2 _ (by omega), fun i _ _ => absurd (show i < k by omega) (by omega), fun i hi => e2 _ (by omega), fun q hq => by rw [e3 q hq, if_pos (by omega)]⟩
    show bX4_become_h79 a b (lX4_become_h79 a b f) (nI k) x = _
    unfold bX4_become_h79
    rw [h2, show k = n by omega, if_pos (Int32.le_refl _)]
    exact e1
  | succ d ih =>
    intro k x hk h2 hok f hf
    obtain ⟨f, rfl⟩ : ∃ q, f = q + 1 := ⟨f - 1, by omega⟩
    obtain ⟨x2, g1, g2, g3⟩ := ev_become0 (a0 := a + 3 + k) (a1 := b + 3 + k) (x := x) (by omega)
    obtain ⟨x1, e1, e2, e3, e4, e5⟩ := ih (k + 1) x2 (by omega) (by rw [g2 _ (by omega)]; exact h2) (fun q hq => by rw [g2 _ (by omega)]; exact hok q hq) f (by omega)
    refine ⟨x1, ?_, by rw [e2, g2 _ (by omega)], fun i h1 h3 q hq => ?_, fun i hi => by rw [e4 i (by omega), g2 _ (by omega)], fun q hq => by rw [e5 q hq, g2 _ (by omega)]⟩
    · show bX4_become_h79 a b (lX4_become_h79 a b f) (nI k) x = _
      unfold bX4_become_h79
      rw [h2, if_neg (nI_ge (by omega) (by omega)), if_neg (show ¬ (8 : Int32) ≤ nI k by rw [show (8 : Int32) = nI 8 from rfl]; exact nI_ge (by omega) (by omega)), gd_e (inb_nI (by omega) (by omega)), gd_e (inb_nI (by omega) (by omega)), ix_nI (by omega), g1, bd_e, st_e, nI_1]
      exact e1
    · by_cases c : i = k
      · subst c
        rw [e4 i (by omega), g3, if_pos hq]
      · rw [e3 i (by omega) h3 q hq, g2 _ (by omega)]
theorem ev_become {a b n : Nat} {x : XS} (hab : a + 11 ≤ b ∨ b + 11 ≤ a) (hn : n ≤ 8) (h2 : x b 2 = nI n) (hB : isB (x b 10) = true) (hok : ∀ q, q < 3 → lawok (x (b + 2) q) = true) : ∃ x1, fX4_become a b x = some ((), x1) ∧ (∀ k, 2 ≤ k → k < 11 → x1 a k = x b k) ∧ x1 a 11 = -1 ∧ (∀ i, i < n → ∀ q, q < 7 → x1 (a + 3 + i) q = x (b + 3 + i) q) ∧ ∀ q, q < 3 → x1 (a + 2) q = x (b + 2) q := by
  have hba : b ≠ a := by omega
  unfold fX4_become
  simp only [st_e, wr_ne hba]
  rw [gd_e hB]
  generalize hx0 : wr (wr (wr (wr (wr (wr (wr (wr (wr (wr x a 2 (x b 2)) a 3 (x b 3)) a 4 (x b 4)) a 5 (x b 5)) a 6 (x b 6)) a 7 (x b 7)) a 8 (x b 8)) a 9 (x b 9)) a 10 (x b 10)) a 11 (-1) = x0
  have o : ∀ j, j ≠ a → x0 j = x j := fun j hj => by rw [← hx0]; rw [wr_ne hj, wr_ne hj, wr_ne hj, wr_ne hj, wr_ne hj, wr_ne hj, wr_ne hj, wr_ne hj, wr_ne hj, wr_ne hj]
  have s : ∀ k, x0 a k = if k = 11 then -1 else if k = 10 then x b 10 else if k = 9 then x b 9 else if k = 8 then x b 8 else if k = 7 then x b 7 else if k = 6 then x b 6 else if k = 5 then x b 5 else if k = 4 then x b 4 else if k = 3 then x b 3 else if k = 2 then x b 2 else x a k := fun k => by
    rw [← hx0]
    simp only [wr_at, if_true]
  obtain ⟨x1, e1, e2, e3, e4, e5⟩ := boys_loop (a := a) (b := b) hab hn n 0 x0 (by omega) (by rw [s]; simpa using h2) (fun q hq => by rw [o _ (by omega)]; exact hok q hq) FU (by unfold FU; omega)
  refine ⟨x1, e1, fun k h1 h3 => ?_, by rw [e2, s, if_pos rfl], fun i hi q hq => by rw [e3 i (by omega) hi q hq, o _ (by omega)], fun q hq => by rw [e5 q hq, o _ (by omega)]⟩
  rw [e2, s]
  rcases (show k = 2 ∨ k = 3 ∨ k = 4 ∨ k = 5 ∨ k = 6 ∨ k = 7 ∨ k = 8 ∨ k = 9 ∨ k = 10 by omega) with rfl | rfl | rfl | rfl | rfl | rfl | rfl | rfl | rfl <;> rfl
/-- a street becomes another one -/
theorem become_rel {a b n nt : Nat} {x y : XS} (hab : a + 11 ≤ b ∨ b + 11 ≤ a) (ha : a ≤ 26) (hR : PR b n x y) (hL : LW x (x (b + 2)) (y 100) nt) (hi : y 99 4 = -1) : ∃ x1, fX4_become a b x = some ((), x1) ∧ (∀ j, j ≠ a → j ≠ a + 2 → (j < a + 3 ∨ a + 11 ≤ j) → x1 j = x j) ∧ PR a n x1 y ∧ LW x1 (x1 (a + 2)) (y 100) nt := by
  obtain ⟨h8, p1, p2, p3, p4, p5, p6, p7, p9, p10, p11, p12, p13, pb⟩ := id hR
  obtain ⟨x1, e1, e2, e3, e4, e5⟩ := ev_become (a := a) (b := b) hab h8 p2 (by rw [p11]; rcases p12 with e | e <;> rw [e] <;> rfl) (fun q hq => hL.ok hq)
  have fr : ∀ j, j ≠ a → j ≠ a + 2 → (j < a + 3 ∨ a + 11 ≤ j) → x1 j = x j := fun j u v w => frX4_become u v w e1
  refine ⟨x1, e1, fr, ⟨h8, p1, by rw [e2 2 (by omega) (by omega)]; exact p2, by rw [e2 3 (by omega) (by omega)]; exact p3, by rw [e2 4 (by omega) (by omega)]; exact p4, by rw [e2 5 (by omega) (by omega)]; exact p5, by rw [e2 6 (by omega) (by omega)]; exact p6, by rw [e2 7 (by omega) (by omega)]; exact p7, by rw [e2 8 (by omega) (by omega)]; exact p9, by rw [e2 9 (by omega) (by omega)]; exact p10, by rw [e2 10 (by omega) (by omega)]; exact p11, p12, by rw [e3, hi], fun i hi => ⟨fun k hk => by rw [e4 i hi k hk]; exact (pb i hi).1 k hk, (pb i hi).2⟩⟩, hL.mono3 (fun j _ _ => fr j (by omega) (by omega) (by omega)) e5 (fun _ _ => rfl) rfl⟩
theorem thinks_loop : ∀ (d k : Nat) (y : XS), k + d = 65 → ∀ f, d < f → ∃ y1, lX8_thinks_h2 f (nI k) y = some ((), y1) ∧ (∀ j, j ≠ 103 → y1 j = y j) ∧ ∀ q, y1 103 q = if k ≤ q ∧ q < 65 then y 100 q else y 103 q := by
  intro d
  induction d with
  | zero =>
    intro k y hk f hf
    obtain ⟨f, rfl⟩ : ∃ q, f = q + 1 := ⟨f - 1, by omega⟩
    refine ⟨y, ?_, fun _ _ => rfl, fun q => by rw [if_neg (by omega)]⟩
    show bX8_thinks_h2 (lX8_thinks_h2 f) (nI k) y = _
    unfold bX8_thinks_h2
    rw [show k = 65 by omega, if_pos (by decide)]
  | succ d ih =>
    intro k y hk f hf
    obtain ⟨f, rfl⟩ : ∃ q, f = q + 1 := ⟨f - 1, by omega⟩
    obtain ⟨y1, e1, e2, e3⟩ := ih (k + 1) (wr y 103 k (y 100 k)) (by omega) f (by omega)
    refine ⟨y1, ?_, fun j hj => by rw [e2 j hj, wr_ne hj], fun q => ?_⟩
    · show bX8_thinks_h2 (lX8_thinks_h2 f) (nI k) y = _
      unfold bX8_thinks_h2
      rw [if_neg (show ¬ (65 : Int32) ≤ nI k by rw [show (65 : Int32) = nI 65 from rfl]; exact nI_ge (by omega) (by omega)), gd_e (inb_nI (by omega) (by omega)), gd_e (inb_nI (by omega) (by omega)), st_e, st_e, ix_nI (by omega), nI_1]
      exact e1
    · rw [e3, show wr y 103 k (y 100 k) 100 = y 100 from wr_ne (by omega), wr_at, if_pos rfl]
      by_cases c1 : q = k
      · rw [if_pos c1, if_neg (by omega), if_pos (by omega), c1]
      · rw [if_neg c1]
        by_cases c2 : k + 1 ≤ q ∧ q < 65
        · rw [if_pos c2, if_pos (by omega)]
        · rw [if_neg c2, if_neg (by omega)]
theorem ev_thinks (y : XS) : ∃ y1, fX8_thinks y = some ((), y1) ∧ (∀ j, j ≠ 103 → y1 j = y j) ∧ ∀ q, q < 65 → y1 103 q = y 100 q := by
  obtain ⟨y1, e1, e2, e3⟩ := thinks_loop 65 0 y (by omega) FU (by unfold FU; omega)
  exact ⟨y1, e1, e2, fun q hq => by rw [e3, if_pos (by omega)]⟩
theorem puts_loop : ∀ (d k : Nat) (y : XS), k + d = 65 → ∀ f, d < f → ∃ y1, lX8_putsBack_h2 f (nI k) y = some ((), y1) ∧ (∀ j, j ≠ 99 → j ≠ 100 → y1 j = y j) ∧ (∀ q, y1 99 q = if q = 4 then -1 else y 99 q) ∧ ∀ q, y1 100 q = if k ≤ q ∧ q < 65 then y 103 q else y 100 q := by
  intro d
  induction d with
  | zero =>
    intro k y hk f hf
    obtain ⟨f, rfl⟩ : ∃ q, f = q + 1 := ⟨f - 1, by omega⟩
    refine ⟨wr y 99 4 (-1), ?_, fun j h1 _ => wr_ne h1, fun q => by rw [wr_at, if_pos rfl], fun q => by rw [if_neg (by omega), wr_ne (by omega)]⟩
    show bX8_putsBack_h2 (lX8_putsBack_h2 f) (nI k) y = _
    unfold bX8_putsBack_h2
    rw [show k = 65 by omega, if_pos (by decide), st_e]
  | succ d ih =>
    intro k y hk f hf
    obtain ⟨f, rfl⟩ : ∃ q, f = q + 1 := ⟨f - 1, by omega⟩
    obtain ⟨y1, e1, e2, e4, e3⟩ := ih (k + 1) (wr y 100 k (y 103 k)) (by omega) f (by omega)
    refine ⟨y1, ?_, fun j h1 h2 => by rw [e2 j h1 h2, wr_ne h2], fun q => by rw [e4, wr_ne (by omega)], fun q => ?_⟩
    · show bX8_putsBack_h2 (lX8_putsBack_h2 f) (nI k) y = _
      unfold bX8_putsBack_h2
      rw [if_neg (show ¬ (65 : Int32) ≤ nI k by rw [show (65 : Int32) = nI 65 from rfl]; exact nI_ge (by omega) (by omega)), gd_e (inb_nI (by omega) (by omega)), gd_e (inb_nI (by omega) (by omega)), st_e, st_e, ix_nI (by omega), nI_1]
      exact e1
    · rw [e3, show wr y 100 k (y 103 k) 103 = y 103 from wr_ne (by omega), wr_at, if_pos rfl]
      by_cases c1 : q = k
      · rw [if_pos c1, if_neg (by omega), if_pos (by omega), c1]
      · rw [if_neg c1]
        by_cases c2 : k + 1 ≤ q ∧ q < 65
        · rw [if_pos c2, if_pos (by omega)]
        · rw [if_neg c2, if_neg (by omega)]
theorem ev_putsBack (y : XS) : ∃ y1, fX8_putsBack y = some ((), y1) ∧ (∀ j, j ≠ 99 → j ≠ 100 → y1 j = y j) ∧ (∀ q, y1 99 q = if q = 4 then -1 else y 99 q) ∧ ∀ q, y1 100 q = if q < 65 then y 103 q else y 100 q := by
  obtain ⟨y1, e1, e2, e4, e3⟩ := puts_loop 65 0 y (by omega) FU (by unfold FU; omega)
  refine ⟨y1, e1, e2, e4, fun q => ?_⟩
  rw [e3]
  by_cases c : q < 65
  · rw [if_pos c, if_pos (by omega)]
  · rw [if_neg c, if_neg (by omega)]
/-- thought: the model's row is put aside -/
def TH (n nt : Nat) (x y : XS) : Prop := CN n nt x y ∧ ∀ k, k < 65 → y 103 k = y 100 k
theorem TH.start {n nt : Nat} {x y : XS} (h : CN n nt x y) : ∃ y1, fX8_thinks y = some ((), y1) ∧ TH n nt x y1 := by
  obtain ⟨y1, e1, e2, e3⟩ := ev_thinks y
  have hc : CN n nt x y1 := h.one (h.1.cong rfl rfl (fun _ _ _ => rfl) (fun _ _ _ => rfl) (e2 _ (by omega)) (by rw [e2 99 (by omega)])) (fun _ _ _ _ _ _ => rfl) (fun j _ _ _ a _ _ _ => e2 j a)
  exact ⟨y1, e1, hc, fun k hk => by rw [e3 k hk, e2 100 (by omega)]⟩
theorem TH.bec {n nt : Nat} {x y : XS} (h : CN n nt x y) : ∃ x1, fX4_become 26 4 x = some ((), x1) ∧ (∀ j, j ≠ 26 → j ≠ 28 → (j < 29 ∨ 37 ≤ j) → x1 j = x j) ∧ PR 26 n x1 y ∧ LW x1 (x1 28) (y 100) nt :=
  become_rel (a := 26) (b := 4) (by omega) (by omega) h.1.1 h.1.2.1 h.1.2.2.1
/-- minutes that are only thought -/
theorem TH.go {n nt m : Nat} {x y x2 y2 : XS} (h : TH n nt x y) (hm : m ≤ 300) (hx2 : ∀ j, j < 99 → (j < 26 ∨ 37 ≤ j) → j ≠ 40 → x2 j = x j) (hR : PR 26 n x2 y2) (hL : LW x2 (x2 28) (y2 100) nt) (hy2 : ∀ j, 99 < j → j ≠ 100 → y2 j = y j) (h99 : ∀ k, k ≠ 4 → y2 99 k = y 99 k) (h100 : ∀ k, 65 ≤ k → y2 100 k = y 100 k) :
    ∃ r x3 y3, fX4_passMinutes 26 (nI m) x2 = some (r, x3) ∧ fX8_goesOn (nI m) y2 = some ((), y3) ∧ PR 26 n x3 y3 ∧ ∃ y4, fX8_putsBack y3 = some ((), y4) ∧ TH n nt x3 y4 := by
  obtain ⟨r, x3, _, y3, e1, e2, hR3, hL3, hs3, -, -⟩ := minutes_rel (a := 26) (by omega) hm hR hL
  have gx : ∀ j, j ≠ 26 → (j < 29 ∨ 37 ≤ j) → j ≠ 40 → x3 j = x2 j := fun j a b c => frX4_passMinutes a b c e1
  have gy : ∀ j, j ≠ 100 → j ≠ 110 → j ≠ 111 → y3 j = y2 j := fun j a b c => frX8_goesOn a c b e2
  obtain ⟨y4, f1, f2, f3, f4⟩ := ev_putsBack y3
  have y100 : y4 100 = y 100 := funext fun q => by
    rw [f4]
    by_cases c : q < 65
    · rw [if_pos c, gy 103 (by omega) (by omega) (by omega), hy2 103 (by omega) (by omega), h.2 q c]
    · rw [if_neg c, hs3.1 q (by omega), h100 q (by omega)]
  have y99 : y4 99 = y 99 := funext fun q => by
    rw [f3]
    by_cases c : q = 4
    · rw [if_pos c, c, h.1.1.2.2.1]
    · rw [if_neg c, gy 99 (by omega) (by omega) (by omega), h99 q c]
  have yo : ∀ j, 99 < j → j ≠ 100 → j ≠ 110 → j ≠ 111 → y4 j = y j := fun j a b c d => by rw [f2 j (by omega) b, gy j b c d, hy2 j a b]
  have xo : ∀ j, j < 99 → (j < 26 ∨ 37 ≤ j) → j ≠ 40 → x3 j = x j := fun j a b c => by rw [gx j (by omega) (by omega) c, hx2 j a b c]
  refine ⟨r, x3, y3, e1, e2, hR3, y4, f1, h.1.one (h.1.1.cong (xo 4 (by omega) (by omega) (by omega)) (xo 6 (by omega) (by omega) (by omega)) (fun j _ _ => xo j (by omega) (by omega) (by omega)) (fun j _ _ => xo j (by omega) (by omega) (by omega)) y100 (by rw [y99])) (fun j a _ _ b c => xo j a b c) (fun j a b _ _ c d _ => ?_), fun k hk => ?_⟩
  · by_cases e : j = 99
    · rw [e, y99]
    · exact yo j (by omega) b c d
  · rw [yo 103 (by omega) (by omega) (by omega) (by omega), y100]; exact h.2 k hk
