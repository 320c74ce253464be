def rg (lo hi : Int32) (v : Int32) : Prop := lo ≤ v ∧ v ≤ hi
def BOK (M : Nat → Int32) (i : Nat) : Prop := rg 0 5 (M (9 + 7 * i)) ∧ rg 0 9 (M (9 + 7 * i + 1)) ∧ rg 1 99 (M (9 + 7 * i + 2)) ∧ rg 1 20 (M (9 + 7 * i + 3)) ∧ rg 0 99 (M (9 + 7 * i + 5))
/-- the street at cell a against the model's row: n boys -/
def PR (a n : Nat) (x y : XS) : Prop :=
  n ≤ 8 ∧ y 100 1 = nI n ∧ x a 2 = nI n ∧ x a 3 = y 100 8 ∧ x a 4 = y 100 3 ∧ x a 5 = y 100 6 ∧ x a 6 = y 100 4 ∧ x a 7 = y 100 7 ∧ x a 8 = y 100 2 ∧ x a 9 = y 100 0 ∧ x a 10 = y 100 5 ∧ (y 100 5 = 0 ∨ y 100 5 = 1) ∧ x a 11 = y 99 4 ∧ ∀ i, i < n → (∀ k, k < 7 → x (a + 3 + i) k = y 100 (9 + 7 * i + k)) ∧ BOK (y 100) i
def zn (z : Int32) : Int32 := z * 1103515245 + 12345
theorem wr_at {x : XS} {i k j h : Nat} {v : Int32} : wr x i k v j h = if j = i then (if h = k then v else x i h) else x j h := by
  unfold wr upd
  by_cases q : j = i
  · subst q; simp
  · simp [q]
theorem PR_draw {a n : Nat} {x y : XS} {v : Int32} (h : PR a n x y) : PR a n (wr x a 9 v) (wr y 100 0 v) := by
  unfold PR BOK at *
  grind [wr_at]
theorem gd_e {α : Type} {c : Bool} {k : Option α} (h : c = true) : gd c k = k := by rw [h]; rfl
theorem gd_t {α : Type} {k : Option α} : gd true k = k := rfl
theorem st_e {α β : Type} {a : α} {k : α → β} : st_ a k = k a := rfl
theorem bd_e {α β : Type} {v : α} {y : XS} {k : α → XS → Option β} : bd (some (v, y)) k = k v y := rfl
theorem ev_draw {a : Nat} {x : XS} : fX4_draw a x = some (jushr (zn (x a 9)) 8, wr x a 9 (zn (x a 9))) := by
  simp only [fX4_draw, st_e, zn, wr_at, if_true]
theorem ev_mdraw {y : XS} : fX8_draw y = some (jushr (zn (y 100 0)) 8, wr y 100 0 (zn (y 100 0))) := by
  have h0 : inb 0 1437 = true := by decide
  have h1 : ix 0 = 0 := rfl
  simp only [fX8_draw, st_e, zn, wr_at, if_true, gd_e h0, h1]
def tk (v0 v1 : Int32) : Int32 := if v0 = 1 then 1 + jdiv v1 4 else if v0 = 3 then 1 + jdiv v1 6 else if v0 = 2 ∨ v0 = 4 then 3 + jdiv v1 2 else 1 + jdiv v1 2
def ak (v0 v1 : Int32) : Int32 := if v0 = 2 then v1 + 3 else if v0 = 4 then 2 * (v1 + 3) else if v0 = 5 then jmax 1 (v1 - 2) else v1
def wk (v0 v1 : Int32) : Int32 := if v0 = 1 then v1 + 8 else if v0 = 3 then 2 * (v1 + 8) else if v0 = 2 then 99 - v1 else if v0 = 4 then 94 - v1 else if v0 = 5 then 2 else v1
theorem ev_takes {v0 v1 : Int32} {x : XS} : fX1_takes v0 v1 x = some (tk v0 v1, x) := by
  have e : 1 + jdiv v1 2 + 2 = 3 + jdiv v1 2 := by grind
  simp only [fX1_takes, tk, st_e]
  grind
theorem ev_asks {v0 v1 : Int32} {x : XS} : fX1_asks v0 v1 x = some (ak v0 v1, x) := by
  simp only [fX1_asks, ak, st_e]
  grind
theorem ev_worth {v0 v1 : Int32} {x : XS} : fX1_worth v0 v1 x = some (wk v0 v1, x) := by
  have e : 99 - v1 - 5 = 94 - v1 := by grind
  simp only [fX1_worth, wk, st_e]
  grind
theorem cI9 (i k : Nat) : (9 + 7 * nI i) + nI k = nI (9 + 7 * i + k) := by
  rw [show (9 : Int32) = nI 9 from rfl, show (7 : Int32) = nI 7 from rfl, pk_mul, nI_add, nI_add]
theorem ix_nI {i : Nat} (h : i < 2147483648) : ix (nI i) = i := nI_clamp h
theorem inb_nI {i n : Nat} (h : i < n) (hn : n < 2147483648) : inb (nI i) n = true := decide_eq_true (nI_in h hn)
theorem ev_of {i k : Nat} {y : XS} (hi : i < 8) (hk : k < 7) : fX8_of (nI i) (nI k) y = some (y 100 (9 + 7 * i + k), y) := by
  simp only [fX8_of, cI9]
  rw [gd_e (inb_nI (by omega) (by omega)), ix_nI (by omega)]
theorem ev_put {i k : Nat} {v : Int32} {y : XS} (hi : i < 8) (hk : k < 7) : fX8_put (nI i) (nI k) v y = some ((), wr y 100 (9 + 7 * i + k) v) := by
  simp only [fX8_put, cI9, st_e]
  rw [gd_e (inb_nI (by omega) (by omega)), ix_nI (by omega)]
theorem ev_of0 {i : Nat} {y : XS} (hi : i < 8) : fX8_of (nI i) 0 y = some (y 100 (9 + 7 * i), y) := ev_of hi (k := 0) (by omega)
theorem ev_put0 {i : Nat} {v : Int32} {y : XS} (hi : i < 8) : fX8_put (nI i) 0 v y = some ((), wr y 100 (9 + 7 * i) v) := ev_put hi (k := 0) (by omega)
theorem ev_of1 {i : Nat} {y : XS} (hi : i < 8) : fX8_of (nI i) 1 y = some (y 100 (9 + 7 * i + 1), y) := ev_of hi (k := 1) (by omega)
theorem ev_put1 {i : Nat} {v : Int32} {y : XS} (hi : i < 8) : fX8_put (nI i) 1 v y = some ((), wr y 100 (9 + 7 * i + 1) v) := ev_put hi (k := 1) (by omega)
theorem ev_of2 {i : Nat} {y : XS} (hi : i < 8) : fX8_of (nI i) 2 y = some (y 100 (9 + 7 * i + 2), y) := ev_of hi (k := 2) (by omega)
theorem ev_put2 {i : Nat} {v : Int32} {y : XS} (hi : i < 8) : fX8_put (nI i) 2 v y = some ((), wr y 100 (9 + 7 * i + 2) v) := ev_put hi (k := 2) (by omega)
theorem ev_of3 {i : Nat} {y : XS} (hi : i < 8) : fX8_of (nI i) 3 y = some (y 100 (9 + 7 * i + 3), y) := ev_of hi (k := 3) (by omega)
theorem ev_put3 {i : Nat} {v : Int32} {y : XS} (hi : i < 8) : fX8_put (nI i) 3 v y = some ((), wr y 100 (9 + 7 * i + 3) v) := ev_put hi (k := 3) (by omega)
theorem ev_of4 {i : Nat} {y : XS} (hi : i < 8) : fX8_of (nI i) 4 y = some (y 100 (9 + 7 * i + 4), y) := ev_of hi (k := 4) (by omega)
theorem ev_put4 {i : Nat} {v : Int32} {y : XS} (hi : i < 8) : fX8_put (nI i) 4 v y = some ((), wr y 100 (9 + 7 * i + 4) v) := ev_put hi (k := 4) (by omega)
theorem ev_of5 {i : Nat} {y : XS} (hi : i < 8) : fX8_of (nI i) 5 y = some (y 100 (9 + 7 * i + 5), y) := ev_of hi (k := 5) (by omega)
theorem ev_put5 {i : Nat} {v : Int32} {y : XS} (hi : i < 8) : fX8_put (nI i) 5 v y = some ((), wr y 100 (9 + 7 * i + 5) v) := ev_put hi (k := 5) (by omega)
theorem ev_of6 {i : Nat} {y : XS} (hi : i < 8) : fX8_of (nI i) 6 y = some (y 100 (9 + 7 * i + 6), y) := ev_of hi (k := 6) (by omega)
theorem ev_put6 {i : Nat} {v : Int32} {y : XS} (hi : i < 8) : fX8_put (nI i) 6 v y = some ((), wr y 100 (9 + 7 * i + 6) v) := ev_put hi (k := 6) (by omega)
theorem ev_takesOf {i : Nat} {y : XS} (hi : i < 8) : fX8_takesOf (nI i) y = some (tk (y 100 (9 + 7 * i)) (y 100 (9 + 7 * i + 3)), y) := by
  unfold fX8_takesOf
  rw [ev_of3 hi, bd_e, ev_of0 hi, bd_e]
  generalize y 100 (9 + 7 * i + 3) = u
  generalize y 100 (9 + 7 * i) = w
  simp only [tk, st_e]
  grind
theorem ev_asksOf {i : Nat} {y : XS} (hi : i < 8) (hp : rg 1 99 (y 100 (9 + 7 * i + 2))) : fX8_asksOf (nI i) y = some (ak (y 100 (9 + 7 * i)) (y 100 (9 + 7 * i + 2)), y) := by
  unfold fX8_asksOf
  rw [ev_of2 hi, bd_e, ev_of0 hi, bd_e]
  generalize y 100 (9 + 7 * i + 2) = u at *
  generalize y 100 (9 + 7 * i) = w
  have e : 3 ≤ u → jmax 1 (u - 2) = u - 2 := by unfold rg at hp; unfold jmax; grind
  have e2 : ¬ 3 ≤ u → jmax 1 (u - 2) = 1 := by unfold rg at hp; unfold jmax; grind
  simp only [ak]
  grind
theorem ev_worthOf {i : Nat} {y : XS} (hi : i < 8) : fX8_worthOf (nI i) y = some (wk (y 100 (9 + 7 * i)) (y 100 (9 + 7 * i + 2)), y) := by
  unfold fX8_worthOf
  rw [ev_of2 hi, bd_e, ev_of0 hi, bd_e]
  generalize y 100 (9 + 7 * i + 2) = u at *
  generalize y 100 (9 + 7 * i) = w
  simp only [wk]
  grind
theorem ev_in {v a b : Int32} {y : XS} : fX8_in v a b y = some (if a ≤ v ∧ v ≤ b then 1 else 0, y) := by
  unfold fX8_in
  grind
theorem ev_within {v a b : Int32} {y : XS} : fX8_within v a b y = some (if v < a then a else if b < v then b else v, y) := by
  unfold fX8_within
  grind
theorem ev_apart {v w : Int32} {y : XS} (hv : rg 0 9 v) (hw : rg 0 9 w) : fX8_apart v w y = some (jabs (v - w), y) := by
  unfold fX8_apart jabs rg at *
  have e : w ≤ v → 0 ≤ v - w := by grind
  have e2 : ¬ w ≤ v → ¬ 0 ≤ v - w := by grind
  have e3 : 0 - (v - w) = w - v := by grind
  grind
/-- two runs, related -/
def R2 {α β : Type} (Q : α → XS → β → XS → Prop) (o1 : Option (α × XS)) (o2 : Option (β × XS)) : Prop := ∃ a x b y, o1 = some (a, x) ∧ o2 = some (b, y) ∧ Q a x b y
theorem R2.ret {α β : Type} {Q : α → XS → β → XS → Prop} {a : α} {b : β} {x y : XS} (h : Q a x b y) : R2 Q (some (a, x)) (some (b, y)) := ⟨a, x, b, y, rfl, rfl, h⟩
theorem R2.mono {α β : Type} {Q Q1 : α → XS → β → XS → Prop} {o1 : Option (α × XS)} {o2 : Option (β × XS)} (h : R2 Q1 o1 o2) (k : ∀ a x b y, Q1 a x b y → Q a x b y) : R2 Q o1 o2 := by
  obtain ⟨a, x, b, y, h1, h2, h3⟩ := h
  exact ⟨a, x, b, y, h1, h2, k _ _ _ _ h3⟩
theorem R2.ite {α β : Type} {Q : α → XS → β → XS → Prop} {c : Prop} [Decidable c] {A1 B1 : Option (α × XS)} {A2 B2 : Option (β × XS)} (h1 : c → R2 Q A1 A2) (h2 : ¬ c → R2 Q B1 B2) : R2 Q (if c then A1 else B1) (if c then A2 else B2) := by
  by_cases h : c
  · rw [if_pos h, if_pos h]; exact h1 h
  · rw [if_neg h, if_neg h]; exact h2 h
theorem R2.iteC {α β : Type} {Q : α → XS → β → XS → Prop} {c d : Prop} [Decidable c] [Decidable d] {A1 B1 : Option (α × XS)} {A2 B2 : Option (β × XS)} (hcd : c ↔ d) (h1 : c → R2 Q A1 A2) (h2 : ¬ c → R2 Q B1 B2) : R2 Q (if c then A1 else B1) (if d then A2 else B2) := by
  by_cases h : c
  · rw [if_pos h, if_pos (hcd.mp h)]; exact h1 h
  · rw [if_neg h, if_neg (fun q => h (hcd.mpr q))]; exact h2 h
theorem R2.iteN {α β : Type} {Q : α → XS → β → XS → Prop} {c d : Prop} [Decidable c] [Decidable d] {A1 B1 : Option (α × XS)} {A2 B2 : Option (β × XS)} (hcd : c ↔ ¬ d) (h1 : c → R2 Q A1 B2) (h2 : ¬ c → R2 Q B1 A2) : R2 Q (if c then A1 else B1) (if d then A2 else B2) := by
  by_cases h : c
  · rw [if_pos h, if_neg (hcd.mp h)]; exact h1 h
  · rw [if_neg h, if_pos (Decidable.not_not.mp (fun q => h (hcd.mpr q)))]; exact h2 h
theorem R2.ifL {α β : Type} {Q : α → XS → β → XS → Prop} {c : Prop} [Decidable c] {A1 B1 : Option (α × XS)} {o2 : Option (β × XS)} (h1 : c → R2 Q A1 o2) (h2 : ¬ c → R2 Q B1 o2) : R2 Q (if c then A1 else B1) o2 := by
  by_cases h : c
  · rw [if_pos h]; exact h1 h
  · rw [if_neg h]; exact h2 h
theorem R2.ifR {α β : Type} {Q : α → XS → β → XS → Prop} {c : Prop} [Decidable c] {A1 B1 : Option (β × XS)} {o1 : Option (α × XS)} (h1 : c → R2 Q o1 A1) (h2 : ¬ c → R2 Q o1 B1) : R2 Q o1 (if c then A1 else B1) := by
  by_cases h : c
  · rw [if_pos h]; exact h1 h
  · rw [if_neg h]; exact h2 h
theorem R2.gL {α β : Type} {Q : α → XS → β → XS → Prop} {c : Bool} {o1 : Option (α × XS)} {o2 : Option (β × XS)} (hc : c = true) (h : R2 Q o1 o2) : R2 Q (gd c o1) o2 := by rw [gd_e hc]; exact h
theorem R2.gR {α β : Type} {Q : α → XS → β → XS → Prop} {c : Bool} {o1 : Option (α × XS)} {o2 : Option (β × XS)} (hc : c = true) (h : R2 Q o1 o2) : R2 Q o1 (gd c o2) := by rw [gd_e hc]; exact h
theorem R2.bind {α β γ δ : Type} {Q1 : α → XS → β → XS → Prop} {Q : γ → XS → δ → XS → Prop} {o1 : Option (α × XS)} {o2 : Option (β × XS)} {k1 : α → XS → Option (γ × XS)} {k2 : β → XS → Option (δ × XS)} (h : R2 Q1 o1 o2) (k : ∀ a x b y, Q1 a x b y → R2 Q (k1 a x) (k2 b y)) : R2 Q (bd o1 k1) (bd o2 k2) := by
  obtain ⟨a, x, b, y, h1, h2, h3⟩ := h
  rw [h1, h2]
  exact k _ _ _ _ h3
theorem R2.bL {α β γ : Type} {Q : γ → XS → β → XS → Prop} {o1 : Option (α × XS)} {o2 : Option (β × XS)} {k1 : α → XS → Option (γ × XS)} {a : α} {x : XS} (h : o1 = some (a, x)) (k : R2 Q (k1 a x) o2) : R2 Q (bd o1 k1) o2 := by rw [h]; exact k
theorem R2.bR {α β δ : Type} {Q : α → XS → δ → XS → Prop} {o1 : Option (α × XS)} {o2 : Option (β × XS)} {k2 : β → XS → Option (δ × XS)} {b : β} {y : XS} (h : o2 = some (b, y)) (k : R2 Q o1 (k2 b y)) : R2 Q o1 (bd o2 k2) := by rw [h]; exact k
theorem R2.sL {α β γ : Type} {Q : α → XS → β → XS → Prop} {a : γ} {k : γ → Option (α × XS)} {o2 : Option (β × XS)} (h : R2 Q (k a) o2) : R2 Q (st_ a k) o2 := h
theorem R2.sR {α β γ : Type} {Q : α → XS → β → XS → Prop} {a : γ} {k : γ → Option (β × XS)} {o1 : Option (α × XS)} (h : R2 Q o1 (k a)) : R2 Q o1 (st_ a k) := h
theorem R2.eqL {α β : Type} {Q : α → XS → β → XS → Prop} {o1 o1' : Option (α × XS)} {o2 : Option (β × XS)} (h : o1 = o1') (k : R2 Q o1' o2) : R2 Q o1 o2 := by rw [h]; exact k
theorem R2.eqR {α β : Type} {Q : α → XS → β → XS → Prop} {o1 : Option (α × XS)} {o2 o2' : Option (β × XS)} (h : o2 = o2') (k : R2 Q o1 o2') : R2 Q o1 o2 := by rw [h]; exact k
theorem PR.boy {a n : Nat} {x y : XS} (h : PR a n x y) {i : Nat} (hi : i < n) : i < 8 ∧ x (a + 3 + i) 0 = y 100 (9 + 7 * i) ∧ x (a + 3 + i) 1 = y 100 (9 + 7 * i + 1) ∧ x (a + 3 + i) 2 = y 100 (9 + 7 * i + 2) ∧ x (a + 3 + i) 3 = y 100 (9 + 7 * i + 3) ∧ x (a + 3 + i) 4 = y 100 (9 + 7 * i + 4) ∧ x (a + 3 + i) 5 = y 100 (9 + 7 * i + 5) ∧ x (a + 3 + i) 6 = y 100 (9 + 7 * i + 6) ∧ BOK (y 100) i := by
  obtain ⟨h8, -, -, -, -, -, -, -, -, -, -, -, -, hb⟩ := h
  obtain ⟨h1, h2⟩ := hb i hi
  exact ⟨by omega, h1 0 (by omega), h1 1 (by omega), h1 2 (by omega), h1 3 (by omega), h1 4 (by omega), h1 5 (by omega), h1 6 (by omega), h2⟩
theorem b1437_1 : inb 1 1437 = true := by decide
/-- the choosing loops go alike -/
theorem choose_loop {a n : Nat} {x y : XS} {w h : Int32} (hR : PR a n x y) (hw : rg 0 9 w) : ∀ (d i : Nat) (c s : Int32), i + d = n → ∀ f g : Nat, d < f → d < g →
    R2 (fun r x1 q y1 => r = q ∧ x1 = x ∧ y1 = y ∧ (r = c ∨ ∃ j, j < n ∧ r = nI j)) (lX4_chosenBoy_h8 a f w h c s (nI i) x) (lX8_boyFor_h8 g w h c s (nI i) y) := by
  intro d
  induction d with
  | zero =>
    intro i c s hi f g hf hg
    obtain ⟨f, rfl⟩ : ∃ q, f = q + 1 := ⟨f - 1, by omega⟩
    obtain ⟨g, rfl⟩ : ∃ q, g = q + 1 := ⟨g - 1, by omega⟩
    show R2 _ (bX4_chosenBoy_h8 a (lX4_chosenBoy_h8 a f) w h c s (nI i) x) (bX8_boyFor_h8 (lX8_boyFor_h8 g) w h c s (nI i) y)
    obtain ⟨h8, y1, x2, -⟩ := hR
    unfold bX4_chosenBoy_h8 bX8_boyFor_h8
    rw [x2, if_pos (by rw [show i = n by omega]; exact Int32.le_refl _)]
    refine R2.gR b1437_1 ?_
    rw [show ix 1 = 1 from rfl, y1, if_pos (by rw [show i = n by omega]; exact Int32.le_refl _)]
    exact R2.ret ⟨rfl, rfl, rfl, Or.inl rfl⟩
  | succ d ih =>
    intro i c s hi f g hf hg
    obtain ⟨f, rfl⟩ : ∃ q, f = q + 1 := ⟨f - 1, by omega⟩
    obtain ⟨g, rfl⟩ : ∃ q, g = q + 1 := ⟨g - 1, by omega⟩
    have ih1 : ∀ c' s', (c' = c ∨ c' = nI i) → R2 (fun r x1 q y1 => r = q ∧ x1 = x ∧ y1 = y ∧ (r = c ∨ ∃ j, j < n ∧ r = nI j)) (fX4_chosenBoy_h107 a (lX4_chosenBoy_h8 a f) w h c' s' (nI i) x) (fX8_boyFor_h89 (lX8_boyFor_h8 g) w h c' s' (nI i) y) := by
      intro c' s' hc'
      unfold fX4_chosenBoy_h107 fX8_boyFor_h89
      rw [st_e, st_e, nI_1]
      refine (ih (i + 1) c' s' (by omega) f g (by omega) (by omega)).mono ?_
      rintro r x1 q y1 ⟨h1, h2, h3, h4⟩
      refine ⟨h1, h2, h3, ?_⟩
      rcases h4 with h4 | h4
      · rcases hc' with h5 | h5
        · exact Or.inl (h4.trans h5)
        · exact Or.inr ⟨i, by omega, h4.trans h5⟩
      · exact Or.inr h4
    show R2 _ (bX4_chosenBoy_h8 a (lX4_chosenBoy_h8 a f) w h c s (nI i) x) (bX8_boyFor_h8 (lX8_boyFor_h8 g) w h c s (nI i) y)
    obtain ⟨i8, b0, b1, b2, b3, b4, b5, b6, bk⟩ := hR.boy (i := i) (by omega)
    obtain ⟨h8, y1, x2, -, -, -, -, -, -, -, -, -, xa, -⟩ := hR
    have hlt : ¬ nI n ≤ nI i := nI_ge (by omega) (by omega)
    unfold bX4_chosenBoy_h8 bX8_boyFor_h8
    rw [x2, if_neg hlt]
    refine R2.gR b1437_1 (R2.gL (inb_nI i8 (by omega)) ?_)
    rw [show ix 1 = 1 from rfl, y1, if_neg hlt, ix_nI (by omega), xa]
    refine R2.ite (fun _ => ih1 _ _ (Or.inl rfl)) (fun _ => ?_)
    refine R2.bR (ev_of5 i8) ?_
    rw [b5]
    refine R2.ite (fun _ => ih1 _ _ (Or.inl rfl)) (fun _ => ?_)
    refine R2.bL ev_takes (R2.bR (ev_takesOf i8) ?_)
    rw [b0, b3]
    refine R2.ite (fun _ => ?_) (fun _ => ih1 _ _ (Or.inl rfl))
    refine R2.bL ev_asks (R2.bR (ev_asksOf i8 bk.2.2.1) (R2.bR (ev_of1 i8) (R2.bR (ev_apart bk.2.1 hw) ?_)))
    rw [st_e, st_e, st_e, b1, b2]
    refine R2.ite (fun _ => ih1 _ _ (Or.inr rfl)) (fun _ => ?_)
    exact R2.ite (fun _ => ih1 _ _ (Or.inl rfl)) (fun _ => ih1 _ _ (Or.inr rfl))
theorem choose {a n : Nat} {x y : XS} {w h : Int32} (hR : PR a n x y) (hw : rg 0 9 w) : ∃ r, fX4_chosenBoy a w h x = some (r, x) ∧ fX8_boyFor w h y = some (r, y) ∧ (r = -1 ∨ ∃ j, j < n ∧ r = nI j) := by
  have hn : n ≤ 8 := hR.1
  obtain ⟨r, x1, q, y1, h1, h2, rfl, rfl, rfl, h4⟩ := choose_loop (h := h) hR hw n 0 (-1) 0 (by omega) FU FU (by unfold FU; omega) (by unfold FU; omega)
  exact ⟨r, h1, h2, h4⟩
