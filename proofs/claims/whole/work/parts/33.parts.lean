def FX (a : Nat) (x x1 : XS) : Prop := (∀ j, j ≠ 2 → j ≠ a → j ≠ a + 1 → x1 j = x j) ∧ (∀ k, k ≠ 3 → k ≠ 4 → k ≠ 5 → x1 2 k = x 2 k) ∧ x1 a 0 = x a 0
def FY (y y1 : XS) : Prop := (∀ j, j ≠ 99 → j ≠ 107 → j ≠ 108 → j ≠ 109 → y1 j = y j) ∧ ∀ k, k < 8 ∨ 20 < k → y1 99 k = y 99 k
theorem FX.refl {a : Nat} {x : XS} : FX a x x := ⟨fun _ _ _ _ => rfl, fun _ _ _ _ => rfl, rfl⟩
theorem FX.tr {a : Nat} {x x1 x2 : XS} (h : FX a x x1) (h1 : FX a x1 x2) : FX a x x2 := ⟨fun j p q r => by rw [h1.1 j p q r, h.1 j p q r], fun j p q r => by rw [h1.2.1 j p q r, h.2.1 j p q r], by rw [h1.2.2, h.2.2]⟩
theorem FY.refl {y : XS} : FY y y := ⟨fun _ _ _ _ _ => rfl, fun _ _ => rfl⟩
theorem FY.tr {y y1 y2 : XS} (h : FY y y1) (h1 : FY y1 y2) : FY y y2 := ⟨fun j p q r s => by rw [h1.1 j p q r s, h.1 j p q r s], fun k p => by rw [h1.2 k p, h.2 k p]⟩
theorem FRc.fx {a : Nat} {x x1 : XS} (ha : 41 ≤ a) (h : FRc x x1) : FX a x x1 := ⟨fun j p _ _ => h.1 j p, h.2, by rw [h.1 a (by omega)]⟩
theorem FRm.fy {y y1 : XS} (h : FRm y y1) : FY y y1 := ⟨fun j p _ _ _ => h.1 j p, fun k p => h.2 k (by omega)⟩
/-- only the text's cells -/
def FA (a : Nat) (x x1 : XS) : Prop := (∀ j, j ≠ a → j ≠ a + 1 → x1 j = x j) ∧ x1 a 0 = x a 0
theorem FA.fx {a : Nat} {x x1 : XS} (ha : 41 ≤ a) (h : FA a x x1) : FX a x x1 := ⟨fun j _ p q => h.1 j p q, fun k _ _ _ => by rw [h.1 2 (by omega) (by omega)], h.2⟩
/-- only the model's code and stacks -/
def FP (y y1 : XS) : Prop := (∀ j, j ≠ 99 → j ≠ 107 → j ≠ 108 → j ≠ 109 → y1 j = y j) ∧ ∀ k, k ≠ 17 → k ≠ 18 → k ≠ 20 → y1 99 k = y 99 k
theorem FP.fy {y y1 : XS} (h : FP y y1) : FY y y1 := ⟨h.1, fun k p => h.2 k (by omega) (by omega) (by omega)⟩
theorem FP.tr {y y1 y2 : XS} (h : FP y y1) (h1 : FP y1 y2) : FP y y2 := ⟨fun j p q r s => by rw [h1.1 j p q r s, h.1 j p q r s], fun k p q r => by rw [h1.2 k p q r, h.2 k p q r]⟩
def ST (a ky L p q nu : Nat) (D C W : List Int32) (x y : XS) : Prop := TI L x y ∧ TK L p q x y ∧ CL a ky nu D x ∧ MD ky nu C W y ∧ C.length + W.length ≤ p ∧ D.length ≤ p ∧ ∀ m, m ∈ D → okc ky m
theorem CL.cong {a ky nu : Nat} {D : List Int32} {x x1 : XS} (h : CL a ky nu D x) (h1 : x1 a = x a) (h2 : x1 (a + 1) = x (a + 1)) : CL a ky nu D x1 := by
  unfold CL at *; rw [h1, h2]; exact h
theorem MD.cong {ky nu : Nat} {C W : List Int32} {y y1 : XS} (h : MD ky nu C W y) (h9 : ∀ k, 12 < k → y1 99 k = y 99 k) (h7 : y1 107 = y 107) (h8 : y1 108 = y 108) : MD ky nu C W y1 := by
  unfold MD at *; rw [h9 _ (by omega), h9 _ (by omega), h9 _ (by omega), h9 _ (by omega), h7, h8]; exact h
/-- a step of both, from a token of both -/
theorem both_step {a ky L p q nu : Nat} {D C W : List Int32} {x y X Y : XS} (ha : 41 ≤ a) (hT : TI L x y) (hK : TK L p q x y) (hx : FA a x X) (hy : FP y Y) (hC : CL a ky nu D X) (hM : MD ky nu C W Y) (l1 : C.length + W.length ≤ q) (l2 : D.length ≤ q) (hD : ∀ m, m ∈ D → okc ky m) : ∃ x1 y1 p1 q1, fX5_step X = some ((), x1) ∧ fX8_go Y = some ((), y1) ∧ q ≤ p1 ∧ ST a ky L p1 q1 nu D C W x1 y1 ∧ FRc X x1 ∧ FRm Y y1 := by
  obtain ⟨k1, k2, k3, k4, k5, k6, k7, k8⟩ := hK
  obtain ⟨t1, t2, t3, t4⟩ := hT
  have X2 : X 2 = x 2 := hx.1 2 (by omega) (by omega)
  have X3 : X 3 = x 3 := hx.1 3 (by omega) (by omega)
  have Y4 : Y 104 = y 104 := hy.1 104 (by omega) (by omega) (by omega) (by omega)
  have hT1 : TI L X Y := ⟨t1, by rw [X2]; exact t2, by rw [hy.2 7 (by omega) (by omega) (by omega)]; exact t3, by rw [X3, Y4]; exact t4⟩
  obtain ⟨x1, y1, p1, q1, e1, e2, e3, e4, e5, e6⟩ := step_rel (q := q) hT1 (by rw [X2]; exact k4) (by rw [hy.2 8 (by omega) (by omega) (by omega)]; exact k6) k2 (k7.cong X3 (hy.2 12 (by omega) (by omega) (by omega)))
  exact ⟨x1, y1, p1, q1, e1, e2, e3, ⟨hT1.cong e5 e6, e4, hC.cong (e5.1 a (by omega)) (e5.1 _ (by omega)), hM.cong (fun k hk => e6.2 k (Or.inr hk)) (e6.1 _ (by omega)) (e6.1 _ (by omega)), by omega, by omega, hD⟩, e5, e6⟩
theorem ev_addItem {a ky nu : Nat} {D : List Int32} {x : XS} {m v : Int32} (h : CL a ky nu D x) (hl : D.length < 96) (hv : ce m = v) : ∃ X, fX6_addItem a v x = some ((), X) ∧ CL a ky nu (m :: D) X ∧ FA a x X := by
  obtain ⟨h1, h2, h3, h4⟩ := h
  refine ⟨wr (wr x (a + 1) D.length v) a 3 (nI (D.length + 1)), ?_, ⟨?_, ?_, ?_, ?_⟩, fun j p q => ?_, ?_⟩
  · unfold fX6_addItem
    rw [h3, if_neg (show ¬ (96 : Int32) ≤ nI D.length from nI_ge (b := 96) hl (by omega)), gd_e (inb_nI hl (by omega)), ix_nI (by omega), st_e, st_e, wr_ne (by omega), h3, nI_1]
  · rw [wr_at, if_pos rfl, if_neg (by omega), wr_ne (by omega)]; exact h1
  · rw [wr_at, if_pos rfl, if_neg (by omega), wr_ne (by omega)]; exact h2
  · rw [wr_at, if_pos rfl, if_pos rfl]; rfl
  · refine h4.push (fun i => ?_)
    rw [wr_ne (by omega), wr_at, if_pos rfl, List.length_map, hv]
  · rw [wr_ne p, wr_ne q]
  · rw [wr_at, if_pos rfl, if_neg (by omega), wr_ne (by omega)]
theorem CL.num {a ky nu : Nat} {D : List Int32} {x : XS} (h : CL a ky nu D x) : wr x a 2 (x a 2 + 1) = wr x a 2 (nI (nu + 1)) ∧ CL a ky (nu + 1) D (wr x a 2 (nI (nu + 1))) ∧ FA a x (wr x a 2 (nI (nu + 1))) := by
  obtain ⟨h1, h2, h3, h4⟩ := h
  refine ⟨by rw [h2, nI_1], ⟨?_, ?_, ?_, ?_⟩, fun j p q => wr_ne p, ?_⟩
  · rw [wr_at, if_pos rfl, if_neg (by omega)]; exact h1
  · rw [wr_at, if_pos rfl, if_pos rfl]
  · rw [wr_at, if_pos rfl, if_neg (by omega)]; exact h3
  · rw [wr_ne (by omega)]; exact h4
  · rw [wr_at, if_pos rfl, if_neg (by omega)]
theorem FA.tr {a : Nat} {x x1 x2 : XS} (h : FA a x x1) (h1 : FA a x1 x2) : FA a x x2 := ⟨fun j p q => by rw [h1.1 j p q, h.1 j p q], by rw [h1.2, h.2]⟩
theorem ev_addNum {a ky nu : Nat} {D : List Int32} {x : XS} {m v : Int32} (h : CL a ky nu D x) (hl : D.length < 96) (hv : ce m = v) : ∃ X, (∀ {β : Type} (K : XS → Option β), bd (fX6_addItem a v x) (fun _ x_8 => st_ (wr x_8 a 2 ((x_8 a 2) + 1)) (fun x_9 => K x_9)) = K X) ∧ CL a ky (nu + 1) (m :: D) X ∧ FA a x X := by
  obtain ⟨X, e1, e2, e3⟩ := ev_addItem h hl hv
  obtain ⟨c1, c2, c3⟩ := e2.num
  exact ⟨_, fun K => by rw [e1, bd_e, st_e, c1], c2, e3.tr c3⟩
/-- the value of digits -/
theorem dv_num {M : Nat → Int32} {p : Nat} : ∀ k, k ≤ 4 → (∀ i, p ≤ i → i < p + k → isd (M i)) → ∃ n, n < 10 ^ k ∧ dv M p k = nI n := by
  intro k
  induction k with
  | zero => intro _ _; exact ⟨0, by decide, rfl⟩
  | succ k ih =>
    intro hk h
    obtain ⟨n, hn, e⟩ := ih (by omega) (fun i a b => h i a (by omega))
    have hd := h (p + k) (by omega) (by omega)
    obtain ⟨j, hj, ej⟩ := nI_of2 (x := M (p + k) - 48) (M := 9) (n := 9) rfl (by unfold isd at hd; grind) (by unfold isd at hd; grind)
    refine ⟨10 * n + j, by rw [Nat.pow_succ]; omega, ?_⟩
    show 10 * dv M p k + M (p + k) - 48 = _
    rw [e, show M (p + k) = nI j + 48 by rw [← ej]; grind, ← nI_add, ← pk_mul, show (nI 10 : Int32) = 10 from rfl]
    grind
theorem dv_cong {M B : Nat → Int32} {p : Nat} : ∀ k, (∀ i, p ≤ i → i < p + k → B i = M i) → dv B p k = dv M p k := by
  intro k
  induction k with
  | zero => intro _; rfl
  | succ k ih =>
    intro h
    show 10 * dv B p k + B (p + k) - 48 = 10 * dv M p k + M (p + k) - 48
    rw [ih (fun i a b => h i a (by omega)), h (p + k) (by omega) (by omega)]
theorem num_loop {a p q : Nat} {x : XS} (hq : q ≤ 96) (h5 : x 2 5 = nI q) : ∀ d k, p + k + d = q → ∀ f, d < f → lX5_number_h22 a f (dv (x 3) p k) (nI (p + k)) x = bd (fX6_addNumber a (dv (x 3) p (q - p)) x) (fun _ x_5 => bd (fX5_step x_5) (fun _ x_7 => some (1, x_7))) := by
  intro d
  induction d with
  | zero =>
    intro k hk f hf
    obtain ⟨f, rfl⟩ : ∃ q, f = q + 1 := ⟨f - 1, by omega⟩
    show bX5_number_h22 a (lX5_number_h22 a f) _ _ x = _
    unfold bX5_number_h22
    rw [h5, show p + k = q by omega, if_pos (Int32.le_refl _), show k = q - p by omega]
  | succ d ih =>
    intro k hk f hf
    obtain ⟨f, rfl⟩ : ∃ q, f = q + 1 := ⟨f - 1, by omega⟩
    show bX5_number_h22 a (lX5_number_h22 a f) _ _ x = _
    unfold bX5_number_h22
    rw [h5, if_neg (nI_ge (by omega) (by omega)), gd_e (inb_nI (by omega) (by omega)), ix_nI (by omega), st_e, st_e, nI_1]
    exact ih (k + 1) (by omega) f (by omega)
theorem bd_id {α : Type} {o : Option (α × XS)} : bd o (fun r x => some (r, x)) = o := by
  cases o with
  | none => rfl
  | some q => rfl
theorem ev_len {v0 : Nat} {x : XS} : fJ0_length_8abf5 v0 x = some (nI (slen.getD v0 0), x) := by
  unfold fJ0_length_8abf5 fJ0_coder_7d493
  rw [if_neg (show ¬ (1 : Int32) = 0 by decide), gd_e (by decide), bd_e, st_e]
  have : ∀ v : Int32, jshr v 0 = v := fun v => by unfold jshr; simp
  rw [this]
theorem ev_idx {v0 n : Nat} {c : Int32} {x : XS} (hn : slen.getD v0 0 = n) (h0 : 0 < n) (h9 : n < 90) (hc : 0 ≤ c ∧ c ≤ 255) : fJ0_indexOf_0f7a4 v0 c x = lJ1_indexOfChar_4cfef_h7 v0 FU (nI n) (ji2b c) (nI 0) x := by
  unfold fJ0_indexOf_0f7a4 fJ0_indexOf_7cf53 fJ0_isLatin1_aae02
  rw [if_neg (show ¬ (1 : Int32) = 0 by decide), if_pos rfl, bd_e, if_neg (show ¬ (1 : Int32) = 0 by decide), ev_len, bd_e, bd_id, bd_id, hn]
  unfold fJ1_indexOf_4cfef fJ1_canEncode_9a6ad
  rw [if_neg (show ¬ c < 0 by grind), if_neg (show ¬ 255 < c by grind), bd_e, if_neg (show ¬ (1 : Int32) = 0 by decide), st_e, st_e, hn, show jmax 0 0 = 0 from rfl, show jmin (nI n) (nI n) = nI n by unfold jmin; grind, if_pos (show (0 : Int32) < nI n from nI_lt (a := 0) h0 (by omega)), bd_id]
  rfl
theorem idx_go {v0 n i f : Nat} {c : Int32} {x : XS} (hn : slen.getD v0 0 = n) (h9 : n < 90) (hi : i < n) : lJ1_indexOfChar_4cfef_h7 v0 (f + 1) (nI n) c (nI i) x = if (sbyt.getD v0 []).getD i 0 = c then some (nI i, x) else lJ1_indexOfChar_4cfef_h7 v0 f (nI n) c (nI (i + 1)) x := by
  show bJ1_indexOfChar_4cfef_h7 v0 (lJ1_indexOfChar_4cfef_h7 v0 f) (nI n) c (nI i) x = _
  unfold bJ1_indexOfChar_4cfef_h7
  rw [if_neg (nI_ge hi (by omega)), gd_e (by rw [hn]; exact inb_nI hi (by omega)), ix_nI (by omega), st_e, nI_1]
theorem idx_end {v0 n f : Nat} {c : Int32} {x : XS} : lJ1_indexOfChar_4cfef_h7 v0 (f + 1) (nI n) c (nI n) x = some (-1, x) := by
  show bJ1_indexOfChar_4cfef_h7 v0 (lJ1_indexOfChar_4cfef_h7 v0 f) (nI n) c (nI n) x = _
  unfold bJ1_indexOfChar_4cfef_h7
  rw [if_pos (Int32.le_refl _)]
theorem ji_l {b : Int32} (hb : isl b) : ji2b (ji2c b) = b ∧ 0 ≤ ji2c b ∧ ji2c b ≤ 255 := by
  have key : ∀ k : Fin 26, ji2b (ji2c (nI (97 + k.val))) = nI (97 + k.val) ∧ 0 ≤ ji2c (nI (97 + k.val)) ∧ ji2c (nI (97 + k.val)) ≤ 255 := by decide
  obtain ⟨k, hk26, rfl⟩ : ∃ k, k < 26 ∧ b = nI (97 + k) := by
    obtain ⟨j, hj, ej⟩ := nI_of2 (x := b - 97) (M := 25) (n := 25) rfl (by unfold isl at hb; grind) (by unfold isl at hb; grind)
    exact ⟨j, by omega, by rw [← nI_add, ← ej, show (nI 97 : Int32) = 97 from rfl]; grind⟩
  exact key ⟨k, hk26⟩
/-- a name, in both -/
theorem ev_names {ky : Nat} {b : Int32} {x y : XS} (hk : ky < 3) (hb : isl b) (h13 : y 99 13 = nI ky) : ∃ n, fJ0_indexOf_0f7a4 (3 + ky) (ji2c b) x = some (n, x) ∧ fX8_nameOf b y = some (n, y) ∧ (n = -1 ∨ (0 ≤ n ∧ okc ky (10000 + n) ∧ ce (10000 + n) = -1 - n ∧ 0 ≤ 10000 + n)) := by
  obtain ⟨j1, j2⟩ := ji_l hb
  have p0 : (0 : Int32) = -1 ∨ ((0 : Int32) ≤ 0 ∧ okc ky (10000 + 0) ∧ ce (10000 + 0) = -1 - 0 ∧ (0 : Int32) ≤ 10000 + 0) := Or.inr ⟨by decide, Or.inr (Or.inl (by decide)), by decide, by decide⟩
  have p1 : (1 : Int32) = -1 ∨ ((0 : Int32) ≤ 1 ∧ okc ky (10000 + 1) ∧ ce (10000 + 1) = -1 - 1 ∧ (0 : Int32) ≤ 10000 + 1) := Or.inr ⟨by decide, Or.inr (Or.inr (Or.inl (by decide))), by decide, by decide⟩
  unfold fX8_nameOf
  rw [h13, st_e]
  rcases (show ky = 0 ∨ ky = 1 ∨ ky = 2 by omega) with rfl | rfl | rfl
  · rw [ev_idx (n := 3) rfl (by omega) (by omega) j2, j1, show FU = 3999 + 1 from rfl, idx_go (n := 3) rfl (by omega) (by omega), idx_go (f := 3998) (n := 3) rfl (by omega) (by omega), idx_go (f := 3997) (n := 3) rfl (by omega) (by omega), idx_end (f := 3996), if_pos (show nI 0 = 0 from rfl)]
    by_cases c1 : b = 114
    · rw [if_pos (show (sbyt.getD (3 + 0) []).getD 0 0 = b from c1.symm), if_pos c1]; exact ⟨0, rfl, rfl, p0⟩
    rw [if_neg (show ¬ (sbyt.getD (3 + 0) []).getD 0 0 = b from fun e => c1 e.symm), if_neg c1]
    by_cases c2 : b = 100
    · rw [if_pos (show (sbyt.getD (3 + 0) []).getD 1 0 = b from c2.symm), if_pos c2]; exact ⟨1, rfl, rfl, p1⟩
    rw [if_neg (show ¬ (sbyt.getD (3 + 0) []).getD 1 0 = b from fun e => c2 e.symm), if_neg c2]
    by_cases c3 : b = 112
    · rw [if_pos (show (sbyt.getD (3 + 0) []).getD 2 0 = b from c3.symm), if_pos c3]; exact ⟨2, rfl, rfl, Or.inr ⟨by decide, Or.inr (Or.inr (Or.inr (Or.inl ⟨by decide, rfl⟩))), by decide, by decide⟩⟩
    rw [if_neg (show ¬ (sbyt.getD (3 + 0) []).getD 2 0 = b from fun e => c3 e.symm), if_neg c3]
    exact ⟨-1, rfl, rfl, Or.inl rfl⟩
  · rw [ev_idx (n := 2) rfl (by omega) (by omega) j2, j1, show FU = 3999 + 1 from rfl, idx_go (n := 2) rfl (by omega) (by omega), idx_go (f := 3998) (n := 2) rfl (by omega) (by omega), idx_end (f := 3997), if_neg (show ¬ nI 1 = 0 by decide), if_pos (show nI 1 = 1 from rfl)]
    by_cases c1 : b = 108
    · rw [if_pos (show (sbyt.getD (3 + 1) []).getD 0 0 = b from c1.symm), if_pos c1]; exact ⟨0, rfl, rfl, p0⟩
    rw [if_neg (show ¬ (sbyt.getD (3 + 1) []).getD 0 0 = b from fun e => c1 e.symm), if_neg c1]
    by_cases c2 : b = 115
    · rw [if_pos (show (sbyt.getD (3 + 1) []).getD 1 0 = b from c2.symm), if_pos c2]; exact ⟨1, rfl, rfl, p1⟩
    rw [if_neg (show ¬ (sbyt.getD (3 + 1) []).getD 1 0 = b from fun e => c2 e.symm), if_neg c2]
    exact ⟨-1, rfl, rfl, Or.inl rfl⟩
  · rw [ev_idx (n := 2) rfl (by omega) (by omega) j2, j1, show FU = 3999 + 1 from rfl, idx_go (n := 2) rfl (by omega) (by omega), idx_go (f := 3998) (n := 2) rfl (by omega) (by omega), idx_end (f := 3997), if_neg (show ¬ nI 2 = 0 by decide), if_neg (show ¬ nI 2 = 1 by decide)]
    by_cases c1 : b = 112
    · rw [if_pos (show (sbyt.getD (3 + 2) []).getD 0 0 = b from c1.symm), if_pos c1]; exact ⟨0, rfl, rfl, p0⟩
    rw [if_neg (show ¬ (sbyt.getD (3 + 2) []).getD 0 0 = b from fun e => c1 e.symm), if_neg c1]
    by_cases c2 : b = 100
    · rw [if_pos (show (sbyt.getD (3 + 2) []).getD 1 0 = b from c2.symm), if_pos c2]; exact ⟨1, rfl, rfl, p1⟩
    rw [if_neg (show ¬ (sbyt.getD (3 + 2) []).getD 1 0 = b from fun e => c2 e.symm), if_neg c2]
    exact ⟨-1, rfl, rfl, Or.inl rfl⟩
/-- the model takes a part -/
theorem m_part {ky nu k : Nat} {C W0 : List Int32} {y : XS} {m : Int32} (h : MD ky nu C (List.replicate k (-10) ++ W0) y) (hl : C.length + k + W0.length + 1 ≤ 96) (hW : W0 = [] ∨ ∃ h W1, W0 = h :: W1 ∧ (h = -11 ∨ rk h < 6)) : ∃ Y, fX8_takesPart_h87 (y 99 17) m y = bd (fX8_go Y) (fun _ x_18 => some (1, x_18)) ∧ MD ky (nu + 1) (List.replicate k (-10) ++ m :: C) W0 Y ∧ FP y Y ∧ Y 109 = y 109 := by
  obtain ⟨h13, h17, h18, h20, hC, hK⟩ := h
  obtain ⟨Y0, hY⟩ : ∃ Y0, Y0 = wr (wr (wr y 107 C.length m) 99 17 (nI (C.length + 1))) 99 18 (nI (nu + 1)) := ⟨_, rfl⟩
  have hM : MD ky (nu + 1) (m :: C) (List.replicate k (-10) ++ W0) Y0 := by
    refine ⟨by rw [hY]; grind [wr_at], by rw [hY]; grind [wr_at], by rw [hY]; grind [wr_at], ?_, ?_, ?_⟩
    · rw [hY, wr_at, if_pos rfl, if_neg (by omega), wr_at, if_pos rfl, if_neg (by omega), wr_ne (by omega)]; exact h20
    · refine hC.push (fun i => ?_)
      rw [hY, wr_ne (j := 107) (by omega), wr_ne (j := 107) (by omega), wr_at, if_pos rfl]
    · refine hK.mono (fun i _ => ?_)
      rw [hY, wr_ne (j := 108) (by omega), wr_ne (j := 108) (by omega), wr_ne (j := 108) (by omega)]
  obtain ⟨y1, e1, e2, e3, e4⟩ := settle_rel (r := 6) hW (List.replicate k (-10)) (m :: C) Y0 hM (fun s hs => by rw [List.eq_of_mem_replicate hs]; decide) (by simp only [List.length_cons, List.length_replicate]; omega) FU (by simp only [List.length_replicate]; unfold FU; omega)
  refine ⟨y1, ?_, ?_, ⟨fun j a b c d => ?_, fun j a b c => ?_⟩, ?_⟩
  · unfold fX8_takesPart_h87
    have w1 : wr y 107 C.length m 99 17 + 1 = nI (C.length + 1) := by rw [wr_ne (by omega), h17, nI_1]
    have w2 : wr (wr y 107 C.length m) 99 17 (nI (C.length + 1)) 99 18 + 1 = nI (nu + 1) := by rw [wr_at, if_pos rfl, if_neg (by omega), wr_ne (by omega), h18, nI_1]
    rw [h17, gd_e (inb_nI (by omega) (by omega)), ix_nI (by omega), st_e, st_e, st_e, w1, w2, ← hY, show fX8_settle 6 Y0 = some ((), y1) from e1, bd_e]
  · rw [List.reverse_replicate] at e2; exact e2
  · rw [e3 j a b, hY, wr_ne a, wr_ne a, wr_ne b]
  · rw [e4 j a c, hY, wr_at, if_pos rfl, if_neg b, wr_at, if_pos rfl, if_neg a, wr_ne (by omega)]
  · rw [e3 109 (by omega) (by omega), hY, wr_ne (by omega), wr_ne (by omega), wr_ne (by omega)]
