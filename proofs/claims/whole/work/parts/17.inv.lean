/-- the model's row of the image in the place of the row of now -/
def im (y : XS) : XS := fun j => if j = 100 then y 101 else y j
def C1 (n nt : Nat) (x y : XS) : Prop := PR 4 n x y ∧ LW x (x 6) (y 100) nt ∧ y 99 4 = -1 ∧ rg 0 9999 (y 100 2)
def C2 (nt : Nat) (x y : XS) : Prop := (x 0 9 = 0 ∧ y 99 3 = 0) ∨ (x 0 9 = 1 ∧ y 99 3 = 1 ∧ ∃ ni ti, ti ≤ nt ∧ PR 15 ni x (im y) ∧ LW x (x 17) (y 101) ti ∧ rg 0 9999 (y 101 2))
def byR (b m : Int32) : Prop := ∃ k, k < 256 ∧ m = nI k ∧ b = (nI k).toInt8.toInt32
def C3 (x y : XS) : Prop := ∃ c, c ≤ 96 ∧ x 2 0 = nI c ∧ y 99 7 = nI c ∧ ∀ i, i < c → byR (x 3 i) (y 104 i)
def kyL : List Int32 := [115, 104, 105, 110, 101, 102, 101, 101, 102, 105, 110, 101]
def kyA : List Int32 := [0, 5, 8, 12]
def C4 (y : XS) : Prop := (∀ i, i < 12 → y 105 i = kyL.getD i 0) ∧ ∀ i, i < 4 → y 106 i = kyA.getD i 0
def C5 (x y : XS) : Prop := ∃ w, w ≤ 60 ∧ x 0 8 = nI w ∧ y 99 33 = nI w ∧ ∀ i, i < w → x 39 i = y 120 i
def NN : Int32 := -1000000005
def shR (i : Nat) (x y : XS) : Prop := x (71 + 2 * i) 0 = y 112 i ∧ rg (-1) 1 (y 112 i) ∧ x (71 + 2 * i) 1 = y 113 i ∧ (∃ c, c ≤ 24 ∧ y 113 i = nI c) ∧ ∀ k, k < 24 → x (72 + 2 * i) k = y 114 (24 * i + k) ∧ (y 114 (24 * i + k) = NN ∨ rg (-99999) 99999 (y 114 (24 * i + k)))
def C6 (x y : XS) : Prop := ∀ i, i < 4 → shR i x y
def slR (i : Nat) (x y : XS) : Prop := x (79 + 4 * i) 0 = y 115 i ∧ rg 0 3 (y 115 i) ∧ (y 115 i = 1 → x (80 + 4 * i) 0 = y 116 i ∧ rg 0 5 (y 116 i) ∧ wk (x (80 + 4 * i) 0) (x (80 + 4 * i) 2) = y 117 i) ∧ (y 115 i = 2 → x (81 + 4 * i) 1 = y 116 i ∧ (∃ c, c ≤ 24 ∧ y 116 i = nI c) ∧ ∀ k, k < 24 → x (82 + 4 * i) k = y 118 (24 * i + k)) ∧ (y 115 i = 3 → x (79 + 4 * i) 1 = y 116 i)
def C7 (x y : XS) : Prop := ∀ i, i < 5 → slR i x y
def C8 (x : XS) : Prop := ∀ t, t < 15 → x (41 + 2 * t) 0 = nI t
/-- the class's cells of x against the model's cells of y -/
def CN (n nt : Nat) (x y : XS) : Prop := C1 n nt x y ∧ C2 nt x y ∧ C3 x y ∧ C4 y ∧ C5 x y ∧ C6 x y ∧ C7 x y ∧ C8 x
def CI (x y : XS) : Prop := ∃ n nt, CN n nt x y
theorem PR.cong {a n : Nat} {x y x1 y1 : XS} (h : PR a n x y) (ha : x1 a = x a) (hb : ∀ i, i < 8 → x1 (a + 3 + i) = x (a + 3 + i)) (hy : y1 100 = y 100) (h4 : y1 99 4 = y 99 4) : PR a n x1 y1 := by
  have h8 := h.1
  unfold PR at *
  rw [ha, hy, h4]
  refine ⟨h.1, h.2.1, h.2.2.1, h.2.2.2.1, h.2.2.2.2.1, h.2.2.2.2.2.1, h.2.2.2.2.2.2.1, h.2.2.2.2.2.2.2.1, h.2.2.2.2.2.2.2.2.1, h.2.2.2.2.2.2.2.2.2.1, h.2.2.2.2.2.2.2.2.2.2.1, h.2.2.2.2.2.2.2.2.2.2.2.1, h.2.2.2.2.2.2.2.2.2.2.2.2.1, fun i hi => ⟨fun k hk => ?_, (h.2.2.2.2.2.2.2.2.2.2.2.2.2 i hi).2⟩⟩
  rw [hb i (by omega)]
  exact (h.2.2.2.2.2.2.2.2.2.2.2.2.2 i hi).1 k hk
theorem LW.cong {x x1 : XS} {L L1 M M1 : Nat → Int32} {nt : Nat} (h : LW x L M nt) (hx : ∀ j, 41 ≤ j → j < 71 → x1 j = x j) (hL : L1 = L) (hM : M1 = M) : LW x1 L1 M1 nt := h.mono hx hL (fun _ _ => by rw [hM]) (by rw [hM])
theorem C1.cong {n nt : Nat} {x y x1 y1 : XS} (h : C1 n nt x y) (h4 : x1 4 = x 4) (h6 : x1 6 = x 6) (hb : ∀ j, 7 ≤ j → j < 15 → x1 j = x j) (ht : ∀ j, 41 ≤ j → j < 71 → x1 j = x j) (hy : y1 100 = y 100) (hi : y1 99 4 = y 99 4) : C1 n nt x1 y1 :=
  ⟨h.1.cong h4 (fun i hi => hb _ (by omega) (by omega)) hy hi, h.2.1.cong ht h6 hy, by rw [hi]; exact h.2.2.1, by rw [hy]; exact h.2.2.2⟩
theorem C2.cong {nt nt1 : Nat} {x y x1 y1 : XS} (h : C2 nt x y) (hn : nt ≤ nt1) (h0 : x1 0 9 = x 0 9) (h15 : x1 15 = x 15) (h17 : x1 17 = x 17) (hb : ∀ j, 18 ≤ j → j < 26 → x1 j = x j) (ht : ∀ ti, ti ≤ nt → LW x (x 17) (y 101) ti → LW x1 (x 17) (y 101) ti) (hy : y1 101 = y 101) (h3 : y1 99 3 = y 99 3) (h4 : y1 99 4 = y 99 4) : C2 nt1 x1 y1 := by
  rcases h with ⟨a, b⟩ | ⟨a, b, ni, ti, c1, c2, c3, c4⟩
  · exact Or.inl ⟨by rw [h0]; exact a, by rw [h3]; exact b⟩
  · refine Or.inr ⟨by rw [h0]; exact a, by rw [h3]; exact b, ni, ti, by omega, c2.cong h15 (fun i hi => hb _ (by omega) (by omega)) ?_ ?_, ?_, by rw [hy]; exact c4⟩
    · show (if (100 : Nat) = 100 then y1 101 else y1 100) = (if (100 : Nat) = 100 then y 101 else y 100)
      rw [if_pos rfl, if_pos rfl, hy]
    · exact h4
    · rw [h17, hy]; exact ht ti c1 c3
theorem C3.cong {x y x1 y1 : XS} (h : C3 x y) (h2 : x1 2 0 = x 2 0) (h3 : x1 3 = x 3) (h7 : y1 99 7 = y 99 7) (h4 : y1 104 = y 104) : C3 x1 y1 := by
  unfold C3 at *; rw [h2, h3, h7, h4]; exact h
theorem C4.cong {y y1 : XS} (h : C4 y) (h5 : y1 105 = y 105) (h6 : y1 106 = y 106) : C4 y1 := by
  unfold C4 at *; rw [h5, h6]; exact h
theorem C5.cong {x y x1 y1 : XS} (h : C5 x y) (h0 : x1 0 8 = x 0 8) (h9 : x1 39 = x 39) (h3 : y1 99 33 = y 99 33) (h2 : y1 120 = y 120) : C5 x1 y1 := by
  unfold C5 at *; rw [h0, h9, h3, h2]; exact h
theorem shR.cong {i : Nat} {x y x1 y1 : XS} (h : shR i x y) (hx : x1 (71 + 2 * i) = x (71 + 2 * i)) (hp : x1 (72 + 2 * i) = x (72 + 2 * i)) (h1 : y1 112 i = y 112 i) (h2 : y1 113 i = y 113 i) (h3 : ∀ k, k < 24 → y1 114 (24 * i + k) = y 114 (24 * i + k)) : shR i x1 y1 := by
  unfold shR at *
  rw [hx, hp, h1, h2]
  exact ⟨h.1, h.2.1, h.2.2.1, h.2.2.2.1, fun k hk => by rw [h3 k hk]; exact h.2.2.2.2 k hk⟩
theorem C6.cong {x y x1 y1 : XS} (h : C6 x y) (hx : ∀ j, 71 ≤ j → j < 79 → x1 j = x j) (h1 : y1 112 = y 112) (h2 : y1 113 = y 113) (h3 : y1 114 = y 114) : C6 x1 y1 := fun i hi => (h i hi).cong (hx _ (by omega) (by omega)) (hx _ (by omega) (by omega)) (by rw [h1]) (by rw [h2]) (fun _ _ => by rw [h3])
theorem slR.cong {i : Nat} {x y x1 y1 : XS} (h : slR i x y) (hx : ∀ j, 79 + 4 * i ≤ j → j < 83 + 4 * i → x1 j = x j) (h1 : y1 115 i = y 115 i) (h2 : y1 116 i = y 116 i) (h3 : y1 117 i = y 117 i) (h4 : ∀ k, k < 24 → y1 118 (24 * i + k) = y 118 (24 * i + k)) : slR i x1 y1 := by
  unfold slR at *
  rw [hx _ (Nat.le_refl _) (by omega), hx (80 + 4 * i) (by omega) (by omega), hx (81 + 4 * i) (by omega) (by omega), hx (82 + 4 * i) (by omega) (by omega), h1, h2, h3]
  exact ⟨h.1, h.2.1, h.2.2.1, fun e => ⟨(h.2.2.2.1 e).1, (h.2.2.2.1 e).2.1, fun k hk => by rw [h4 k hk]; exact (h.2.2.2.1 e).2.2 k hk⟩, h.2.2.2.2⟩
theorem C7.cong {x y x1 y1 : XS} (h : C7 x y) (hx : ∀ j, 79 ≤ j → j < 99 → x1 j = x j) (h1 : y1 115 = y 115) (h2 : y1 116 = y 116) (h3 : y1 117 = y 117) (h4 : y1 118 = y 118) : C7 x1 y1 := fun i hi => (h i hi).cong (fun j a b => hx j (by omega) (by omega)) (by rw [h1]) (by rw [h2]) (by rw [h3]) (fun _ _ => by rw [h4])
theorem C8.cong {x x1 : XS} (h : C8 x) (hx : ∀ j, 41 ≤ j → j < 71 → x1 j = x j) : C8 x1 := fun t ht => by rw [hx _ (by omega) (by omega)]; exact h t ht
/-- the same cells: the same relation -/
theorem CN.cong {n nt : Nat} {x y x1 y1 : XS} (h : CN n nt x y) (hx : ∀ j, j < 99 → x1 j = x j) (hy : ∀ j, 99 ≤ j → y1 j = y j) : CN n nt x1 y1 := by
  obtain ⟨h1, h2, h3, h4, h5, h6, h7, h8⟩ := h
  exact ⟨h1.cong (hx _ (by omega)) (hx _ (by omega)) (fun j _ _ => hx j (by omega)) (fun j _ _ => hx j (by omega)) (hy _ (by omega)) (by rw [hy _ (by omega)]),
    h2.cong (Nat.le_refl _) (by rw [hx _ (by omega)]) (hx _ (by omega)) (hx _ (by omega)) (fun j _ _ => hx j (by omega)) (fun ti _ h => h.cong (fun j _ _ => hx j (by omega)) rfl rfl) (hy _ (by omega)) (by rw [hy _ (by omega)]) (by rw [hy _ (by omega)]),
    h3.cong (by rw [hx _ (by omega)]) (hx _ (by omega)) (by rw [hy _ (by omega)]) (hy _ (by omega)), h4.cong (hy _ (by omega)) (hy _ (by omega)), h5.cong (by rw [hx _ (by omega)]) (hx _ (by omega)) (by rw [hy _ (by omega)]) (hy _ (by omega)),
    h6.cong (fun j _ _ => hx j (by omega)) (hy _ (by omega)) (hy _ (by omega)) (hy _ (by omega)), h7.cong (fun j _ _ => hx j (by omega)) (hy _ (by omega)) (hy _ (by omega)) (hy _ (by omega)) (hy _ (by omega)), h8.cong (fun j _ _ => hx j (by omega))⟩
theorem CI.cong {x y x1 y1 : XS} (h : CI x y) (hx : ∀ j, j < 99 → x1 j = x j) (hy : ∀ j, 99 ≤ j → y1 j = y j) : CI x1 y1 := by
  obtain ⟨n, nt, h⟩ := h
  exact ⟨n, nt, h.cong hx hy⟩
/-- only the street of now (and scratch) has changed -/
theorem CN.one {n n1 nt : Nat} {x y x1 y1 : XS} (h : CN n nt x y) (h1 : C1 n1 nt x1 y1) (hx : ∀ j, j < 99 → j ≠ 4 → (j < 7 ∨ 15 ≤ j) → (j < 26 ∨ 37 ≤ j) → j ≠ 40 → x1 j = x j) (hy : ∀ j, 99 ≤ j → j ≠ 100 → j ≠ 102 → j ≠ 103 → j ≠ 110 → j ≠ 111 → j ≠ 119 → y1 j = y j) : CN n1 nt x1 y1 := by
  obtain ⟨-, h2, h3, h4, h5, h6, h7, h8⟩ := h
  refine ⟨h1, ?_, ?_, ?_, ?_, ?_, ?_, ?_⟩
  · refine h2.cong (Nat.le_refl _) ?_ ?_ ?_ ?_ ?_ ?_ ?_ ?_
    · rw [hx 0 (by omega) (by omega) (by omega) (by omega) (by omega)]
    · exact hx 15 (by omega) (by omega) (by omega) (by omega) (by omega)
    · exact hx 17 (by omega) (by omega) (by omega) (by omega) (by omega)
    · exact fun j _ _ => hx j (by omega) (by omega) (by omega) (by omega) (by omega)
    · exact fun ti _ h => h.cong (fun j _ _ => hx j (by omega) (by omega) (by omega) (by omega) (by omega)) rfl rfl
    · exact hy 101 (by omega) (by omega) (by omega) (by omega) (by omega) (by omega) (by omega)
    · rw [hy 99 (by omega) (by omega) (by omega) (by omega) (by omega) (by omega) (by omega)]
    · rw [hy 99 (by omega) (by omega) (by omega) (by omega) (by omega) (by omega) (by omega)]
  · refine h3.cong ?_ ?_ ?_ ?_
    · rw [hx 2 (by omega) (by omega) (by omega) (by omega) (by omega)]
    · exact hx 3 (by omega) (by omega) (by omega) (by omega) (by omega)
    · rw [hy 99 (by omega) (by omega) (by omega) (by omega) (by omega) (by omega) (by omega)]
    · exact hy 104 (by omega) (by omega) (by omega) (by omega) (by omega) (by omega) (by omega)
  · exact h4.cong (hy 105 (by omega) (by omega) (by omega) (by omega) (by omega) (by omega) (by omega)) (hy 106 (by omega) (by omega) (by omega) (by omega) (by omega) (by omega) (by omega))
  · refine h5.cong ?_ ?_ ?_ ?_
    · rw [hx 0 (by omega) (by omega) (by omega) (by omega) (by omega)]
    · exact hx 39 (by omega) (by omega) (by omega) (by omega) (by omega)
    · rw [hy 99 (by omega) (by omega) (by omega) (by omega) (by omega) (by omega) (by omega)]
    · exact hy 120 (by omega) (by omega) (by omega) (by omega) (by omega) (by omega) (by omega)
  · exact h6.cong (fun j _ _ => hx j (by omega) (by omega) (by omega) (by omega) (by omega)) (hy 112 (by omega) (by omega) (by omega) (by omega) (by omega) (by omega) (by omega)) (hy 113 (by omega) (by omega) (by omega) (by omega) (by omega) (by omega) (by omega)) (hy 114 (by omega) (by omega) (by omega) (by omega) (by omega) (by omega) (by omega))
  · exact h7.cong (fun j _ _ => hx j (by omega) (by omega) (by omega) (by omega) (by omega)) (hy 115 (by omega) (by omega) (by omega) (by omega) (by omega) (by omega) (by omega)) (hy 116 (by omega) (by omega) (by omega) (by omega) (by omega) (by omega) (by omega)) (hy 117 (by omega) (by omega) (by omega) (by omega) (by omega) (by omega) (by omega)) (hy 118 (by omega) (by omega) (by omega) (by omega) (by omega) (by omega) (by omega))
  · exact h8.cong (fun j _ _ => hx j (by omega) (by omega) (by omega) (by omega) (by omega))
/-- a call of both, related -/
def RCI (o1 o2 : Option (Int32 × XS)) : Prop := R2 (fun r x1 q y1 => r = q ∧ CI x1 y1) o1 o2
theorem RCI.same {r : Int32} {x y : XS} (h : CI x y) : RCI (some (r, x)) (some (r, y)) := R2.ret ⟨rfl, h⟩
/-- only scratch has changed -/
theorem CI.scr {x y x1 y1 : XS} (h : CI x y) (hx : ∀ j, j < 99 → (j < 26 ∨ 37 ≤ j) → j ≠ 40 → x1 j = x j) (hy : ∀ j, 99 ≤ j → j ≠ 102 → j ≠ 103 → j ≠ 110 → j ≠ 111 → j ≠ 119 → y1 j = y j) : CI x1 y1 := by
  obtain ⟨n, nt, h⟩ := h
  refine ⟨n, nt, h.one (h.1.cong (hx 4 (by omega) (by omega) (by omega)) (hx 6 (by omega) (by omega) (by omega)) (fun j _ _ => hx j (by omega) (by omega) (by omega)) (fun j _ _ => hx j (by omega) (by omega) (by omega)) (hy 100 (by omega) (by omega) (by omega) (by omega) (by omega) (by omega)) ?_) (fun j h1 _ _ h2 h3 => hx j h1 h2 h3) (fun j h1 _ h2 h3 h4 h5 h6 => hy j h1 h2 h3 h4 h5 h6)⟩
  rw [hy 99 (by omega) (by omega) (by omega) (by omega) (by omega) (by omega)]
