theorem if_out {α : Type} {c : Prop} [Decidable c] {a b r : α} (h : (if c then a else b) = r) : (c ∧ a = r) ∨ (¬ c ∧ b = r) := by
  by_cases hc : c
  · exact Or.inl ⟨hc, if_p hc h⟩
  · exact Or.inr ⟨hc, if_n hc h⟩
theorem if_outN {α : Type} {c : Prop} [Decidable c] {a b r : α} (h : (if c then a else b) = r) : (¬ c ∧ b = r) ∨ (c ∧ a = r) := (if_out h).symm
theorem so_out {α : Type} {v r : α} {x z : XS} (h : some (v, x) = some (r, z)) : z = x := (congrArg Prod.snd (Option.some.inj h)).symm
theorem cpx_ne {x : XS} {a0 a sp dp n j : Nat} (h : j ≠ a) : cpx x a0 a sp dp n j = x j := by
  unfold cpx
  rw [if_neg h]
theorem frJ0_checkIndex_df160 {v0 v1 : Int32} {j : Nat} {x z : XS} {r : Unit} (hf : fJ0_checkIndex_df160 v0 v1 x = some (r, z)) : z j = x j := by
  unfold fJ0_checkIndex_df160 at hf
  obtain ⟨g0, hf⟩ := gd_out hf
  cases hf
  rfl
theorem roJ0_checkIndex_df160 {v0 : Int32} {v1 : Int32} {x z : XS} {r : Unit} (hf : fJ0_checkIndex_df160 v0 v1 x = some (r, z)) : z = x := funext fun j => frJ0_checkIndex_df160 (j := j) hf
theorem frJ0_coder_7d493 {a0 : Nat} {j : Nat}  {x z : XS} {r : Int32} (hf : fJ0_coder_7d493 a0 x = some (r, z)) : z j = x j := by
  obtain ⟨x0, hx0⟩ : ∃ y, y = x := ⟨_, rfl⟩
  have hj : x j = x0 j := by rw [hx0]
  rw [← hx0]
  unfold fJ0_coder_7d493 at hf
  rcases if_out hf with ⟨c_1, hf⟩ | ⟨c_1, hf⟩
  · skip
    obtain ⟨gg_2, hf⟩ := gd_out hf
    rw [so_out hf]
    exact hj
  · skip
    obtain ⟨gg_3, hf⟩ := gd_out hf
    rw [so_out hf]
    exact hj
theorem roJ0_coder_7d493 {a0 : Nat} {x z : XS} {r : Int32} (hf : fJ0_coder_7d493 a0 x = some (r, z)) : z = x := funext fun j => frJ0_coder_7d493 (j := j) hf
theorem frJ0_length_8abf5 {a0 : Nat} {j : Nat}  {x z : XS} {r : Int32} (hf : fJ0_length_8abf5 a0 x = some (r, z)) : z j = x j := by
  obtain ⟨x0, hx0⟩ : ∃ y, y = x := ⟨_, rfl⟩
  have hj : x j = x0 j := by rw [hx0]
  rw [← hx0]
  unfold fJ0_length_8abf5 at hf
  obtain ⟨r_1, x_2, qr_1, hf⟩ := bd_out hf
  replace hj : x_2 j = x0 j := (frJ0_coder_7d493  qr_1).trans hj
  obtain ⟨v_3, ev_3, hf⟩ := st_out hf
  rw [so_out hf]
  exact hj
theorem roJ0_length_8abf5 {a0 : Nat} {x z : XS} {r : Int32} (hf : fJ0_length_8abf5 a0 x = some (r, z)) : z = x := funext fun j => frJ0_length_8abf5 (j := j) hf
theorem frJ0_isLatin1_aae02 {a0 : Nat} {j : Nat}  {x z : XS} {r : Int32} (hf : fJ0_isLatin1_aae02 a0 x = some (r, z)) : z j = x j := by
  obtain ⟨x0, hx0⟩ : ∃ y, y = x := ⟨_, rfl⟩
  have hj : x j = x0 j := by rw [hx0]
  rw [← hx0]
  unfold fJ0_isLatin1_aae02 at hf
  rcases if_out hf with ⟨c_1, hf⟩ | ⟨c_1, hf⟩
  · skip
    rw [so_out hf]
    exact hj
  · skip
    rcases if_outN hf with ⟨c_2, hf⟩ | ⟨c_2, hf⟩
    · skip
      rw [so_out hf]
      exact hj
    · skip
      rw [so_out hf]
      exact hj
theorem roJ0_isLatin1_aae02 {a0 : Nat} {x z : XS} {r : Int32} (hf : fJ0_isLatin1_aae02 a0 x = some (r, z)) : z = x := funext fun j => frJ0_isLatin1_aae02 (j := j) hf
theorem frJ1_charAt_3b067 {v0 : Nat} {v1 : Int32} {j : Nat}  {x z : XS} {r : Int32} (hf : fJ1_charAt_3b067 v0 v1 x = some (r, z)) : z j = x j := by
  obtain ⟨x0, hx0⟩ : ∃ y, y = x := ⟨_, rfl⟩
  have hj : x j = x0 j := by rw [hx0]
  rw [← hx0]
  unfold fJ1_charAt_3b067 at hf
  obtain ⟨r_1, x_2, qr_1, hf⟩ := bd_out hf
  replace hj : x_2 j = x0 j := (frJ0_checkIndex_df160  qr_1).trans hj
  obtain ⟨gg_3, hf⟩ := gd_out hf
  have ngg_3 := inb_lt gg_3
  obtain ⟨v_4, ev_4, hf⟩ := st_out hf
  obtain ⟨gg_5, hf⟩ := gd_out hf
  rw [so_out hf]
  exact hj
theorem roJ1_charAt_3b067 {v0 : Nat} {v1 : Int32} {x z : XS} {r : Int32} (hf : fJ1_charAt_3b067 v0 v1 x = some (r, z)) : z = x := funext fun j => frJ1_charAt_3b067 (j := j) hf
theorem frJ0_charAt_5068e {a0 : Nat} {v1 : Int32} {j : Nat}  {x z : XS} {r : Int32} (hf : fJ0_charAt_5068e a0 v1 x = some (r, z)) : z j = x j := by
  obtain ⟨x0, hx0⟩ : ∃ y, y = x := ⟨_, rfl⟩
  have hj : x j = x0 j := by rw [hx0]
  rw [← hx0]
  unfold fJ0_charAt_5068e at hf
  obtain ⟨r_1, x_2, qr_1, hf⟩ := bd_out hf
  replace hj : x_2 j = x0 j := (frJ0_isLatin1_aae02  qr_1).trans hj
  rcases if_out hf with ⟨c_3, hf⟩ | ⟨c_3, hf⟩
  · skip
    exact absurd hf (by intro q; cases q)
  · skip
    obtain ⟨r_4, x_5, qr_4, hf⟩ := bd_out hf
    replace hj : x_5 j = x0 j := (frJ1_charAt_3b067  qr_4).trans hj
    obtain ⟨gg_6, hf⟩ := gd_out hf
    rw [so_out hf]
    exact hj
theorem roJ0_charAt_5068e {a0 : Nat} {v1 : Int32} {x z : XS} {r : Int32} (hf : fJ0_charAt_5068e a0 v1 x = some (r, z)) : z = x := funext fun j => frJ0_charAt_5068e (j := j) hf
theorem frJ1_canEncode_9a6ad {v0 : Int32} {j : Nat}  {x z : XS} {r : Int32} (hf : fJ1_canEncode_9a6ad v0 x = some (r, z)) : z j = x j := by
  obtain ⟨x0, hx0⟩ : ∃ y, y = x := ⟨_, rfl⟩
  have hj : x j = x0 j := by rw [hx0]
  rw [← hx0]
  unfold fJ1_canEncode_9a6ad at hf
  rcases if_out hf with ⟨c_1, hf⟩ | ⟨c_1, hf⟩
  · skip
    rw [so_out hf]
    exact hj
  · skip
    rcases if_out hf with ⟨c_2, hf⟩ | ⟨c_2, hf⟩
    · skip
      rw [so_out hf]
      exact hj
    · skip
      rw [so_out hf]
      exact hj
theorem roJ1_canEncode_9a6ad {v0 : Int32} {x z : XS} {r : Int32} (hf : fJ1_canEncode_9a6ad v0 x = some (r, z)) : z = x := funext fun j => frJ1_canEncode_9a6ad (j := j) hf
theorem frbJ1_indexOfChar_4cfef_h7 {v0 : Nat} {r : Int32} {z : XS} {j : Nat}  {k7 : Int32 → Int32 → Int32 → XS → Option (Int32 × XS)} (hk7 : ∀ (u3 : Int32) (u4 : Int32) (u5 : Int32) (x : XS), k7 u3 u4 u5 x = some (r, z) → z j = x j) : ∀ (u3 : Int32) (u4 : Int32) (u5 : Int32) (x : XS), bJ1_indexOfChar_4cfef_h7 v0 k7 u3 u4 u5 x = some (r, z) → z j = x j := by
  intro u3 u4 u5 x hf
  obtain ⟨x0, hx0⟩ : ∃ y, y = x := ⟨_, rfl⟩
  have hj : x j = x0 j := by rw [hx0]
  rw [← hx0]
  unfold bJ1_indexOfChar_4cfef_h7 at hf
  rcases if_out hf with ⟨c_2, hf⟩ | ⟨c_2, hf⟩
  · skip
    rw [so_out hf]
    exact hj
  · skip
    obtain ⟨gg_3, hf⟩ := gd_out hf
    have ngg_3 := inb_lt gg_3
    rcases if_outN hf with ⟨c_4, hf⟩ | ⟨c_4, hf⟩
    · skip
      obtain ⟨v_5, ev_5, hf⟩ := st_out hf
      exact (hk7 u3 u4 v_5 x hf).trans hj
    · skip
      rw [so_out hf]
      exact hj
theorem frlJ1_indexOfChar_4cfef_h7 {v0 : Nat} {r : Int32} {z : XS} {j : Nat}  (n : Nat) : ∀ (u3 : Int32) (u4 : Int32) (u5 : Int32) (x : XS), lJ1_indexOfChar_4cfef_h7 v0 n u3 u4 u5 x = some (r, z) → z j = x j := by
  induction n with
  | zero => intro u3 u4 u5 x hf; exact absurd hf (by intro q; cases q)
  | succ n ih => exact frbJ1_indexOfChar_4cfef_h7  ih
theorem frJ1_indexOfChar_4cfef_h7 {v0 : Nat} {r : Int32} {z : XS} {j : Nat}  : ∀ (u3 : Int32) (u4 : Int32) (u5 : Int32) (x : XS), fJ1_indexOfChar_4cfef_h7 v0 u3 u4 u5 x = some (r, z) → z j = x j := frlJ1_indexOfChar_4cfef_h7  FU
theorem frJ1_indexOfChar_4cfef {v0 : Nat} {v1 : Int32} {v2 : Int32} {v3 : Int32} {j : Nat}  {x z : XS} {r : Int32} (hf : fJ1_indexOfChar_4cfef v0 v1 v2 v3 x = some (r, z)) : z j = x j := by
  obtain ⟨x0, hx0⟩ : ∃ y, y = x := ⟨_, rfl⟩
  have hj : x j = x0 j := by rw [hx0]
  rw [← hx0]
  unfold fJ1_indexOfChar_4cfef at hf
  obtain ⟨v_1, ev_1, hf⟩ := st_out hf
  exact (frJ1_indexOfChar_4cfef_h7 v3 v_1 v2 x hf).trans hj
theorem roJ1_indexOfChar_4cfef {v0 : Nat} {v1 : Int32} {v2 : Int32} {v3 : Int32} {x z : XS} {r : Int32} (hf : fJ1_indexOfChar_4cfef v0 v1 v2 v3 x = some (r, z)) : z = x := funext fun j => frJ1_indexOfChar_4cfef (j := j) hf
theorem frJ1_indexOf_4cfef {v0 : Nat} {v1 : Int32} {v2 : Int32} {v3 : Int32} {j : Nat}  {x z : XS} {r : Int32} (hf : fJ1_indexOf_4cfef v0 v1 v2 v3 x = some (r, z)) : z j = x j := by
  obtain ⟨x0, hx0⟩ : ∃ y, y = x := ⟨_, rfl⟩
  have hj : x j = x0 j := by rw [hx0]
  rw [← hx0]
  unfold fJ1_indexOf_4cfef at hf
  obtain ⟨r_1, x_2, qr_1, hf⟩ := bd_out hf
  replace hj : x_2 j = x0 j := (frJ1_canEncode_9a6ad  qr_1).trans hj
  rcases if_outN hf with ⟨c_3, hf⟩ | ⟨c_3, hf⟩
  · skip
    obtain ⟨v_4, ev_4, hf⟩ := st_out hf
    obtain ⟨v_5, ev_5, hf⟩ := st_out hf
    rcases if_out hf with ⟨c_6, hf⟩ | ⟨c_6, hf⟩
    · skip
      obtain ⟨r_7, x_8, qr_7, hf⟩ := bd_out hf
      replace hj : x_8 j = x0 j := (frJ1_indexOfChar_4cfef  qr_7).trans hj
      rw [so_out hf]
      exact hj
    · skip
      rw [so_out hf]
      exact hj
  · skip
    rw [so_out hf]
    exact hj
theorem roJ1_indexOf_4cfef {v0 : Nat} {v1 : Int32} {v2 : Int32} {v3 : Int32} {x z : XS} {r : Int32} (hf : fJ1_indexOf_4cfef v0 v1 v2 v3 x = some (r, z)) : z = x := funext fun j => frJ1_indexOf_4cfef (j := j) hf
theorem frJ0_indexOf_7cf53 {a0 : Nat} {v1 : Int32} {v2 : Int32} {j : Nat}  {x z : XS} {r : Int32} (hf : fJ0_indexOf_7cf53 a0 v1 v2 x = some (r, z)) : z j = x j := by
  obtain ⟨x0, hx0⟩ : ∃ y, y = x := ⟨_, rfl⟩
  have hj : x j = x0 j := by rw [hx0]
  rw [← hx0]
  unfold fJ0_indexOf_7cf53 at hf
  obtain ⟨r_1, x_2, qr_1, hf⟩ := bd_out hf
  replace hj : x_2 j = x0 j := (frJ0_isLatin1_aae02  qr_1).trans hj
  rcases if_out hf with ⟨c_3, hf⟩ | ⟨c_3, hf⟩
  · skip
    obtain ⟨r_4, x_5, qr_4, hf⟩ := bd_out hf
    replace hj : x_5 j = x0 j := (frJ0_length_8abf5  qr_4).trans hj
    exact absurd hf (by intro q; cases q)
  · skip
    obtain ⟨r_6, x_7, qr_6, hf⟩ := bd_out hf
    replace hj : x_7 j = x0 j := (frJ0_length_8abf5  qr_6).trans hj
    obtain ⟨r_8, x_9, qr_8, hf⟩ := bd_out hf
    replace hj : x_9 j = x0 j := (frJ1_indexOf_4cfef  qr_8).trans hj
    rw [so_out hf]
    exact hj
theorem roJ0_indexOf_7cf53 {a0 : Nat} {v1 : Int32} {v2 : Int32} {x z : XS} {r : Int32} (hf : fJ0_indexOf_7cf53 a0 v1 v2 x = some (r, z)) : z = x := funext fun j => frJ0_indexOf_7cf53 (j := j) hf
theorem frJ0_indexOf_0f7a4 {a0 : Nat} {v1 : Int32} {j : Nat}  {x z : XS} {r : Int32} (hf : fJ0_indexOf_0f7a4 a0 v1 x = some (r, z)) : z j = x j := by
  obtain ⟨x0, hx0⟩ : ∃ y, y = x := ⟨_, rfl⟩
  have hj : x j = x0 j := by rw [hx0]
  rw [← hx0]
  unfold fJ0_indexOf_0f7a4 at hf
  obtain ⟨r_1, x_2, qr_1, hf⟩ := bd_out hf
  replace hj : x_2 j = x0 j := (frJ0_indexOf_7cf53  qr_1).trans hj
  rw [so_out hf]
  exact hj
theorem roJ0_indexOf_0f7a4 {a0 : Nat} {v1 : Int32} {x z : XS} {r : Int32} (hf : fJ0_indexOf_0f7a4 a0 v1 x = some (r, z)) : z = x := funext fun j => frJ0_indexOf_0f7a4 (j := j) hf
theorem frX0_mayBe {v0 : Int32} {v1 : Int32} {j : Nat}  {x z : XS} {r : Int32} (hf : fX0_mayBe v0 v1 x = some (r, z)) : z j = x j := by
  obtain ⟨x0, hx0⟩ : ∃ y, y = x := ⟨_, rfl⟩
  have hj : x j = x0 j := by rw [hx0]
  rw [← hx0]
  unfold fX0_mayBe at hf
  by_cases c_1 : v0 = 1
  · replace hf := if_p c_1 hf
    rcases if_out hf with ⟨c_2, hf⟩ | ⟨c_2, hf⟩
    · skip
      rw [so_out hf]
      exact hj
    · skip
      rcases if_out hf with ⟨c_3, hf⟩ | ⟨c_3, hf⟩
      · skip
        rw [so_out hf]
        exact hj
      · skip
        rw [so_out hf]
        exact hj
  · replace hf := if_n c_1 hf
    by_cases c_4 : v0 = 2
    · replace hf := if_p c_4 hf
      rcases if_out hf with ⟨c_5, hf⟩ | ⟨c_5, hf⟩
      · skip
        rw [so_out hf]
        exact hj
      · skip
        rcases if_out hf with ⟨c_6, hf⟩ | ⟨c_6, hf⟩
        · skip
          rw [so_out hf]
          exact hj
        · skip
          rw [so_out hf]
          exact hj
    · replace hf := if_n c_4 hf
      by_cases c_7 : v0 = 3
      · replace hf := if_p c_7 hf
        rcases if_out hf with ⟨c_8, hf⟩ | ⟨c_8, hf⟩
        · skip
          rw [so_out hf]
          exact hj
        · skip
          rcases if_out hf with ⟨c_9, hf⟩ | ⟨c_9, hf⟩
          · skip
            rw [so_out hf]
            exact hj
          · skip
            rw [so_out hf]
            exact hj
      · replace hf := if_n c_7 hf
        rw [so_out hf]
        exact hj
theorem roX0_mayBe {v0 : Int32} {v1 : Int32} {x z : XS} {r : Int32} (hf : fX0_mayBe v0 v1 x = some (r, z)) : z = x := funext fun j => frX0_mayBe (j := j) hf
theorem frX0_change {a0 : Nat} {v1 : Int32} {v2 : Int32} {j : Nat} (j0 : j ≠ a0) {x z : XS} {r : Unit} (hf : fX0_change a0 v1 v2 x = some (r, z)) : z j = x j := by
  obtain ⟨x0, hx0⟩ : ∃ y, y = x := ⟨_, rfl⟩
  have hj : x j = x0 j := by rw [hx0]
  rw [← hx0]
  unfold fX0_change at hf
  rcases if_outN hf with ⟨c_1, hf⟩ | ⟨c_1, hf⟩
  · skip
    rcases if_outN hf with ⟨c_2, hf⟩ | ⟨c_2, hf⟩
    · skip
      rcases if_outN hf with ⟨c_3, hf⟩ | ⟨c_3, hf⟩
      · skip
        rw [so_out hf]
        exact hj
      · skip
        obtain ⟨x_4, ex_4, hf⟩ := st_out hf
        replace hj : x_4 j = x0 j := (show x_4 j = x j by rw [ex_4]; exact wr_ne (by omega)).trans hj
        rw [so_out hf]
        exact hj
    · skip
      obtain ⟨x_5, ex_5, hf⟩ := st_out hf
      replace hj : x_5 j = x0 j := (show x_5 j = x j by rw [ex_5]; exact wr_ne (by omega)).trans hj
      rw [so_out hf]
      exact hj
  · skip
    obtain ⟨x_6, ex_6, hf⟩ := st_out hf
    replace hj : x_6 j = x0 j := (show x_6 j = x j by rw [ex_6]; exact wr_ne (by omega)).trans hj
    rw [so_out hf]
    exact hj
theorem frX0_become {a0 : Nat} {a1 : Nat} {j : Nat} (j0 : j ≠ a0) {x z : XS} {r : Unit} (hf : fX0_become a0 a1 x = some (r, z)) : z j = x j := by
  obtain ⟨x0, hx0⟩ : ∃ y, y = x := ⟨_, rfl⟩
  have hj : x j = x0 j := by rw [hx0]
  rw [← hx0]
  unfold fX0_become at hf
  obtain ⟨x_1, ex_1, hf⟩ := st_out hf
  replace hj : x_1 j = x0 j := (show x_1 j = x j by rw [ex_1]; exact wr_ne (by omega)).trans hj
  obtain ⟨x_2, ex_2, hf⟩ := st_out hf
  replace hj : x_2 j = x0 j := (show x_2 j = x_1 j by rw [ex_2]; exact wr_ne (by omega)).trans hj
  obtain ⟨x_3, ex_3, hf⟩ := st_out hf
  replace hj : x_3 j = x0 j := (show x_3 j = x_2 j by rw [ex_3]; exact wr_ne (by omega)).trans hj
  obtain ⟨x_4, ex_4, hf⟩ := st_out hf
  replace hj : x_4 j = x0 j := (show x_4 j = x_3 j by rw [ex_4]; exact wr_ne (by omega)).trans hj
  obtain ⟨x_5, ex_5, hf⟩ := st_out hf
  replace hj : x_5 j = x0 j := (show x_5 j = x_4 j by rw [ex_5]; exact wr_ne (by omega)).trans hj
  obtain ⟨x_6, ex_6, hf⟩ := st_out hf
  replace hj : x_6 j = x0 j := (show x_6 j = x_5 j by rw [ex_6]; exact wr_ne (by omega)).trans hj
  obtain ⟨x_7, ex_7, hf⟩ := st_out hf
  replace hj : x_7 j = x0 j := (show x_7 j = x_6 j by rw [ex_7]; exact wr_ne (by omega)).trans hj
  rw [so_out hf]
  exact hj
theorem frX0_start {a0 : Nat} {v1 : Int32} {v2 : Int32} {v3 : Int32} {v4 : Int32} {j : Nat} (j0 : j ≠ a0) {x z : XS} {r : Unit} (hf : fX0_start a0 v1 v2 v3 v4 x = some (r, z)) : z j = x j := by
  obtain ⟨x0, hx0⟩ : ∃ y, y = x := ⟨_, rfl⟩
  have hj : x j = x0 j := by rw [hx0]
  rw [← hx0]
  unfold fX0_start at hf
  obtain ⟨x_1, ex_1, hf⟩ := st_out hf
  replace hj : x_1 j = x0 j := (show x_1 j = x j by rw [ex_1]; exact wr_ne (by omega)).trans hj
  obtain ⟨x_2, ex_2, hf⟩ := st_out hf
  replace hj : x_2 j = x0 j := (show x_2 j = x_1 j by rw [ex_2]; exact wr_ne (by omega)).trans hj
  obtain ⟨x_3, ex_3, hf⟩ := st_out hf
  replace hj : x_3 j = x0 j := (show x_3 j = x_2 j by rw [ex_3]; exact wr_ne (by omega)).trans hj
  obtain ⟨x_4, ex_4, hf⟩ := st_out hf
  replace hj : x_4 j = x0 j := (show x_4 j = x_3 j by rw [ex_4]; exact wr_ne (by omega)).trans hj
  obtain ⟨x_5, ex_5, hf⟩ := st_out hf
  replace hj : x_5 j = x0 j := (show x_5 j = x_4 j by rw [ex_5]; exact wr_ne (by omega)).trans hj
  obtain ⟨x_6, ex_6, hf⟩ := st_out hf
  replace hj : x_6 j = x0 j := (show x_6 j = x_5 j by rw [ex_6]; exact wr_ne (by omega)).trans hj
  obtain ⟨x_7, ex_7, hf⟩ := st_out hf
  replace hj : x_7 j = x0 j := (show x_7 j = x_6 j by rw [ex_7]; exact wr_ne (by omega)).trans hj
  rw [so_out hf]
  exact hj
theorem frX1_takes {v0 : Int32} {v1 : Int32} {j : Nat}  {x z : XS} {r : Int32} (hf : fX1_takes v0 v1 x = some (r, z)) : z j = x j := by
  obtain ⟨x0, hx0⟩ : ∃ y, y = x := ⟨_, rfl⟩
  have hj : x j = x0 j := by rw [hx0]
  rw [← hx0]
  unfold fX1_takes at hf
  by_cases c_1 : v0 = 1
  · replace hf := if_p c_1 hf
    obtain ⟨v_2, ev_2, hf⟩ := st_out hf
    rw [so_out hf]
    exact hj
  · replace hf := if_n c_1 hf
    by_cases c_3 : v0 = 2
    · replace hf := if_p c_3 hf
      obtain ⟨v_4, ev_4, hf⟩ := st_out hf
      rw [so_out hf]
      exact hj
    · replace hf := if_n c_3 hf
      by_cases c_5 : v0 = 3
      · replace hf := if_p c_5 hf
        obtain ⟨v_6, ev_6, hf⟩ := st_out hf
        rw [so_out hf]
        exact hj
      · replace hf := if_n c_5 hf
        by_cases c_7 : v0 = 4
        · replace hf := if_p c_7 hf
          obtain ⟨v_8, ev_8, hf⟩ := st_out hf
          rw [so_out hf]
          exact hj
        · replace hf := if_n c_7 hf
          obtain ⟨v_9, ev_9, hf⟩ := st_out hf
          rw [so_out hf]
          exact hj
theorem roX1_takes {v0 : Int32} {v1 : Int32} {x z : XS} {r : Int32} (hf : fX1_takes v0 v1 x = some (r, z)) : z = x := funext fun j => frX1_takes (j := j) hf
theorem frX1_asks {v0 : Int32} {v1 : Int32} {j : Nat}  {x z : XS} {r : Int32} (hf : fX1_asks v0 v1 x = some (r, z)) : z j = x j := by
  obtain ⟨x0, hx0⟩ : ∃ y, y = x := ⟨_, rfl⟩
  have hj : x j = x0 j := by rw [hx0]
  rw [← hx0]
  unfold fX1_asks at hf
  by_cases c_1 : v0 = 2
  · replace hf := if_p c_1 hf
    rw [so_out hf]
    exact hj
  · replace hf := if_n c_1 hf
    by_cases c_2 : v0 = 3
    · replace hf := if_p c_2 hf
      rw [so_out hf]
      exact hj
    · replace hf := if_n c_2 hf
      by_cases c_3 : v0 = 4
      · replace hf := if_p c_3 hf
        rw [so_out hf]
        exact hj
      · replace hf := if_n c_3 hf
        by_cases c_4 : v0 = 5
        · replace hf := if_p c_4 hf
          obtain ⟨v_5, ev_5, hf⟩ := st_out hf
          rw [so_out hf]
          exact hj
        · replace hf := if_n c_4 hf
          rw [so_out hf]
          exact hj
theorem roX1_asks {v0 : Int32} {v1 : Int32} {x z : XS} {r : Int32} (hf : fX1_asks v0 v1 x = some (r, z)) : z = x := funext fun j => frX1_asks (j := j) hf
theorem frX1_worth {v0 : Int32} {v1 : Int32} {j : Nat}  {x z : XS} {r : Int32} (hf : fX1_worth v0 v1 x = some (r, z)) : z j = x j := by
  obtain ⟨x0, hx0⟩ : ∃ y, y = x := ⟨_, rfl⟩
  have hj : x j = x0 j := by rw [hx0]
  rw [← hx0]
  unfold fX1_worth at hf
  by_cases c_1 : v0 = 1
  · replace hf := if_p c_1 hf
    rw [so_out hf]
    exact hj
  · replace hf := if_n c_1 hf
    by_cases c_2 : v0 = 2
    · replace hf := if_p c_2 hf
      rw [so_out hf]
      exact hj
    · replace hf := if_n c_2 hf
      by_cases c_3 : v0 = 3
      · replace hf := if_p c_3 hf
        rw [so_out hf]
        exact hj
      · replace hf := if_n c_3 hf
        by_cases c_4 : v0 = 4
        · replace hf := if_p c_4 hf
          rw [so_out hf]
          exact hj
        · replace hf := if_n c_4 hf
          by_cases c_5 : v0 = 5
          · replace hf := if_p c_5 hf
            rw [so_out hf]
            exact hj
          · replace hf := if_n c_5 hf
            rw [so_out hf]
            exact hj
theorem roX1_worth {v0 : Int32} {v1 : Int32} {x z : XS} {r : Int32} (hf : fX1_worth v0 v1 x = some (r, z)) : z = x := funext fun j => frX1_worth (j := j) hf
theorem frX0_fact {a0 : Nat} {v1 : Int32} {j : Nat}  {x z : XS} {r : Int32} (hf : fX0_fact a0 v1 x = some (r, z)) : z j = x j := by
  obtain ⟨x0, hx0⟩ : ∃ y, y = x := ⟨_, rfl⟩
  have hj : x j = x0 j := by rw [hx0]
  rw [← hx0]
  unfold fX0_fact at hf
  by_cases c_1 : v1 = 0
  · replace hf := if_p c_1 hf
    rw [so_out hf]
    exact hj
  · replace hf := if_n c_1 hf
    by_cases c_2 : v1 = 1
    · replace hf := if_p c_2 hf
      rw [so_out hf]
      exact hj
    · replace hf := if_n c_2 hf
      by_cases c_3 : v1 = 2
      · replace hf := if_p c_3 hf
        rw [so_out hf]
        exact hj
      · replace hf := if_n c_3 hf
        by_cases c_4 : v1 = 3
        · replace hf := if_p c_4 hf
          rw [so_out hf]
          exact hj
        · replace hf := if_n c_4 hf
          by_cases c_5 : v1 = 4
          · replace hf := if_p c_5 hf
            rw [so_out hf]
            exact hj
          · replace hf := if_n c_5 hf
            by_cases c_6 : v1 = 5
            · replace hf := if_p c_6 hf
              rw [so_out hf]
              exact hj
            · replace hf := if_n c_6 hf
              by_cases c_7 : v1 = 6
              · replace hf := if_p c_7 hf
                rw [so_out hf]
                exact hj
              · replace hf := if_n c_7 hf
                by_cases c_8 : v1 = 7
                · replace hf := if_p c_8 hf
                  obtain ⟨r_9, x_10, qr_9, hf⟩ := bd_out hf
                  replace hj : x_10 j = x0 j := (frX1_takes  qr_9).trans hj
                  rw [so_out hf]
                  exact hj
                · replace hf := if_n c_8 hf
                  by_cases c_11 : v1 = 8
                  · replace hf := if_p c_11 hf
                    obtain ⟨r_12, x_13, qr_12, hf⟩ := bd_out hf
                    replace hj : x_13 j = x0 j := (frX1_asks  qr_12).trans hj
                    rw [so_out hf]
                    exact hj
                  · replace hf := if_n c_11 hf
                    obtain ⟨r_14, x_15, qr_14, hf⟩ := bd_out hf
                    replace hj : x_15 j = x0 j := (frX1_worth  qr_14).trans hj
                    rw [so_out hf]
                    exact hj
theorem roX0_fact {a0 : Nat} {v1 : Int32} {x z : XS} {r : Int32} (hf : fX0_fact a0 v1 x = some (r, z)) : z = x := funext fun j => frX0_fact (j := j) hf
theorem frbX1_isUnder_h4 {r : Int32} {z : XS} {j : Nat}  {k4 : Int32 → Int32 → Int32 → XS → Option (Int32 × XS)} (hk4 : ∀ (u1 : Int32) (u2 : Int32) (u3 : Int32) (x : XS), k4 u1 u2 u3 x = some (r, z) → z j = x j) : ∀ (u1 : Int32) (u2 : Int32) (u3 : Int32) (x : XS), bX1_isUnder_h4 k4 u1 u2 u3 x = some (r, z) → z j = x j := by
  intro u1 u2 u3 x hf
  obtain ⟨x0, hx0⟩ : ∃ y, y = x := ⟨_, rfl⟩
  have hj : x j = x0 j := by rw [hx0]
  rw [← hx0]
  unfold bX1_isUnder_h4 at hf
  rcases if_out hf with ⟨c_1, hf⟩ | ⟨c_1, hf⟩
  · skip
    rw [so_out hf]
    exact hj
  · skip
    rcases if_out hf with ⟨c_2, hf⟩ | ⟨c_2, hf⟩
    · skip
      rw [so_out hf]
      exact hj
    · skip
      rcases if_out hf with ⟨c_3, hf⟩ | ⟨c_3, hf⟩
      · skip
        rw [so_out hf]
        exact hj
      · skip
        rcases if_outN hf with ⟨c_4, hf⟩ | ⟨c_4, hf⟩
        · skip
          obtain ⟨gg_5, hf⟩ := gd_out hf
          have ngg_5 := inb_lt gg_5
          obtain ⟨v_6, ev_6, hf⟩ := st_out hf
          obtain ⟨v_7, ev_7, hf⟩ := st_out hf
          exact (hk4 u1 v_6 v_7 x hf).trans hj
        · skip
          rw [so_out hf]
          exact hj
theorem frlX1_isUnder_h4 {r : Int32} {z : XS} {j : Nat}  (n : Nat) : ∀ (u1 : Int32) (u2 : Int32) (u3 : Int32) (x : XS), lX1_isUnder_h4 n u1 u2 u3 x = some (r, z) → z j = x j := by
  induction n with
  | zero => intro u1 u2 u3 x hf; exact absurd hf (by intro q; cases q)
  | succ n ih => exact frbX1_isUnder_h4  ih
theorem frX1_isUnder_h4 {r : Int32} {z : XS} {j : Nat}  : ∀ (u1 : Int32) (u2 : Int32) (u3 : Int32) (x : XS), fX1_isUnder_h4 u1 u2 u3 x = some (r, z) → z j = x j := frlX1_isUnder_h4  FU
theorem frX1_isUnder {v0 : Int32} {v1 : Int32} {j : Nat}  {x z : XS} {r : Int32} (hf : fX1_isUnder v0 v1 x = some (r, z)) : z j = x j := by
  obtain ⟨x0, hx0⟩ : ∃ y, y = x := ⟨_, rfl⟩
  have hj : x j = x0 j := by rw [hx0]
  rw [← hx0]
  unfold fX1_isUnder at hf
  exact (frX1_isUnder_h4 v1 v0 0 x hf).trans hj
theorem roX1_isUnder {v0 : Int32} {v1 : Int32} {x z : XS} {r : Int32} (hf : fX1_isUnder v0 v1 x = some (r, z)) : z = x := funext fun j => frX1_isUnder (j := j) hf
theorem frX1_shineFrom {v0 : Int32} {v1 : Int32} {v2 : Int32} {j : Nat}  {x z : XS} {r : Int32} (hf : fX1_shineFrom v0 v1 v2 x = some (r, z)) : z j = x j := by
  obtain ⟨x0, hx0⟩ : ∃ y, y = x := ⟨_, rfl⟩
  have hj : x j = x0 j := by rw [hx0]
  rw [← hx0]
  unfold fX1_shineFrom at hf
  by_cases c_1 : v0 = 1
  · replace hf := if_p c_1 hf
    obtain ⟨v_2, ev_2, hf⟩ := st_out hf
    rw [so_out hf]
    exact hj
  · replace hf := if_n c_1 hf
    by_cases c_3 : v0 = 2
    · replace hf := if_p c_3 hf
      rw [so_out hf]
      exact hj
    · replace hf := if_n c_3 hf
      by_cases c_4 : v0 = 3
      · replace hf := if_p c_4 hf
        obtain ⟨v_5, ev_5, hf⟩ := st_out hf
        rw [so_out hf]
        exact hj
      · replace hf := if_n c_4 hf
        by_cases c_6 : v0 = 4
        · replace hf := if_p c_6 hf
          rcases if_out hf with ⟨c_7, hf⟩ | ⟨c_7, hf⟩
          · skip
            rw [so_out hf]
            exact hj
          · skip
            obtain ⟨v_8, ev_8, hf⟩ := st_out hf
            rw [so_out hf]
            exact hj
        · replace hf := if_n c_6 hf
          rw [so_out hf]
          exact hj
theorem roX1_shineFrom {v0 : Int32} {v1 : Int32} {v2 : Int32} {x z : XS} {r : Int32} (hf : fX1_shineFrom v0 v1 v2 x = some (r, z)) : z = x := funext fun j => frX1_shineFrom (j := j) hf
theorem frbX2_renew_h24 {a0 : Nat} {r : Unit} {z : XS} {j : Nat} (j0 : j ≠ a0) (j1 : j ≠ (a0 + 1)) {k24 : Int32 → XS → Option (Unit × XS)} (hk24 : ∀ (u3 : Int32) (x : XS), k24 u3 x = some (r, z) → z j = x j) : ∀ (u3 : Int32) (x : XS), bX2_renew_h24 a0 k24 u3 x = some (r, z) → z j = x j := by
  intro u3 x hf
  obtain ⟨x0, hx0⟩ : ∃ y, y = x := ⟨_, rfl⟩
  have hj : x j = x0 j := by rw [hx0]
  rw [← hx0]
  unfold bX2_renew_h24 at hf
  rcases if_out hf with ⟨c_5, hf⟩ | ⟨c_5, hf⟩
  · skip
    rw [so_out hf]
    exact hj
  · skip
    obtain ⟨gg_6, hf⟩ := gd_out hf
    have ngg_6 := inb_lt gg_6
    obtain ⟨x_7, ex_7, hf⟩ := st_out hf
    replace hj : x_7 j = x0 j := (show x_7 j = x j by rw [ex_7]; exact wr_ne (by omega)).trans hj
    obtain ⟨v_8, ev_8, hf⟩ := st_out hf
    exact (hk24 v_8 x_7 hf).trans hj
theorem frlX2_renew_h24 {a0 : Nat} {r : Unit} {z : XS} {j : Nat} (j0 : j ≠ a0) (j1 : j ≠ (a0 + 1)) (n : Nat) : ∀ (u3 : Int32) (x : XS), lX2_renew_h24 a0 n u3 x = some (r, z) → z j = x j := by
  induction n with
  | zero => intro u3 x hf; exact absurd hf (by intro q; cases q)
  | succ n ih => exact frbX2_renew_h24 j0 j1 ih
theorem frX2_renew_h24 {a0 : Nat} {r : Unit} {z : XS} {j : Nat} (j0 : j ≠ a0) (j1 : j ≠ (a0 + 1)) : ∀ (u3 : Int32) (x : XS), fX2_renew_h24 a0 u3 x = some (r, z) → z j = x j := frlX2_renew_h24 j0 j1 FU
theorem frX2_renew {a0 : Nat} {v1 : Int32} {v2 : Int32} {j : Nat} (j0 : j ≠ a0) (j1 : j ≠ (a0 + 1)) {x z : XS} {r : Unit} (hf : fX2_renew a0 v1 v2 x = some (r, z)) : z j = x j := by
  obtain ⟨x0, hx0⟩ : ∃ y, y = x := ⟨_, rfl⟩
  have hj : x j = x0 j := by rw [hx0]
  rw [← hx0]
  unfold fX2_renew at hf
  obtain ⟨x_1, ex_1, hf⟩ := st_out hf
  replace hj : x_1 j = x0 j := (show x_1 j = x j by rw [ex_1]; exact wr_ne (by omega)).trans hj
  obtain ⟨v_2, ev_2, hf⟩ := st_out hf
  obtain ⟨v_3, ev_3, hf⟩ := st_out hf
  obtain ⟨x_4, ex_4, hf⟩ := st_out hf
  replace hj : x_4 j = x0 j := (show x_4 j = x_1 j by rw [ex_4]; exact wr_ne (by omega)).trans hj
  exact (frX2_renew_h24 j0 j1 0 x_4 hf).trans hj
theorem frX2_become {a0 : Nat} {a1 : Nat} {j : Nat} (j0 : j ≠ a0) (j1 : j ≠ (a0 + 1)) {x z : XS} {r : Unit} (hf : fX2_become a0 a1 x = some (r, z)) : z j = x j := by
  obtain ⟨x0, hx0⟩ : ∃ y, y = x := ⟨_, rfl⟩
  have hj : x j = x0 j := by rw [hx0]
  rw [← hx0]
  unfold fX2_become at hf
  obtain ⟨x_1, ex_1, hf⟩ := st_out hf
  replace hj : x_1 j = x0 j := (show x_1 j = x j by rw [ex_1]; exact wr_ne (by omega)).trans hj
  obtain ⟨x_2, ex_2, hf⟩ := st_out hf
  replace hj : x_2 j = x0 j := (show x_2 j = x_1 j by rw [ex_2]; exact wr_ne (by omega)).trans hj
  obtain ⟨gg_3, hf⟩ := gd_out hf
  obtain ⟨x_4, ex_4, hf⟩ := st_out hf
  replace hj : x_4 j = x0 j := (show x_4 j = x_2 j by rw [ex_4]; exact cpx_ne (by omega)).trans hj
  rw [so_out hf]
  exact hj
theorem frX2_isMissing {a0 : Nat} {j : Nat}  {x z : XS} {r : Int32} (hf : fX2_isMissing a0 x = some (r, z)) : z j = x j := by
  obtain ⟨x0, hx0⟩ : ∃ y, y = x := ⟨_, rfl⟩
  have hj : x j = x0 j := by rw [hx0]
  rw [← hx0]
  unfold fX2_isMissing at hf
  rcases if_outN hf with ⟨c_1, hf⟩ | ⟨c_1, hf⟩
  · skip
    rw [so_out hf]
    exact hj
  · skip
    rw [so_out hf]
    exact hj
theorem roX2_isMissing {a0 : Nat} {x z : XS} {r : Int32} (hf : fX2_isMissing a0 x = some (r, z)) : z = x := funext fun j => frX2_isMissing (j := j) hf
theorem frX2_hasPlace {a0 : Nat} {v1 : Int32} {j : Nat}  {x z : XS} {r : Int32} (hf : fX2_hasPlace a0 v1 x = some (r, z)) : z j = x j := by
  obtain ⟨x0, hx0⟩ : ∃ y, y = x := ⟨_, rfl⟩
  have hj : x j = x0 j := by rw [hx0]
  rw [← hx0]
  unfold fX2_hasPlace at hf
  rcases if_out hf with ⟨c_1, hf⟩ | ⟨c_1, hf⟩
  · skip
    rw [so_out hf]
    exact hj
  · skip
    rcases if_out hf with ⟨c_2, hf⟩ | ⟨c_2, hf⟩
    · skip
      rw [so_out hf]
      exact hj
    · skip
      rw [so_out hf]
      exact hj
theorem roX2_hasPlace {a0 : Nat} {v1 : Int32} {x z : XS} {r : Int32} (hf : fX2_hasPlace a0 v1 x = some (r, z)) : z = x := funext fun j => frX2_hasPlace (j := j) hf
theorem frX2_hasPlaces {a0 : Nat} {v1 : Int32} {v2 : Int32} {j : Nat}  {x z : XS} {r : Int32} (hf : fX2_hasPlaces a0 v1 v2 x = some (r, z)) : z j = x j := by
  obtain ⟨x0, hx0⟩ : ∃ y, y = x := ⟨_, rfl⟩
  have hj : x j = x0 j := by rw [hx0]
  rw [← hx0]
  unfold fX2_hasPlaces at hf
  rcases if_out hf with ⟨c_1, hf⟩ | ⟨c_1, hf⟩
  · skip
    rw [so_out hf]
    exact hj
  · skip
    rcases if_out hf with ⟨c_2, hf⟩ | ⟨c_2, hf⟩
    · skip
      rw [so_out hf]
      exact hj
    · skip
      rcases if_out hf with ⟨c_3, hf⟩ | ⟨c_3, hf⟩
      · skip
        rw [so_out hf]
        exact hj
      · skip
        rcases if_out hf with ⟨c_4, hf⟩ | ⟨c_4, hf⟩
        · skip
          rw [so_out hf]
          exact hj
        · skip
          rw [so_out hf]
          exact hj
theorem roX2_hasPlaces {a0 : Nat} {v1 : Int32} {v2 : Int32} {x z : XS} {r : Int32} (hf : fX2_hasPlaces a0 v1 v2 x = some (r, z)) : z = x := funext fun j => frX2_hasPlaces (j := j) hf
theorem frX2_hasNumber {a0 : Nat} {v1 : Int32} {j : Nat}  {x z : XS} {r : Int32} (hf : fX2_hasNumber a0 v1 x = some (r, z)) : z j = x j := by
  obtain ⟨x0, hx0⟩ : ∃ y, y = x := ⟨_, rfl⟩
  have hj : x j = x0 j := by rw [hx0]
  rw [← hx0]
  unfold fX2_hasNumber at hf
  obtain ⟨r_1, x_2, qr_1, hf⟩ := bd_out hf
  replace hj : x_2 j = x0 j := (frX2_hasPlace  qr_1).trans hj
  rcases if_out hf with ⟨c_3, hf⟩ | ⟨c_3, hf⟩
  · skip
    rw [so_out hf]
    exact hj
  · skip
    obtain ⟨gg_4, hf⟩ := gd_out hf
    have ngg_4 := inb_lt gg_4
    rcases if_out hf with ⟨c_5, hf⟩ | ⟨c_5, hf⟩
    · skip
      rw [so_out hf]
      exact hj
    · skip
      rw [so_out hf]
      exact hj
theorem roX2_hasNumber {a0 : Nat} {v1 : Int32} {x z : XS} {r : Int32} (hf : fX2_hasNumber a0 v1 x = some (r, z)) : z = x := funext fun j => frX2_hasNumber (j := j) hf
theorem frX3_findingFor {a0 : Nat} {v1 : Int32} {j : Nat}  {x z : XS} {r : Int32} (hf : fX3_findingFor a0 v1 x = some (r, z)) : z j = x j := by
  obtain ⟨x0, hx0⟩ : ∃ y, y = x := ⟨_, rfl⟩
  have hj : x j = x0 j := by rw [hx0]
  rw [← hx0]
  unfold fX3_findingFor at hf
  rcases if_outN hf with ⟨c_1, hf⟩ | ⟨c_1, hf⟩
  · skip
    rcases if_outN hf with ⟨c_2, hf⟩ | ⟨c_2, hf⟩
    · skip
      rw [so_out hf]
      exact hj
    · skip
      rw [so_out hf]
      exact hj
  · skip
    rw [so_out hf]
    exact hj
theorem roX3_findingFor {a0 : Nat} {v1 : Int32} {x z : XS} {r : Int32} (hf : fX3_findingFor a0 v1 x = some (r, z)) : z = x := funext fun j => frX3_findingFor (j := j) hf
theorem frbX4_become_h116 {a0 : Nat} {a1 : Nat} {r : Unit} {z : XS} {j : Nat} (j0 : j ≠ a0) (j1 : j ≠ (a0 + 2)) (j2 : j < (a0 + 3) ∨ (a0 + 11) ≤ j) {k116 : Int32 → XS → Option (Unit × XS)} (hk116 : ∀ (u2 : Int32) (x : XS), k116 u2 x = some (r, z) → z j = x j) : ∀ (u2 : Int32) (x : XS), bX4_become_h116 a0 a1 k116 u2 x = some (r, z) → z j = x j := by
  intro u2 x hf
  obtain ⟨x0, hx0⟩ : ∃ y, y = x := ⟨_, rfl⟩
  have hj : x j = x0 j := by rw [hx0]
  rw [← hx0]
  unfold bX4_become_h116 at hf
  rcases if_out hf with ⟨c_19, hf⟩ | ⟨c_19, hf⟩
  · skip
    rw [so_out hf]
    exact hj
  · skip
    obtain ⟨gg_20, hf⟩ := gd_out hf
    have ngg_20 := inb_lt gg_20
    obtain ⟨gg_21, hf⟩ := gd_out hf
    have ngg_21 := inb_lt gg_21
    obtain ⟨gg_22, hf⟩ := gd_out hf
    obtain ⟨x_23, ex_23, hf⟩ := st_out hf
    replace hj : x_23 j = x0 j := (show x_23 j = x j by rw [ex_23]; exact wr_ne (by omega)).trans hj
    obtain ⟨v_24, ev_24, hf⟩ := st_out hf
    exact (hk116 v_24 x_23 hf).trans hj
theorem frlX4_become_h116 {a0 : Nat} {a1 : Nat} {r : Unit} {z : XS} {j : Nat} (j0 : j ≠ a0) (j1 : j ≠ (a0 + 2)) (j2 : j < (a0 + 3) ∨ (a0 + 11) ≤ j) (n : Nat) : ∀ (u2 : Int32) (x : XS), lX4_become_h116 a0 a1 n u2 x = some (r, z) → z j = x j := by
  induction n with
  | zero => intro u2 x hf; exact absurd hf (by intro q; cases q)
  | succ n ih => exact frbX4_become_h116 j0 j1 j2 ih
theorem frX4_become_h116 {a0 : Nat} {a1 : Nat} {r : Unit} {z : XS} {j : Nat} (j0 : j ≠ a0) (j1 : j ≠ (a0 + 2)) (j2 : j < (a0 + 3) ∨ (a0 + 11) ≤ j) : ∀ (u2 : Int32) (x : XS), fX4_become_h116 a0 a1 u2 x = some (r, z) → z j = x j := frlX4_become_h116 j0 j1 j2 FU
theorem frbX4_become_h79 {a0 : Nat} {a1 : Nat} {r : Unit} {z : XS} {j : Nat} (j0 : j ≠ a0) (j1 : j ≠ (a0 + 2)) (j2 : j < (a0 + 3) ∨ (a0 + 11) ≤ j) {k79 : Int32 → XS → Option (Unit × XS)} (hk79 : ∀ (u2 : Int32) (x : XS), k79 u2 x = some (r, z) → z j = x j) : ∀ (u2 : Int32) (x : XS), bX4_become_h79 a0 a1 k79 u2 x = some (r, z) → z j = x j := by
  intro u2 x hf
  obtain ⟨x0, hx0⟩ : ∃ y, y = x := ⟨_, rfl⟩
  have hj : x j = x0 j := by rw [hx0]
  rw [← hx0]
  unfold bX4_become_h79 at hf
  rcases if_out hf with ⟨c_12, hf⟩ | ⟨c_12, hf⟩
  · skip
    exact (frX4_become_h116 j0 j1 j2 0 x hf).trans hj
  · skip
    rcases if_out hf with ⟨c_13, hf⟩ | ⟨c_13, hf⟩
    · skip
      exact (frX4_become_h116 j0 j1 j2 0 x hf).trans hj
    · skip
      obtain ⟨gg_14, hf⟩ := gd_out hf
      have ngg_14 := inb_lt gg_14
      obtain ⟨gg_15, hf⟩ := gd_out hf
      have ngg_15 := inb_lt gg_15
      obtain ⟨r_16, x_17, qr_16, hf⟩ := bd_out hf
      replace hj : x_17 j = x0 j := (frX0_become (by omega) qr_16).trans hj
      obtain ⟨v_18, ev_18, hf⟩ := st_out hf
      exact (hk79 v_18 x_17 hf).trans hj
theorem frlX4_become_h79 {a0 : Nat} {a1 : Nat} {r : Unit} {z : XS} {j : Nat} (j0 : j ≠ a0) (j1 : j ≠ (a0 + 2)) (j2 : j < (a0 + 3) ∨ (a0 + 11) ≤ j) (n : Nat) : ∀ (u2 : Int32) (x : XS), lX4_become_h79 a0 a1 n u2 x = some (r, z) → z j = x j := by
  induction n with
  | zero => intro u2 x hf; exact absurd hf (by intro q; cases q)
  | succ n ih => exact frbX4_become_h79 j0 j1 j2 ih
theorem frX4_become_h79 {a0 : Nat} {a1 : Nat} {r : Unit} {z : XS} {j : Nat} (j0 : j ≠ a0) (j1 : j ≠ (a0 + 2)) (j2 : j < (a0 + 3) ∨ (a0 + 11) ≤ j) : ∀ (u2 : Int32) (x : XS), fX4_become_h79 a0 a1 u2 x = some (r, z) → z j = x j := frlX4_become_h79 j0 j1 j2 FU
theorem frX4_become {a0 : Nat} {a1 : Nat} {j : Nat} (j0 : j ≠ a0) (j1 : j ≠ (a0 + 2)) (j2 : j < (a0 + 3) ∨ (a0 + 11) ≤ j) {x z : XS} {r : Unit} (hf : fX4_become a0 a1 x = some (r, z)) : z j = x j := by
  obtain ⟨x0, hx0⟩ : ∃ y, y = x := ⟨_, rfl⟩
  have hj : x j = x0 j := by rw [hx0]
  rw [← hx0]
  unfold fX4_become at hf
  obtain ⟨x_1, ex_1, hf⟩ := st_out hf
  replace hj : x_1 j = x0 j := (show x_1 j = x j by rw [ex_1]; exact wr_ne (by omega)).trans hj
  obtain ⟨x_2, ex_2, hf⟩ := st_out hf
  replace hj : x_2 j = x0 j := (show x_2 j = x_1 j by rw [ex_2]; exact wr_ne (by omega)).trans hj
  obtain ⟨x_3, ex_3, hf⟩ := st_out hf
  replace hj : x_3 j = x0 j := (show x_3 j = x_2 j by rw [ex_3]; exact wr_ne (by omega)).trans hj
  obtain ⟨x_4, ex_4, hf⟩ := st_out hf
  replace hj : x_4 j = x0 j := (show x_4 j = x_3 j by rw [ex_4]; exact wr_ne (by omega)).trans hj
  obtain ⟨x_5, ex_5, hf⟩ := st_out hf
  replace hj : x_5 j = x0 j := (show x_5 j = x_4 j by rw [ex_5]; exact wr_ne (by omega)).trans hj
  obtain ⟨x_6, ex_6, hf⟩ := st_out hf
  replace hj : x_6 j = x0 j := (show x_6 j = x_5 j by rw [ex_6]; exact wr_ne (by omega)).trans hj
  obtain ⟨x_7, ex_7, hf⟩ := st_out hf
  replace hj : x_7 j = x0 j := (show x_7 j = x_6 j by rw [ex_7]; exact wr_ne (by omega)).trans hj
  obtain ⟨x_8, ex_8, hf⟩ := st_out hf
  replace hj : x_8 j = x0 j := (show x_8 j = x_7 j by rw [ex_8]; exact wr_ne (by omega)).trans hj
  obtain ⟨gg_9, hf⟩ := gd_out hf
  obtain ⟨x_10, ex_10, hf⟩ := st_out hf
  replace hj : x_10 j = x0 j := (show x_10 j = x_8 j by rw [ex_10]; exact wr_ne (by omega)).trans hj
  obtain ⟨x_11, ex_11, hf⟩ := st_out hf
  replace hj : x_11 j = x0 j := (show x_11 j = x_10 j by rw [ex_11]; exact wr_ne (by omega)).trans hj
  exact (frX4_become_h79 j0 j1 j2 0 x_11 hf).trans hj
theorem frX4_addBoy {a0 : Nat} {v1 : Int32} {v2 : Int32} {v3 : Int32} {v4 : Int32} {j : Nat} (j0 : j ≠ a0) (j1 : j < (a0 + 3) ∨ (a0 + 11) ≤ j) {x z : XS} {r : Unit} (hf : fX4_addBoy a0 v1 v2 v3 v4 x = some (r, z)) : z j = x j := by
  obtain ⟨x0, hx0⟩ : ∃ y, y = x := ⟨_, rfl⟩
  have hj : x j = x0 j := by rw [hx0]
  rw [← hx0]
  unfold fX4_addBoy at hf
  rcases if_out hf with ⟨c_1, hf⟩ | ⟨c_1, hf⟩
  · skip
    rw [so_out hf]
    exact hj
  · skip
    obtain ⟨gg_2, hf⟩ := gd_out hf
    have ngg_2 := inb_lt gg_2
    obtain ⟨r_3, x_4, qr_3, hf⟩ := bd_out hf
    replace hj : x_4 j = x0 j := (frX0_start (by omega) qr_3).trans hj
    obtain ⟨x_5, ex_5, hf⟩ := st_out hf
    replace hj : x_5 j = x0 j := (show x_5 j = x_4 j by rw [ex_5]; exact wr_ne (by omega)).trans hj
    rw [so_out hf]
    exact hj
theorem frX4_draw {a0 : Nat} {j : Nat} (j0 : j ≠ a0) {x z : XS} {r : Int32} (hf : fX4_draw a0 x = some (r, z)) : z j = x j := by
  obtain ⟨x0, hx0⟩ : ∃ y, y = x := ⟨_, rfl⟩
  have hj : x j = x0 j := by rw [hx0]
  rw [← hx0]
  unfold fX4_draw at hf
  obtain ⟨x_1, ex_1, hf⟩ := st_out hf
  replace hj : x_1 j = x0 j := (show x_1 j = x j by rw [ex_1]; exact wr_ne (by omega)).trans hj
  obtain ⟨v_2, ev_2, hf⟩ := st_out hf
  rw [so_out hf]
  exact hj
theorem frX4_drawBoy {a0 : Nat} {j : Nat} (j0 : j ≠ a0) (j1 : j < (a0 + 3) ∨ (a0 + 11) ≤ j) {x z : XS} {r : Unit} (hf : fX4_drawBoy a0 x = some (r, z)) : z j = x j := by
  obtain ⟨x0, hx0⟩ : ∃ y, y = x := ⟨_, rfl⟩
  have hj : x j = x0 j := by rw [hx0]
  rw [← hx0]
  unfold fX4_drawBoy at hf
  obtain ⟨r_1, x_2, qr_1, hf⟩ := bd_out hf
  replace hj : x_2 j = x0 j := (frX4_draw (by omega) qr_1).trans hj
  obtain ⟨v_3, ev_3, hf⟩ := st_out hf
  obtain ⟨r_4, x_5, qr_4, hf⟩ := bd_out hf
  replace hj : x_5 j = x0 j := (frX4_draw (by omega) qr_4).trans hj
  obtain ⟨v_6, ev_6, hf⟩ := st_out hf
  obtain ⟨r_7, x_8, qr_7, hf⟩ := bd_out hf
  replace hj : x_8 j = x0 j := (frX4_draw (by omega) qr_7).trans hj
  obtain ⟨v_9, ev_9, hf⟩ := st_out hf
  obtain ⟨v_10, ev_10, hf⟩ := st_out hf
  obtain ⟨r_11, x_12, qr_11, hf⟩ := bd_out hf
  replace hj : x_12 j = x0 j := (frX4_draw (by omega) qr_11).trans hj
  obtain ⟨v_13, ev_13, hf⟩ := st_out hf
  obtain ⟨v_14, ev_14, hf⟩ := st_out hf
  obtain ⟨r_15, x_16, qr_15, hf⟩ := bd_out hf
  replace hj : x_16 j = x0 j := (frX4_addBoy (by omega) (by omega) qr_15).trans hj
  rw [so_out hf]
  exact hj
theorem frX4_countText {a0 : Nat} {a1 : Nat} {j : Nat} (j0 : j ≠ (a0 + 2)) (j1 : j ≠ a0) {x z : XS} {r : Unit} (hf : fX4_countText a0 a1 x = some (r, z)) : z j = x j := by
  obtain ⟨x0, hx0⟩ : ∃ y, y = x := ⟨_, rfl⟩
  have hj : x j = x0 j := by rw [hx0]
  rw [← hx0]
  unfold fX4_countText at hf
  rcases if_out hf with ⟨c_1, hf⟩ | ⟨c_1, hf⟩
  · skip
    rw [so_out hf]
    exact hj
  · skip
    rcases if_out hf with ⟨c_2, hf⟩ | ⟨c_2, hf⟩
    · skip
      rw [so_out hf]
      exact hj
    · skip
      obtain ⟨gg_3, hf⟩ := gd_out hf
      have ngg_3 := inb_lt gg_3
      obtain ⟨x_4, ex_4, hf⟩ := st_out hf
      replace hj : x_4 j = x0 j := (show x_4 j = x j by rw [ex_4]; exact wr_ne (by omega)).trans hj
      obtain ⟨x_5, ex_5, hf⟩ := st_out hf
      replace hj : x_5 j = x0 j := (show x_5 j = x_4 j by rw [ex_5]; exact wr_ne (by omega)).trans hj
      rw [so_out hf]
      exact hj
theorem frX4_law {a0 : Nat} {v1 : Int32} {j : Nat}  {x z : XS} {r : Int32} (hf : fX4_law a0 v1 x = some (r, z)) : z j = x j := by
  obtain ⟨x0, hx0⟩ : ∃ y, y = x := ⟨_, rfl⟩
  have hj : x j = x0 j := by rw [hx0]
  rw [← hx0]
  unfold fX4_law at hf
  rcases if_out hf with ⟨c_1, hf⟩ | ⟨c_1, hf⟩
  · skip
    rw [so_out hf]
    exact hj
  · skip
    rcases if_out hf with ⟨c_2, hf⟩ | ⟨c_2, hf⟩
    · skip
      rw [so_out hf]
      exact hj
    · skip
      obtain ⟨gg_3, hf⟩ := gd_out hf
      have ngg_3 := inb_lt gg_3
      rw [so_out hf]
      exact hj
theorem roX4_law {a0 : Nat} {v1 : Int32} {x z : XS} {r : Int32} (hf : fX4_law a0 v1 x = some (r, z)) : z = x := funext fun j => frX4_law (j := j) hf
theorem frX4_bareShine {v0 : Int32} {v1 : Int32} {j : Nat}  {x z : XS} {r : Int32} (hf : fX4_bareShine v0 v1 x = some (r, z)) : z j = x j := by
  obtain ⟨x0, hx0⟩ : ∃ y, y = x := ⟨_, rfl⟩
  have hj : x j = x0 j := by rw [hx0]
  rw [← hx0]
  unfold fX4_bareShine at hf
  obtain ⟨v_1, ev_1, hf⟩ := st_out hf
  rcases if_out hf with ⟨c_2, hf⟩ | ⟨c_2, hf⟩
  · skip
    obtain ⟨gg_3, hf⟩ := gd_out hf
    obtain ⟨v_4, ev_4, hf⟩ := st_out hf
    rw [so_out hf]
    exact hj
  · skip
    rw [so_out hf]
    exact hj
theorem roX4_bareShine {v0 : Int32} {v1 : Int32} {x z : XS} {r : Int32} (hf : fX4_bareShine v0 v1 x = some (r, z)) : z = x := funext fun j => frX4_bareShine (j := j) hf
theorem frX6_joined {v0 : Int32} {v1 : Int32} {v2 : Int32} {j : Nat}  {x z : XS} {r : Int32} (hf : fX6_joined v0 v1 v2 x = some (r, z)) : z j = x j := by
  obtain ⟨x0, hx0⟩ : ∃ y, y = x := ⟨_, rfl⟩
  have hj : x j = x0 j := by rw [hx0]
  rw [← hx0]
  unfold fX6_joined at hf
  by_cases c_1 : v0 = 38
  · replace hf := if_p c_1 hf
    rcases if_out hf with ⟨c_2, hf⟩ | ⟨c_2, hf⟩
    · skip
      rw [so_out hf]
      exact hj
    · skip
      rcases if_out hf with ⟨c_3, hf⟩ | ⟨c_3, hf⟩
      · skip
        rw [so_out hf]
        exact hj
      · skip
        rw [so_out hf]
        exact hj
  · replace hf := if_n c_1 hf
    by_cases c_4 : v0 = 42
    · replace hf := if_p c_4 hf
      rw [so_out hf]
      exact hj
    · replace hf := if_n c_4 hf
      by_cases c_5 : v0 = 43
      · replace hf := if_p c_5 hf
        rw [so_out hf]
        exact hj
      · replace hf := if_n c_5 hf
        by_cases c_6 : v0 = 45
        · replace hf := if_p c_6 hf
          rw [so_out hf]
          exact hj
        · replace hf := if_n c_6 hf
          by_cases c_7 : v0 = 60
          · replace hf := if_p c_7 hf
            rcases if_out hf with ⟨c_8, hf⟩ | ⟨c_8, hf⟩
            · skip
              rw [so_out hf]
              exact hj
            · skip
              rw [so_out hf]
              exact hj
          · replace hf := if_n c_7 hf
            by_cases c_9 : v0 = 61
            · replace hf := if_p c_9 hf
              rcases if_outN hf with ⟨c_10, hf⟩ | ⟨c_10, hf⟩
              · skip
                rw [so_out hf]
                exact hj
              · skip
                rw [so_out hf]
                exact hj
            · replace hf := if_n c_9 hf
              by_cases c_11 : v0 = 62
              · replace hf := if_p c_11 hf
                rcases if_out hf with ⟨c_12, hf⟩ | ⟨c_12, hf⟩
                · skip
                  rw [so_out hf]
                  exact hj
                · skip
                  rw [so_out hf]
                  exact hj
              · replace hf := if_n c_11 hf
                by_cases c_13 : v0 = 124
                · replace hf := if_p c_13 hf
                  rcases if_outN hf with ⟨c_14, hf⟩ | ⟨c_14, hf⟩
                  · skip
                    rw [so_out hf]
                    exact hj
                  · skip
                    rcases if_out hf with ⟨c_15, hf⟩ | ⟨c_15, hf⟩
                    · skip
                      rw [so_out hf]
                      exact hj
                    · skip
                      rw [so_out hf]
                      exact hj
                · replace hf := if_n c_13 hf
                  rcases if_outN hf with ⟨c_16, hf⟩ | ⟨c_16, hf⟩
                  · skip
                    obtain ⟨gg_17, hf⟩ := gd_out hf
                    obtain ⟨v_18, ev_18, hf⟩ := st_out hf
                    rw [so_out hf]
                    exact hj
                  · skip
                    rw [so_out hf]
                    exact hj
theorem roX6_joined {v0 : Int32} {v1 : Int32} {v2 : Int32} {x z : XS} {r : Int32} (hf : fX6_joined v0 v1 v2 x = some (r, z)) : z = x := funext fun j => frX6_joined (j := j) hf
theorem frX6_value_h175 {a0 : Nat} {r : Int32} {z : XS} {j : Nat} (j0 : j ≠ 40) {k6 : Int32 → Int32 → Int32 → Int32 → Int32 → XS → Option (Int32 × XS)} (hk6 : ∀ (u1 : Int32) (u2 : Int32) (u3 : Int32) (u4 : Int32) (u5 : Int32) (x : XS), k6 u1 u2 u3 u4 u5 x = some (r, z) → z j = x j) : ∀ (u1 : Int32) (u2 : Int32) (u3 : Int32) (u4 : Int32) (u5 : Int32) (x : XS), fX6_value_h175 a0 k6 u1 u2 u3 u4 u5 x = some (r, z) → z j = x j := by
  intro u1 u2 u3 u4 u5 x hf
  obtain ⟨x0, hx0⟩ : ∃ y, y = x := ⟨_, rfl⟩
  have hj : x j = x0 j := by rw [hx0]
  rw [← hx0]
  unfold fX6_value_h175 at hf
  obtain ⟨v_39, ev_39, hf⟩ := st_out hf
  exact (hk6 u1 u2 u3 u4 v_39 x hf).trans hj
theorem frbX6_value_h6 {a0 : Nat} {r : Int32} {z : XS} {j : Nat} (j0 : j ≠ 40) {k6 : Int32 → Int32 → Int32 → Int32 → Int32 → XS → Option (Int32 × XS)} (hk6 : ∀ (u1 : Int32) (u2 : Int32) (u3 : Int32) (u4 : Int32) (u5 : Int32) (x : XS), k6 u1 u2 u3 u4 u5 x = some (r, z) → z j = x j) : ∀ (u1 : Int32) (u2 : Int32) (u3 : Int32) (u4 : Int32) (u5 : Int32) (x : XS), bX6_value_h6 a0 k6 u1 u2 u3 u4 u5 x = some (r, z) → z j = x j := by
  intro u1 u2 u3 u4 u5 x hf
  obtain ⟨x0, hx0⟩ : ∃ y, y = x := ⟨_, rfl⟩
  have hj : x j = x0 j := by rw [hx0]
  rw [← hx0]
  unfold bX6_value_h6 at hf
  rcases if_out hf with ⟨c_1, hf⟩ | ⟨c_1, hf⟩
  · skip
    rcases if_out hf with ⟨c_2, hf⟩ | ⟨c_2, hf⟩
    · skip
      rw [so_out hf]
      exact hj
    · skip
      obtain ⟨gg_3, hf⟩ := gd_out hf
      have ngg_3 := inb_lt gg_3
      rw [so_out hf]
      exact hj
  · skip
    obtain ⟨gg_4, hf⟩ := gd_out hf
    have ngg_4 := inb_lt gg_4
    obtain ⟨v_5, ev_5, hf⟩ := st_out hf
    rcases if_outN hf with ⟨c_6, hf⟩ | ⟨c_6, hf⟩
    · skip
      rcases if_out hf with ⟨c_7, hf⟩ | ⟨c_7, hf⟩
      · skip
        rcases if_out hf with ⟨c_8, hf⟩ | ⟨c_8, hf⟩
        · skip
          exact (frX6_value_h175 j0 hk6 u1 u2 u3 u4 u5 x hf).trans hj
        · skip
          rcases if_out hf with ⟨c_9, hf⟩ | ⟨c_9, hf⟩
          · skip
            rcases if_outN hf with ⟨c_10, hf⟩ | ⟨c_10, hf⟩
            · skip
              rcases if_outN hf with ⟨c_11, hf⟩ | ⟨c_11, hf⟩
              · skip
                obtain ⟨gg_12, hf⟩ := gd_out hf
                have ngg_12 := inb_lt gg_12
                obtain ⟨x_13, ex_13, hf⟩ := st_out hf
                replace hj : x_13 j = x0 j := (show x_13 j = x j by rw [ex_13]; exact wr_ne (by omega)).trans hj
                obtain ⟨v_14, ev_14, hf⟩ := st_out hf
                exact (frX6_value_h175 j0 hk6 u1 u2 u3 v_14 u5 x_13 hf).trans hj
              · skip
                obtain ⟨gg_15, hf⟩ := gd_out hf
                have ngg_15 := inb_lt gg_15
                obtain ⟨x_16, ex_16, hf⟩ := st_out hf
                replace hj : x_16 j = x0 j := (show x_16 j = x j by rw [ex_16]; exact wr_ne (by omega)).trans hj
                obtain ⟨v_17, ev_17, hf⟩ := st_out hf
                exact (frX6_value_h175 j0 hk6 u1 u2 u3 v_17 u5 x_16 hf).trans hj
            · skip
              obtain ⟨gg_18, hf⟩ := gd_out hf
              have ngg_18 := inb_lt gg_18
              obtain ⟨x_19, ex_19, hf⟩ := st_out hf
              replace hj : x_19 j = x0 j := (show x_19 j = x j by rw [ex_19]; exact wr_ne (by omega)).trans hj
              obtain ⟨v_20, ev_20, hf⟩ := st_out hf
              exact (frX6_value_h175 j0 hk6 u1 u2 u3 v_20 u5 x_19 hf).trans hj
          · skip
            obtain ⟨gg_21, hf⟩ := gd_out hf
            have ngg_21 := inb_lt gg_21
            obtain ⟨x_22, ex_22, hf⟩ := st_out hf
            replace hj : x_22 j = x0 j := (show x_22 j = x j by rw [ex_22]; exact wr_ne (by omega)).trans hj
            obtain ⟨v_23, ev_23, hf⟩ := st_out hf
            exact (frX6_value_h175 j0 hk6 u1 u2 u3 v_23 u5 x_22 hf).trans hj
      · skip
        rcases if_out hf with ⟨c_24, hf⟩ | ⟨c_24, hf⟩
        · skip
          exact (frX6_value_h175 j0 hk6 u1 u2 u3 u4 u5 x hf).trans hj
        · skip
          obtain ⟨gg_25, hf⟩ := gd_out hf
          have ngg_25 := inb_lt gg_25
          obtain ⟨gg_26, hf⟩ := gd_out hf
          have ngg_26 := inb_lt gg_26
          obtain ⟨r_27, x_28, qr_27, hf⟩ := bd_out hf
          replace hj : x_28 j = x0 j := (frX6_joined  qr_27).trans hj
          obtain ⟨gg_29, hf⟩ := gd_out hf
          have ngg_29 := inb_lt gg_29
          obtain ⟨x_30, ex_30, hf⟩ := st_out hf
          replace hj : x_30 j = x0 j := (show x_30 j = x_28 j by rw [ex_30]; exact wr_ne (by omega)).trans hj
          obtain ⟨v_31, ev_31, hf⟩ := st_out hf
          exact (frX6_value_h175 j0 hk6 u1 u2 u3 v_31 u5 x_30 hf).trans hj
    · skip
      rcases if_out hf with ⟨c_32, hf⟩ | ⟨c_32, hf⟩
      · skip
        exact (frX6_value_h175 j0 hk6 u1 u2 u3 u4 u5 x hf).trans hj
      · skip
        obtain ⟨gg_33, hf⟩ := gd_out hf
        have ngg_33 := inb_lt gg_33
        rcases if_outN hf with ⟨c_34, hf⟩ | ⟨c_34, hf⟩
        · skip
          obtain ⟨gg_35, hf⟩ := gd_out hf
          have ngg_35 := inb_lt gg_35
          obtain ⟨x_36, ex_36, hf⟩ := st_out hf
          replace hj : x_36 j = x0 j := (show x_36 j = x j by rw [ex_36]; exact wr_ne (by omega)).trans hj
          exact (frX6_value_h175 j0 hk6 u1 u2 u3 u4 u5 x_36 hf).trans hj
        · skip
          obtain ⟨gg_37, hf⟩ := gd_out hf
          have ngg_37 := inb_lt gg_37
          obtain ⟨x_38, ex_38, hf⟩ := st_out hf
          replace hj : x_38 j = x0 j := (show x_38 j = x j by rw [ex_38]; exact wr_ne (by omega)).trans hj
          exact (frX6_value_h175 j0 hk6 u1 u2 u3 u4 u5 x_38 hf).trans hj
theorem frlX6_value_h6 {a0 : Nat} {r : Int32} {z : XS} {j : Nat} (j0 : j ≠ 40) (n : Nat) : ∀ (u1 : Int32) (u2 : Int32) (u3 : Int32) (u4 : Int32) (u5 : Int32) (x : XS), lX6_value_h6 a0 n u1 u2 u3 u4 u5 x = some (r, z) → z j = x j := by
  induction n with
  | zero => intro u1 u2 u3 u4 u5 x hf; exact absurd hf (by intro q; cases q)
  | succ n ih => exact frbX6_value_h6 j0 ih
theorem frX6_value_h6 {a0 : Nat} {r : Int32} {z : XS} {j : Nat} (j0 : j ≠ 40) : ∀ (u1 : Int32) (u2 : Int32) (u3 : Int32) (u4 : Int32) (u5 : Int32) (x : XS), fX6_value_h6 a0 u1 u2 u3 u4 u5 x = some (r, z) → z j = x j := frlX6_value_h6 j0 FU
theorem frX6_value {a0 : Nat} {v1 : Int32} {v2 : Int32} {v3 : Int32} {j : Nat} (j0 : j ≠ 40) {x z : XS} {r : Int32} (hf : fX6_value a0 v1 v2 v3 x = some (r, z)) : z j = x j := by
  obtain ⟨x0, hx0⟩ : ∃ y, y = x := ⟨_, rfl⟩
  have hj : x j = x0 j := by rw [hx0]
  rw [← hx0]
  unfold fX6_value at hf
  exact (frX6_value_h6 j0 v1 v2 v3 0 0 x hf).trans hj
theorem frX4_shineOf_h67 {a0 : Nat} {a1 : Nat} {r : Int32} {z : XS} {j : Nat} (j0 : j ≠ 40) : ∀ (u2 : Int32) (s0 : Int32) (x : XS), fX4_shineOf_h67 a0 a1 u2 s0 x = some (r, z) → z j = x j := by
  intro u2 s0 x hf
  obtain ⟨x0, hx0⟩ : ∃ y, y = x := ⟨_, rfl⟩
  have hj : x j = x0 j := by rw [hx0]
  rw [← hx0]
  unfold fX4_shineOf_h67 at hf
  obtain ⟨v_10, ev_10, hf⟩ := st_out hf
  obtain ⟨v_11, ev_11, hf⟩ := st_out hf
  obtain ⟨r_12, x_13, qr_12, hf⟩ := bd_out hf
  replace hj : x_13 j = x0 j := (frX1_shineFrom  qr_12).trans hj
  rw [so_out hf]
  exact hj
theorem frX4_shineOf_h30 {a0 : Nat} {a1 : Nat} {r : Int32} {z : XS} {j : Nat} (j0 : j ≠ 40) : ∀ (u2 : Int32) (u4 : Int32) (s0 : Int32) (x : XS), fX4_shineOf_h30 a0 a1 u2 u4 s0 x = some (r, z) → z j = x j := by
  intro u2 u4 s0 x hf
  obtain ⟨x0, hx0⟩ : ∃ y, y = x := ⟨_, rfl⟩
  have hj : x j = x0 j := by rw [hx0]
  rw [← hx0]
  unfold fX4_shineOf_h30 at hf
  obtain ⟨r_3, x_4, qr_3, hf⟩ := bd_out hf
  replace hj : x_4 j = x0 j := (frX4_law  qr_3).trans hj
  rcases if_outN hf with ⟨c_5, hf⟩ | ⟨c_5, hf⟩
  · skip
    obtain ⟨glc_5, hf⟩ := gd_out hf
    obtain ⟨r_6, x_7, qr_6, hf⟩ := bd_out hf
    replace hj : x_7 j = x0 j := (frX6_value (by omega) qr_6).trans hj
    exact (frX4_shineOf_h67 j0 u2 r_6 x_7 hf).trans hj
  · skip
    obtain ⟨r_8, x_9, qr_8, hf⟩ := bd_out hf
    replace hj : x_9 j = x0 j := (frX4_bareShine  qr_8).trans hj
    exact (frX4_shineOf_h67 j0 u2 r_8 x_9 hf).trans hj
theorem frX4_shineOf_h15 {a0 : Nat} {a1 : Nat} {r : Int32} {z : XS} {j : Nat} (j0 : j ≠ 40) : ∀ (u2 : Int32) (u3 : Int32) (s0 : Int32) (x : XS), fX4_shineOf_h15 a0 a1 u2 u3 s0 x = some (r, z) → z j = x j := by
  intro u2 u3 s0 x hf
  obtain ⟨x0, hx0⟩ : ∃ y, y = x := ⟨_, rfl⟩
  have hj : x j = x0 j := by rw [hx0]
  rw [← hx0]
  unfold fX4_shineOf_h15 at hf
  rcases if_outN hf with ⟨c_2, hf⟩ | ⟨c_2, hf⟩
  · skip
    exact (frX4_shineOf_h30 j0 u2 s0 u3 x hf).trans hj
  · skip
    exact (frX4_shineOf_h30 j0 u2 s0 0 x hf).trans hj
theorem frX4_shineOf {a0 : Nat} {a1 : Nat} {v2 : Int32} {v3 : Int32} {j : Nat} (j0 : j ≠ 40) {x z : XS} {r : Int32} (hf : fX4_shineOf a0 a1 v2 v3 x = some (r, z)) : z j = x j := by
  obtain ⟨x0, hx0⟩ : ∃ y, y = x := ⟨_, rfl⟩
  have hj : x j = x0 j := by rw [hx0]
  rw [← hx0]
  unfold fX4_shineOf at hf
  rcases if_outN hf with ⟨c_1, hf⟩ | ⟨c_1, hf⟩
  · skip
    exact (frX4_shineOf_h15 j0 v2 v3 v2 x hf).trans hj
  · skip
    exact (frX4_shineOf_h15 j0 v2 v3 (2 * v2) x hf).trans hj
theorem frX4_chosenBoy_h107 {a0 : Nat} {r : Int32} {z : XS} {j : Nat}  {k8 : Int32 → Int32 → Int32 → Int32 → Int32 → XS → Option (Int32 × XS)} (hk8 : ∀ (u1 : Int32) (u2 : Int32) (u3 : Int32) (u4 : Int32) (u5 : Int32) (x : XS), k8 u1 u2 u3 u4 u5 x = some (r, z) → z j = x j) : ∀ (u1 : Int32) (u2 : Int32) (u3 : Int32) (u4 : Int32) (u5 : Int32) (x : XS), fX4_chosenBoy_h107 a0 k8 u1 u2 u3 u4 u5 x = some (r, z) → z j = x j := by
  intro u1 u2 u3 u4 u5 x hf
  obtain ⟨x0, hx0⟩ : ∃ y, y = x := ⟨_, rfl⟩
  have hj : x j = x0 j := by rw [hx0]
  rw [← hx0]
  unfold fX4_chosenBoy_h107 at hf
  obtain ⟨v_14, ev_14, hf⟩ := st_out hf
  exact (hk8 u1 u2 u3 u4 v_14 x hf).trans hj
theorem frbX4_chosenBoy_h8 {a0 : Nat} {r : Int32} {z : XS} {j : Nat}  {k8 : Int32 → Int32 → Int32 → Int32 → Int32 → XS → Option (Int32 × XS)} (hk8 : ∀ (u1 : Int32) (u2 : Int32) (u3 : Int32) (u4 : Int32) (u5 : Int32) (x : XS), k8 u1 u2 u3 u4 u5 x = some (r, z) → z j = x j) : ∀ (u1 : Int32) (u2 : Int32) (u3 : Int32) (u4 : Int32) (u5 : Int32) (x : XS), bX4_chosenBoy_h8 a0 k8 u1 u2 u3 u4 u5 x = some (r, z) → z j = x j := by
  intro u1 u2 u3 u4 u5 x hf
  obtain ⟨x0, hx0⟩ : ∃ y, y = x := ⟨_, rfl⟩
  have hj : x j = x0 j := by rw [hx0]
  rw [← hx0]
  unfold bX4_chosenBoy_h8 at hf
  rcases if_out hf with ⟨c_1, hf⟩ | ⟨c_1, hf⟩
  · skip
    rw [so_out hf]
    exact hj
  · skip
    obtain ⟨gg_2, hf⟩ := gd_out hf
    have ngg_2 := inb_lt gg_2
    rcases if_out hf with ⟨c_3, hf⟩ | ⟨c_3, hf⟩
    · skip
      exact (frX4_chosenBoy_h107 hk8 u1 u2 u3 u4 u5 x hf).trans hj
    · skip
      rcases if_out hf with ⟨c_4, hf⟩ | ⟨c_4, hf⟩
      · skip
        exact (frX4_chosenBoy_h107 hk8 u1 u2 u3 u4 u5 x hf).trans hj
      · skip
        obtain ⟨r_5, x_6, qr_5, hf⟩ := bd_out hf
        replace hj : x_6 j = x0 j := (frX1_takes  qr_5).trans hj
        rcases if_out hf with ⟨c_7, hf⟩ | ⟨c_7, hf⟩
        · skip
          obtain ⟨r_8, x_9, qr_8, hf⟩ := bd_out hf
          replace hj : x_9 j = x0 j := (frX1_asks  qr_8).trans hj
          obtain ⟨v_10, ev_10, hf⟩ := st_out hf
          obtain ⟨v_11, ev_11, hf⟩ := st_out hf
          rcases if_out hf with ⟨c_12, hf⟩ | ⟨c_12, hf⟩
          · skip
            exact (frX4_chosenBoy_h107 hk8 u1 u2 u5 v_11 u5 x_9 hf).trans hj
          · skip
            rcases if_out hf with ⟨c_13, hf⟩ | ⟨c_13, hf⟩
            · skip
              exact (frX4_chosenBoy_h107 hk8 u1 u2 u3 u4 u5 x_9 hf).trans hj
            · skip
              exact (frX4_chosenBoy_h107 hk8 u1 u2 u5 v_11 u5 x_9 hf).trans hj
        · skip
          exact (frX4_chosenBoy_h107 hk8 u1 u2 u3 u4 u5 x_6 hf).trans hj
theorem frlX4_chosenBoy_h8 {a0 : Nat} {r : Int32} {z : XS} {j : Nat}  (n : Nat) : ∀ (u1 : Int32) (u2 : Int32) (u3 : Int32) (u4 : Int32) (u5 : Int32) (x : XS), lX4_chosenBoy_h8 a0 n u1 u2 u3 u4 u5 x = some (r, z) → z j = x j := by
  induction n with
  | zero => intro u1 u2 u3 u4 u5 x hf; exact absurd hf (by intro q; cases q)
  | succ n ih => exact frbX4_chosenBoy_h8  ih
theorem frX4_chosenBoy_h8 {a0 : Nat} {r : Int32} {z : XS} {j : Nat}  : ∀ (u1 : Int32) (u2 : Int32) (u3 : Int32) (u4 : Int32) (u5 : Int32) (x : XS), fX4_chosenBoy_h8 a0 u1 u2 u3 u4 u5 x = some (r, z) → z j = x j := frlX4_chosenBoy_h8  FU
theorem frX4_chosenBoy {a0 : Nat} {v1 : Int32} {v2 : Int32} {j : Nat}  {x z : XS} {r : Int32} (hf : fX4_chosenBoy a0 v1 v2 x = some (r, z)) : z j = x j := by
  obtain ⟨x0, hx0⟩ : ∃ y, y = x := ⟨_, rfl⟩
  have hj : x j = x0 j := by rw [hx0]
  rw [← hx0]
  unfold fX4_chosenBoy at hf
  exact (frX4_chosenBoy_h8 v1 v2 (-1) 0 0 x hf).trans hj
theorem roX4_chosenBoy {a0 : Nat} {v1 : Int32} {v2 : Int32} {x z : XS} {r : Int32} (hf : fX4_chosenBoy a0 v1 v2 x = some (r, z)) : z = x := funext fun j => frX4_chosenBoy (j := j) hf
theorem frX4_paidTo {a0 : Nat} {v1 : Int32} {j : Nat}  {x z : XS} {r : Int32} (hf : fX4_paidTo a0 v1 x = some (r, z)) : z j = x j := by
  obtain ⟨x0, hx0⟩ : ∃ y, y = x := ⟨_, rfl⟩
  have hj : x j = x0 j := by rw [hx0]
  rw [← hx0]
  unfold fX4_paidTo at hf
  rcases if_out hf with ⟨c_1, hf⟩ | ⟨c_1, hf⟩
  · skip
    obtain ⟨r_2, x_3, qr_2, hf⟩ := bd_out hf
    replace hj : x_3 j = x0 j := (frX1_asks  qr_2).trans hj
    rcases if_out hf with ⟨c_4, hf⟩ | ⟨c_4, hf⟩
    · skip
      rw [so_out hf]
      exact hj
    · skip
      rw [so_out hf]
      exact hj
  · skip
    rw [so_out hf]
    exact hj
theorem roX4_paidTo {a0 : Nat} {v1 : Int32} {x z : XS} {r : Int32} (hf : fX4_paidTo a0 v1 x = some (r, z)) : z = x := funext fun j => frX4_paidTo (j := j) hf
theorem frX4_receiveMan {a0 : Nat} {j : Nat} (j0 : j < (a0 + 3) ∨ (a0 + 11) ≤ j) (j1 : j ≠ a0) (j2 : j ≠ 40) {x z : XS} {r : Int32} (hf : fX4_receiveMan a0 x = some (r, z)) : z j = x j := by
  obtain ⟨x0, hx0⟩ : ∃ y, y = x := ⟨_, rfl⟩
  have hj : x j = x0 j := by rw [hx0]
  rw [← hx0]
  unfold fX4_receiveMan at hf
  obtain ⟨r_1, x_2, qr_1, hf⟩ := bd_out hf
  replace hj : x_2 j = x0 j := (frX4_draw (by omega) qr_1).trans hj
  obtain ⟨v_3, ev_3, hf⟩ := st_out hf
  obtain ⟨r_4, x_5, qr_4, hf⟩ := bd_out hf
  replace hj : x_5 j = x0 j := (frX4_draw (by omega) qr_4).trans hj
  obtain ⟨v_6, ev_6, hf⟩ := st_out hf
  obtain ⟨r_7, x_8, qr_7, hf⟩ := bd_out hf
  replace hj : x_8 j = x0 j := (frX4_draw (by omega) qr_7).trans hj
  obtain ⟨v_9, ev_9, hf⟩ := st_out hf
  obtain ⟨v_10, ev_10, hf⟩ := st_out hf
  obtain ⟨r_11, x_12, qr_11, hf⟩ := bd_out hf
  replace hj : x_12 j = x0 j := (frX4_chosenBoy  qr_11).trans hj
  rcases if_out hf with ⟨c_13, hf⟩ | ⟨c_13, hf⟩
  · skip
    obtain ⟨gg_14, hf⟩ := gd_out hf
    have ngg_14 := inb_lt gg_14
    obtain ⟨r_15, x_16, qr_15, hf⟩ := bd_out hf
    replace hj : x_16 j = x0 j := (frX1_takes  qr_15).trans hj
    obtain ⟨x_17, ex_17, hf⟩ := st_out hf
    replace hj : x_17 j = x0 j := (show x_17 j = x_16 j by rw [ex_17]; exact wr_ne (by omega)).trans hj
    obtain ⟨x_18, ex_18, hf⟩ := st_out hf
    replace hj : x_18 j = x0 j := (show x_18 j = x_17 j by rw [ex_18]; exact wr_ne (by omega)).trans hj
    obtain ⟨r_19, x_20, qr_19, hf⟩ := bd_out hf
    replace hj : x_20 j = x0 j := (frX4_shineOf (by omega) qr_19).trans hj
    obtain ⟨r_21, x_22, qr_21, hf⟩ := bd_out hf
    replace hj : x_22 j = x0 j := (frX4_paidTo  qr_21).trans hj
    obtain ⟨v_23, ev_23, hf⟩ := st_out hf
    obtain ⟨x_24, ex_24, hf⟩ := st_out hf
    replace hj : x_24 j = x0 j := (show x_24 j = x_22 j by rw [ex_24]; exact wr_ne (by omega)).trans hj
    obtain ⟨x_25, ex_25, hf⟩ := st_out hf
    replace hj : x_25 j = x0 j := (show x_25 j = x_24 j by rw [ex_25]; exact wr_ne (by omega)).trans hj
    rw [so_out hf]
    exact hj
  · skip
    obtain ⟨x_26, ex_26, hf⟩ := st_out hf
    replace hj : x_26 j = x0 j := (show x_26 j = x_12 j by rw [ex_26]; exact wr_ne (by omega)).trans hj
    rw [so_out hf]
    exact hj
theorem frbX4_passMinute_h109 {a0 : Nat} {r : Int32} {z : XS} {j : Nat} (j0 : j ≠ a0) (j1 : j < (a0 + 3) ∨ (a0 + 11) ≤ j) (j2 : j ≠ 40) {k109 : Int32 → Int32 → Int32 → XS → Option (Int32 × XS)} (hk109 : ∀ (u2 : Int32) (u3 : Int32) (u4 : Int32) (x : XS), k109 u2 u3 u4 x = some (r, z) → z j = x j) : ∀ (u2 : Int32) (u3 : Int32) (u4 : Int32) (x : XS), bX4_passMinute_h109 a0 k109 u2 u3 u4 x = some (r, z) → z j = x j := by
  intro u2 u3 u4 x hf
  obtain ⟨x0, hx0⟩ : ∃ y, y = x := ⟨_, rfl⟩
  have hj : x j = x0 j := by rw [hx0]
  rw [← hx0]
  unfold bX4_passMinute_h109 at hf
  rcases if_out hf with ⟨c_22, hf⟩ | ⟨c_22, hf⟩
  · skip
    obtain ⟨x_23, ex_23, hf⟩ := st_out hf
    replace hj : x_23 j = x0 j := (show x_23 j = x j by rw [ex_23]; exact wr_ne (by omega)).trans hj
    rw [so_out hf]
    exact hj
  · skip
    obtain ⟨r_24, x_25, qr_24, hf⟩ := bd_out hf
    replace hj : x_25 j = x0 j := (frX4_receiveMan (by omega) (by omega) (by omega) qr_24).trans hj
    obtain ⟨v_26, ev_26, hf⟩ := st_out hf
    obtain ⟨v_27, ev_27, hf⟩ := st_out hf
    exact (hk109 u2 v_26 v_27 x_25 hf).trans hj
theorem frlX4_passMinute_h109 {a0 : Nat} {r : Int32} {z : XS} {j : Nat} (j0 : j ≠ a0) (j1 : j < (a0 + 3) ∨ (a0 + 11) ≤ j) (j2 : j ≠ 40) (n : Nat) : ∀ (u2 : Int32) (u3 : Int32) (u4 : Int32) (x : XS), lX4_passMinute_h109 a0 n u2 u3 u4 x = some (r, z) → z j = x j := by
  induction n with
  | zero => intro u2 u3 u4 x hf; exact absurd hf (by intro q; cases q)
  | succ n ih => exact frbX4_passMinute_h109 j0 j1 j2 ih
theorem frX4_passMinute_h109 {a0 : Nat} {r : Int32} {z : XS} {j : Nat} (j0 : j ≠ a0) (j1 : j < (a0 + 3) ∨ (a0 + 11) ≤ j) (j2 : j ≠ 40) : ∀ (u2 : Int32) (u3 : Int32) (u4 : Int32) (x : XS), fX4_passMinute_h109 a0 u2 u3 u4 x = some (r, z) → z j = x j := frlX4_passMinute_h109 j0 j1 j2 FU
theorem frX4_passMinute_h104 {a0 : Nat} {r : Int32} {z : XS} {j : Nat} (j0 : j ≠ a0) (j1 : j < (a0 + 3) ∨ (a0 + 11) ≤ j) (j2 : j ≠ 40) : ∀ (u2 : Int32) (x : XS), fX4_passMinute_h104 a0 u2 x = some (r, z) → z j = x j := by
  intro u2 x hf
  obtain ⟨x0, hx0⟩ : ∃ y, y = x := ⟨_, rfl⟩
  have hj : x j = x0 j := by rw [hx0]
  rw [← hx0]
  unfold fX4_passMinute_h104 at hf
  exact (frX4_passMinute_h109 j0 j1 j2 u2 0 0 x hf).trans hj
theorem frX4_passMinute_h78 {a0 : Nat} {r : Int32} {z : XS} {j : Nat} (j0 : j ≠ a0) (j1 : j < (a0 + 3) ∨ (a0 + 11) ≤ j) (j2 : j ≠ 40) : ∀ (u1 : Int32) (x : XS), fX4_passMinute_h78 a0 u1 x = some (r, z) → z j = x j := by
  intro u1 x hf
  obtain ⟨x0, hx0⟩ : ∃ y, y = x := ⟨_, rfl⟩
  have hj : x j = x0 j := by rw [hx0]
  rw [← hx0]
  unfold fX4_passMinute_h78 at hf
  obtain ⟨r_16, x_17, qr_16, hf⟩ := bd_out hf
  replace hj : x_17 j = x0 j := (frX4_draw (by omega) qr_16).trans hj
  obtain ⟨v_18, ev_18, hf⟩ := st_out hf
  rcases if_out hf with ⟨c_19, hf⟩ | ⟨c_19, hf⟩
  · skip
    rcases if_out hf with ⟨c_20, hf⟩ | ⟨c_20, hf⟩
    · skip
      exact (frX4_passMinute_h104 j0 j1 j2 v_18 x_17 hf).trans hj
    · skip
      obtain ⟨v_21, ev_21, hf⟩ := st_out hf
      exact (frX4_passMinute_h104 j0 j1 j2 v_21 x_17 hf).trans hj
  · skip
    exact (frX4_passMinute_h104 j0 j1 j2 0 x_17 hf).trans hj
theorem frbX4_passMinute_h2 {a0 : Nat} {r : Int32} {z : XS} {j : Nat} (j0 : j ≠ a0) (j1 : j < (a0 + 3) ∨ (a0 + 11) ≤ j) (j2 : j ≠ 40) {k2 : Int32 → XS → Option (Int32 × XS)} (hk2 : ∀ (u1 : Int32) (x : XS), k2 u1 x = some (r, z) → z j = x j) : ∀ (u1 : Int32) (x : XS), bX4_passMinute_h2 a0 k2 u1 x = some (r, z) → z j = x j := by
  intro u1 x hf
  obtain ⟨x0, hx0⟩ : ∃ y, y = x := ⟨_, rfl⟩
  have hj : x j = x0 j := by rw [hx0]
  rw [← hx0]
  unfold bX4_passMinute_h2 at hf
  rcases if_out hf with ⟨c_1, hf⟩ | ⟨c_1, hf⟩
  · skip
    obtain ⟨v_2, ev_2, hf⟩ := st_out hf
    obtain ⟨r_3, x_4, qr_3, hf⟩ := bd_out hf
    replace hj : x_4 j = x0 j := (frX4_draw (by omega) qr_3).trans hj
    obtain ⟨v_5, ev_5, hf⟩ := st_out hf
    rcases if_out hf with ⟨c_6, hf⟩ | ⟨c_6, hf⟩
    · skip
      exact (frX4_passMinute_h78 j0 j1 j2 v_2 x_4 hf).trans hj
    · skip
      rcases if_outN hf with ⟨c_7, hf⟩ | ⟨c_7, hf⟩
      · skip
        obtain ⟨x_8, ex_8, hf⟩ := st_out hf
        replace hj : x_8 j = x0 j := (show x_8 j = x_4 j by rw [ex_8]; exact wr_ne (by omega)).trans hj
        exact (frX4_passMinute_h78 j0 j1 j2 v_2 x_8 hf).trans hj
      · skip
        obtain ⟨x_9, ex_9, hf⟩ := st_out hf
        replace hj : x_9 j = x0 j := (show x_9 j = x_4 j by rw [ex_9]; exact wr_ne (by omega)).trans hj
        exact (frX4_passMinute_h78 j0 j1 j2 v_2 x_9 hf).trans hj
  · skip
    obtain ⟨gg_10, hf⟩ := gd_out hf
    have ngg_10 := inb_lt gg_10
    rcases if_out hf with ⟨c_11, hf⟩ | ⟨c_11, hf⟩
    · skip
      obtain ⟨v_12, ev_12, hf⟩ := st_out hf
      exact (hk2 v_12 x hf).trans hj
    · skip
      obtain ⟨gg_13, hf⟩ := gd_out hf
      have ngg_13 := inb_lt gg_13
      obtain ⟨x_14, ex_14, hf⟩ := st_out hf
      replace hj : x_14 j = x0 j := (show x_14 j = x j by rw [ex_14]; exact wr_ne (by omega)).trans hj
      obtain ⟨v_15, ev_15, hf⟩ := st_out hf
      exact (hk2 v_15 x_14 hf).trans hj
theorem frlX4_passMinute_h2 {a0 : Nat} {r : Int32} {z : XS} {j : Nat} (j0 : j ≠ a0) (j1 : j < (a0 + 3) ∨ (a0 + 11) ≤ j) (j2 : j ≠ 40) (n : Nat) : ∀ (u1 : Int32) (x : XS), lX4_passMinute_h2 a0 n u1 x = some (r, z) → z j = x j := by
  induction n with
  | zero => intro u1 x hf; exact absurd hf (by intro q; cases q)
  | succ n ih => exact frbX4_passMinute_h2 j0 j1 j2 ih
theorem frX4_passMinute_h2 {a0 : Nat} {r : Int32} {z : XS} {j : Nat} (j0 : j ≠ a0) (j1 : j < (a0 + 3) ∨ (a0 + 11) ≤ j) (j2 : j ≠ 40) : ∀ (u1 : Int32) (x : XS), fX4_passMinute_h2 a0 u1 x = some (r, z) → z j = x j := frlX4_passMinute_h2 j0 j1 j2 FU
theorem frX4_passMinute {a0 : Nat} {j : Nat} (j0 : j ≠ a0) (j1 : j < (a0 + 3) ∨ (a0 + 11) ≤ j) (j2 : j ≠ 40) {x z : XS} {r : Int32} (hf : fX4_passMinute a0 x = some (r, z)) : z j = x j := by
  obtain ⟨x0, hx0⟩ : ∃ y, y = x := ⟨_, rfl⟩
  have hj : x j = x0 j := by rw [hx0]
  rw [← hx0]
  unfold fX4_passMinute at hf
  exact (frX4_passMinute_h2 j0 j1 j2 0 x hf).trans hj
theorem frbX4_passMinutes_h4 {a0 : Nat} {r : Int32} {z : XS} {j : Nat} (j0 : j ≠ a0) (j1 : j < (a0 + 3) ∨ (a0 + 11) ≤ j) (j2 : j ≠ 40) {k4 : Int32 → Int32 → Int32 → XS → Option (Int32 × XS)} (hk4 : ∀ (u1 : Int32) (u2 : Int32) (u3 : Int32) (x : XS), k4 u1 u2 u3 x = some (r, z) → z j = x j) : ∀ (u1 : Int32) (u2 : Int32) (u3 : Int32) (x : XS), bX4_passMinutes_h4 a0 k4 u1 u2 u3 x = some (r, z) → z j = x j := by
  intro u1 u2 u3 x hf
  obtain ⟨x0, hx0⟩ : ∃ y, y = x := ⟨_, rfl⟩
  have hj : x j = x0 j := by rw [hx0]
  rw [← hx0]
  unfold bX4_passMinutes_h4 at hf
  rcases if_out hf with ⟨c_1, hf⟩ | ⟨c_1, hf⟩
  · skip
    rw [so_out hf]
    exact hj
  · skip
    obtain ⟨r_2, x_3, qr_2, hf⟩ := bd_out hf
    replace hj : x_3 j = x0 j := (frX4_passMinute (by omega) (by omega) (by omega) qr_2).trans hj
    obtain ⟨v_4, ev_4, hf⟩ := st_out hf
    obtain ⟨v_5, ev_5, hf⟩ := st_out hf
    exact (hk4 u1 v_4 v_5 x_3 hf).trans hj
theorem frlX4_passMinutes_h4 {a0 : Nat} {r : Int32} {z : XS} {j : Nat} (j0 : j ≠ a0) (j1 : j < (a0 + 3) ∨ (a0 + 11) ≤ j) (j2 : j ≠ 40) (n : Nat) : ∀ (u1 : Int32) (u2 : Int32) (u3 : Int32) (x : XS), lX4_passMinutes_h4 a0 n u1 u2 u3 x = some (r, z) → z j = x j := by
  induction n with
  | zero => intro u1 u2 u3 x hf; exact absurd hf (by intro q; cases q)
  | succ n ih => exact frbX4_passMinutes_h4 j0 j1 j2 ih
theorem frX4_passMinutes_h4 {a0 : Nat} {r : Int32} {z : XS} {j : Nat} (j0 : j ≠ a0) (j1 : j < (a0 + 3) ∨ (a0 + 11) ≤ j) (j2 : j ≠ 40) : ∀ (u1 : Int32) (u2 : Int32) (u3 : Int32) (x : XS), fX4_passMinutes_h4 a0 u1 u2 u3 x = some (r, z) → z j = x j := frlX4_passMinutes_h4 j0 j1 j2 FU
theorem frX4_passMinutes {a0 : Nat} {v1 : Int32} {j : Nat} (j0 : j ≠ a0) (j1 : j < (a0 + 3) ∨ (a0 + 11) ≤ j) (j2 : j ≠ 40) {x z : XS} {r : Int32} (hf : fX4_passMinutes a0 v1 x = some (r, z)) : z j = x j := by
  obtain ⟨x0, hx0⟩ : ∃ y, y = x := ⟨_, rfl⟩
  have hj : x j = x0 j := by rw [hx0]
  rw [← hx0]
  unfold fX4_passMinutes at hf
  exact (frX4_passMinutes_h4 j0 j1 j2 v1 0 0 x hf).trans hj
theorem frbX4_purses_h4 {a0 : Nat} {r : Int32} {z : XS} {j : Nat}  {k4 : Int32 → Int32 → XS → Option (Int32 × XS)} (hk4 : ∀ (u1 : Int32) (u2 : Int32) (x : XS), k4 u1 u2 x = some (r, z) → z j = x j) : ∀ (u1 : Int32) (u2 : Int32) (x : XS), bX4_purses_h4 a0 k4 u1 u2 x = some (r, z) → z j = x j := by
  intro u1 u2 x hf
  obtain ⟨x0, hx0⟩ : ∃ y, y = x := ⟨_, rfl⟩
  have hj : x j = x0 j := by rw [hx0]
  rw [← hx0]
  unfold bX4_purses_h4 at hf
  rcases if_out hf with ⟨c_1, hf⟩ | ⟨c_1, hf⟩
  · skip
    rw [so_out hf]
    exact hj
  · skip
    obtain ⟨gg_2, hf⟩ := gd_out hf
    have ngg_2 := inb_lt gg_2
    obtain ⟨v_3, ev_3, hf⟩ := st_out hf
    obtain ⟨v_4, ev_4, hf⟩ := st_out hf
    exact (hk4 v_3 v_4 x hf).trans hj
theorem frlX4_purses_h4 {a0 : Nat} {r : Int32} {z : XS} {j : Nat}  (n : Nat) : ∀ (u1 : Int32) (u2 : Int32) (x : XS), lX4_purses_h4 a0 n u1 u2 x = some (r, z) → z j = x j := by
  induction n with
  | zero => intro u1 u2 x hf; exact absurd hf (by intro q; cases q)
  | succ n ih => exact frbX4_purses_h4  ih
theorem frX4_purses_h4 {a0 : Nat} {r : Int32} {z : XS} {j : Nat}  : ∀ (u1 : Int32) (u2 : Int32) (x : XS), fX4_purses_h4 a0 u1 u2 x = some (r, z) → z j = x j := frlX4_purses_h4  FU
theorem frX4_purses {a0 : Nat} {j : Nat}  {x z : XS} {r : Int32} (hf : fX4_purses a0 x = some (r, z)) : z j = x j := by
  obtain ⟨x0, hx0⟩ : ∃ y, y = x := ⟨_, rfl⟩
  have hj : x j = x0 j := by rw [hx0]
  rw [← hx0]
  unfold fX4_purses at hf
  exact (frX4_purses_h4 0 0 x hf).trans hj
theorem roX4_purses {a0 : Nat} {x z : XS} {r : Int32} (hf : fX4_purses a0 x = some (r, z)) : z = x := funext fun j => frX4_purses (j := j) hf
theorem frbX4_menDone_h4 {a0 : Nat} {r : Int32} {z : XS} {j : Nat}  {k4 : Int32 → Int32 → XS → Option (Int32 × XS)} (hk4 : ∀ (u1 : Int32) (u2 : Int32) (x : XS), k4 u1 u2 x = some (r, z) → z j = x j) : ∀ (u1 : Int32) (u2 : Int32) (x : XS), bX4_menDone_h4 a0 k4 u1 u2 x = some (r, z) → z j = x j := by
  intro u1 u2 x hf
  obtain ⟨x0, hx0⟩ : ∃ y, y = x := ⟨_, rfl⟩
  have hj : x j = x0 j := by rw [hx0]
  rw [← hx0]
  unfold bX4_menDone_h4 at hf
  rcases if_out hf with ⟨c_1, hf⟩ | ⟨c_1, hf⟩
  · skip
    rw [so_out hf]
    exact hj
  · skip
    obtain ⟨gg_2, hf⟩ := gd_out hf
    have ngg_2 := inb_lt gg_2
    obtain ⟨v_3, ev_3, hf⟩ := st_out hf
    obtain ⟨v_4, ev_4, hf⟩ := st_out hf
    exact (hk4 v_3 v_4 x hf).trans hj
theorem frlX4_menDone_h4 {a0 : Nat} {r : Int32} {z : XS} {j : Nat}  (n : Nat) : ∀ (u1 : Int32) (u2 : Int32) (x : XS), lX4_menDone_h4 a0 n u1 u2 x = some (r, z) → z j = x j := by
  induction n with
  | zero => intro u1 u2 x hf; exact absurd hf (by intro q; cases q)
  | succ n ih => exact frbX4_menDone_h4  ih
theorem frX4_menDone_h4 {a0 : Nat} {r : Int32} {z : XS} {j : Nat}  : ∀ (u1 : Int32) (u2 : Int32) (x : XS), fX4_menDone_h4 a0 u1 u2 x = some (r, z) → z j = x j := frlX4_menDone_h4  FU
theorem frX4_menDone {a0 : Nat} {j : Nat}  {x z : XS} {r : Int32} (hf : fX4_menDone a0 x = some (r, z)) : z j = x j := by
  obtain ⟨x0, hx0⟩ : ∃ y, y = x := ⟨_, rfl⟩
  have hj : x j = x0 j := by rw [hx0]
  rw [← hx0]
  unfold fX4_menDone at hf
  exact (frX4_menDone_h4 0 0 x hf).trans hj
theorem roX4_menDone {a0 : Nat} {x z : XS} {r : Int32} (hf : fX4_menDone a0 x = some (r, z)) : z = x := funext fun j => frX4_menDone (j := j) hf
theorem frbX4_busyBoys_h4 {a0 : Nat} {r : Int32} {z : XS} {j : Nat}  {k4 : Int32 → Int32 → XS → Option (Int32 × XS)} (hk4 : ∀ (u1 : Int32) (u2 : Int32) (x : XS), k4 u1 u2 x = some (r, z) → z j = x j) : ∀ (u1 : Int32) (u2 : Int32) (x : XS), bX4_busyBoys_h4 a0 k4 u1 u2 x = some (r, z) → z j = x j := by
  intro u1 u2 x hf
  obtain ⟨x0, hx0⟩ : ∃ y, y = x := ⟨_, rfl⟩
  have hj : x j = x0 j := by rw [hx0]
  rw [← hx0]
  unfold bX4_busyBoys_h4 at hf
  rcases if_out hf with ⟨c_1, hf⟩ | ⟨c_1, hf⟩
  · skip
    rw [so_out hf]
    exact hj
  · skip
    obtain ⟨gg_2, hf⟩ := gd_out hf
    have ngg_2 := inb_lt gg_2
    rcases if_out hf with ⟨c_3, hf⟩ | ⟨c_3, hf⟩
    · skip
      obtain ⟨v_4, ev_4, hf⟩ := st_out hf
      exact (hk4 u1 v_4 x hf).trans hj
    · skip
      obtain ⟨v_5, ev_5, hf⟩ := st_out hf
      obtain ⟨v_6, ev_6, hf⟩ := st_out hf
      obtain ⟨v_7, ev_7, hf⟩ := st_out hf
      exact (hk4 v_6 v_7 x hf).trans hj
theorem frlX4_busyBoys_h4 {a0 : Nat} {r : Int32} {z : XS} {j : Nat}  (n : Nat) : ∀ (u1 : Int32) (u2 : Int32) (x : XS), lX4_busyBoys_h4 a0 n u1 u2 x = some (r, z) → z j = x j := by
  induction n with
  | zero => intro u1 u2 x hf; exact absurd hf (by intro q; cases q)
  | succ n ih => exact frbX4_busyBoys_h4  ih
theorem frX4_busyBoys_h4 {a0 : Nat} {r : Int32} {z : XS} {j : Nat}  : ∀ (u1 : Int32) (u2 : Int32) (x : XS), fX4_busyBoys_h4 a0 u1 u2 x = some (r, z) → z j = x j := frlX4_busyBoys_h4  FU
theorem frX4_busyBoys {a0 : Nat} {j : Nat}  {x z : XS} {r : Int32} (hf : fX4_busyBoys a0 x = some (r, z)) : z j = x j := by
  obtain ⟨x0, hx0⟩ : ∃ y, y = x := ⟨_, rfl⟩
  have hj : x j = x0 j := by rw [hx0]
  rw [← hx0]
  unfold fX4_busyBoys at hf
  exact (frX4_busyBoys_h4 0 0 x hf).trans hj
theorem roX4_busyBoys {a0 : Nat} {x z : XS} {r : Int32} (hf : fX4_busyBoys a0 x = some (r, z)) : z = x := funext fun j => frX4_busyBoys (j := j) hf
theorem frbX5_addNumber_h3 {r : Unit} {z : XS} {j : Nat} (j0 : j ≠ 3) (j1 : j ≠ 2) {k3 : Int32 → Int32 → XS → Option (Unit × XS)} (hk3 : ∀ (u1 : Int32) (u2 : Int32) (x : XS), k3 u1 u2 x = some (r, z) → z j = x j) : ∀ (u1 : Int32) (u2 : Int32) (x : XS), bX5_addNumber_h3 k3 u1 u2 x = some (r, z) → z j = x j := by
  intro u1 u2 x hf
  obtain ⟨x0, hx0⟩ : ∃ y, y = x := ⟨_, rfl⟩
  have hj : x j = x0 j := by rw [hx0]
  rw [← hx0]
  unfold bX5_addNumber_h3 at hf
  rcases if_out hf with ⟨c_1, hf⟩ | ⟨c_1, hf⟩
  · skip
    rw [so_out hf]
    exact hj
  · skip
    rcases if_out hf with ⟨c_2, hf⟩ | ⟨c_2, hf⟩
    · skip
      obtain ⟨v_3, ev_3, hf⟩ := st_out hf
      exact (hk3 u1 v_3 x hf).trans hj
    · skip
      obtain ⟨v_4, ev_4, hf⟩ := st_out hf
      obtain ⟨v_5, ev_5, hf⟩ := st_out hf
      obtain ⟨gg_6, hf⟩ := gd_out hf
      have ngg_6 := inb_lt gg_6
      obtain ⟨x_7, ex_7, hf⟩ := st_out hf
      replace hj : x_7 j = x0 j := (show x_7 j = x j by rw [ex_7]; exact wr_ne (by omega)).trans hj
      obtain ⟨x_8, ex_8, hf⟩ := st_out hf
      replace hj : x_8 j = x0 j := (show x_8 j = x_7 j by rw [ex_8]; exact wr_ne (by omega)).trans hj
      obtain ⟨v_9, ev_9, hf⟩ := st_out hf
      exact (hk3 u1 v_9 x_8 hf).trans hj
theorem frlX5_addNumber_h3 {r : Unit} {z : XS} {j : Nat} (j0 : j ≠ 3) (j1 : j ≠ 2) (n : Nat) : ∀ (u1 : Int32) (u2 : Int32) (x : XS), lX5_addNumber_h3 n u1 u2 x = some (r, z) → z j = x j := by
  induction n with
  | zero => intro u1 u2 x hf; exact absurd hf (by intro q; cases q)
  | succ n ih => exact frbX5_addNumber_h3 j0 j1 ih
theorem frX5_addNumber_h3 {r : Unit} {z : XS} {j : Nat} (j0 : j ≠ 3) (j1 : j ≠ 2) : ∀ (u1 : Int32) (u2 : Int32) (x : XS), fX5_addNumber_h3 u1 u2 x = some (r, z) → z j = x j := frlX5_addNumber_h3 j0 j1 FU
theorem frX5_addNumber {v1 : Int32} {j : Nat} (j0 : j ≠ 3) (j1 : j ≠ 2) {x z : XS} {r : Unit} (hf : fX5_addNumber v1 x = some (r, z)) : z j = x j := by
  obtain ⟨x0, hx0⟩ : ∃ y, y = x := ⟨_, rfl⟩
  have hj : x j = x0 j := by rw [hx0]
  rw [← hx0]
  unfold fX5_addNumber at hf
  exact (frX5_addNumber_h3 j0 j1 v1 24 x hf).trans hj
theorem frX5_isLetter {v0 : Int32} {j : Nat}  {x z : XS} {r : Int32} (hf : fX5_isLetter v0 x = some (r, z)) : z j = x j := by
  obtain ⟨x0, hx0⟩ : ∃ y, y = x := ⟨_, rfl⟩
  have hj : x j = x0 j := by rw [hx0]
  rw [← hx0]
  unfold fX5_isLetter at hf
  rcases if_out hf with ⟨c_1, hf⟩ | ⟨c_1, hf⟩
  · skip
    rw [so_out hf]
    exact hj
  · skip
    rcases if_out hf with ⟨c_2, hf⟩ | ⟨c_2, hf⟩
    · skip
      rw [so_out hf]
      exact hj
    · skip
      rw [so_out hf]
      exact hj
theorem roX5_isLetter {v0 : Int32} {x z : XS} {r : Int32} (hf : fX5_isLetter v0 x = some (r, z)) : z = x := funext fun j => frX5_isLetter (j := j) hf
theorem frX5_isDigit {v0 : Int32} {j : Nat}  {x z : XS} {r : Int32} (hf : fX5_isDigit v0 x = some (r, z)) : z j = x j := by
  obtain ⟨x0, hx0⟩ : ∃ y, y = x := ⟨_, rfl⟩
  have hj : x j = x0 j := by rw [hx0]
  rw [← hx0]
  unfold fX5_isDigit at hf
  rcases if_out hf with ⟨c_1, hf⟩ | ⟨c_1, hf⟩
  · skip
    rw [so_out hf]
    exact hj
  · skip
    rcases if_out hf with ⟨c_2, hf⟩ | ⟨c_2, hf⟩
    · skip
      rw [so_out hf]
      exact hj
    · skip
      rw [so_out hf]
      exact hj
theorem roX5_isDigit {v0 : Int32} {x z : XS} {r : Int32} (hf : fX5_isDigit v0 x = some (r, z)) : z = x := funext fun j => frX5_isDigit (j := j) hf
theorem frX5_step_h196 {r : Unit} {z : XS} {j : Nat} (j0 : j ≠ 2) : ∀ (x : XS), fX5_step_h196 x = some (r, z) → z j = x j := by
  intro x hf
  obtain ⟨x0, hx0⟩ : ∃ y, y = x := ⟨_, rfl⟩
  have hj : x j = x0 j := by rw [hx0]
  rw [← hx0]
  unfold fX5_step_h196 at hf
  rcases if_out hf with ⟨c_20, hf⟩ | ⟨c_20, hf⟩
  · skip
    rw [so_out hf]
    exact hj
  · skip
    rcases if_out hf with ⟨c_21, hf⟩ | ⟨c_21, hf⟩
    · skip
      rw [so_out hf]
      exact hj
    · skip
      obtain ⟨gg_22, hf⟩ := gd_out hf
      have ngg_22 := inb_lt gg_22
      obtain ⟨r_23, x_24, qr_23, hf⟩ := bd_out hf
      replace hj : x_24 j = x0 j := (frX5_isLetter  qr_23).trans hj
      rcases if_outN hf with ⟨c_25, hf⟩ | ⟨c_25, hf⟩
      · skip
        obtain ⟨x_26, ex_26, hf⟩ := st_out hf
        replace hj : x_26 j = x0 j := (show x_26 j = x_24 j by rw [ex_26]; exact wr_ne (by omega)).trans hj
        rw [so_out hf]
        exact hj
      · skip
        obtain ⟨gg_27, hf⟩ := gd_out hf
        have ngg_27 := inb_lt gg_27
        obtain ⟨r_28, x_29, qr_28, hf⟩ := bd_out hf
        replace hj : x_29 j = x0 j := (frX5_isDigit  qr_28).trans hj
        rcases if_out hf with ⟨c_30, hf⟩ | ⟨c_30, hf⟩
        · skip
          rw [so_out hf]
          exact hj
        · skip
          obtain ⟨x_31, ex_31, hf⟩ := st_out hf
          replace hj : x_31 j = x0 j := (show x_31 j = x_29 j by rw [ex_31]; exact wr_ne (by omega)).trans hj
          rw [so_out hf]
          exact hj
theorem frbX5_step_h83 {r : Unit} {z : XS} {j : Nat} (j0 : j ≠ 2) {k83 : XS → Option (Unit × XS)} (hk83 : ∀ (x : XS), k83 x = some (r, z) → z j = x j) : ∀ (x : XS), bX5_step_h83 k83 x = some (r, z) → z j = x j := by
  intro x hf
  obtain ⟨x0, hx0⟩ : ∃ y, y = x := ⟨_, rfl⟩
  have hj : x j = x0 j := by rw [hx0]
  rw [← hx0]
  unfold bX5_step_h83 at hf
  rcases if_out hf with ⟨c_38, hf⟩ | ⟨c_38, hf⟩
  · skip
    exact (frX5_step_h196 j0 x hf).trans hj
  · skip
    obtain ⟨gg_39, hf⟩ := gd_out hf
    have ngg_39 := inb_lt gg_39
    obtain ⟨r_40, x_41, qr_40, hf⟩ := bd_out hf
    replace hj : x_41 j = x0 j := (frX5_isLetter  qr_40).trans hj
    rcases if_out hf with ⟨c_42, hf⟩ | ⟨c_42, hf⟩
    · skip
      exact (frX5_step_h196 j0 x_41 hf).trans hj
    · skip
      obtain ⟨x_43, ex_43, hf⟩ := st_out hf
      replace hj : x_43 j = x0 j := (show x_43 j = x_41 j by rw [ex_43]; exact wr_ne (by omega)).trans hj
      exact (hk83 x_43 hf).trans hj
theorem frlX5_step_h83 {r : Unit} {z : XS} {j : Nat} (j0 : j ≠ 2) (n : Nat) : ∀ (x : XS), lX5_step_h83 n x = some (r, z) → z j = x j := by
  induction n with
  | zero => intro x hf; exact absurd hf (by intro q; cases q)
  | succ n ih => exact frbX5_step_h83 j0 ih
theorem frX5_step_h83 {r : Unit} {z : XS} {j : Nat} (j0 : j ≠ 2) : ∀ (x : XS), fX5_step_h83 x = some (r, z) → z j = x j := frlX5_step_h83 j0 FU
theorem frbX5_step_h142 {r : Unit} {z : XS} {j : Nat} (j0 : j ≠ 2) {k142 : XS → Option (Unit × XS)} (hk142 : ∀ (x : XS), k142 x = some (r, z) → z j = x j) : ∀ (x : XS), bX5_step_h142 k142 x = some (r, z) → z j = x j := by
  intro x hf
  obtain ⟨x0, hx0⟩ : ∃ y, y = x := ⟨_, rfl⟩
  have hj : x j = x0 j := by rw [hx0]
  rw [← hx0]
  unfold bX5_step_h142 at hf
  rcases if_out hf with ⟨c_32, hf⟩ | ⟨c_32, hf⟩
  · skip
    exact (frX5_step_h196 j0 x hf).trans hj
  · skip
    obtain ⟨gg_33, hf⟩ := gd_out hf
    have ngg_33 := inb_lt gg_33
    obtain ⟨r_34, x_35, qr_34, hf⟩ := bd_out hf
    replace hj : x_35 j = x0 j := (frX5_isDigit  qr_34).trans hj
    rcases if_out hf with ⟨c_36, hf⟩ | ⟨c_36, hf⟩
    · skip
      exact (frX5_step_h196 j0 x_35 hf).trans hj
    · skip
      obtain ⟨x_37, ex_37, hf⟩ := st_out hf
      replace hj : x_37 j = x0 j := (show x_37 j = x_35 j by rw [ex_37]; exact wr_ne (by omega)).trans hj
      exact (hk142 x_37 hf).trans hj
theorem frlX5_step_h142 {r : Unit} {z : XS} {j : Nat} (j0 : j ≠ 2) (n : Nat) : ∀ (x : XS), lX5_step_h142 n x = some (r, z) → z j = x j := by
  induction n with
  | zero => intro x hf; exact absurd hf (by intro q; cases q)
  | succ n ih => exact frbX5_step_h142 j0 ih
theorem frX5_step_h142 {r : Unit} {z : XS} {j : Nat} (j0 : j ≠ 2) : ∀ (x : XS), fX5_step_h142 x = some (r, z) → z j = x j := frlX5_step_h142 j0 FU
theorem frX5_step_h38 {r : Unit} {z : XS} {j : Nat} (j0 : j ≠ 2) : ∀ (x : XS), fX5_step_h38 x = some (r, z) → z j = x j := by
  intro x hf
  obtain ⟨x0, hx0⟩ : ∃ y, y = x := ⟨_, rfl⟩
  have hj : x j = x0 j := by rw [hx0]
  rw [← hx0]
  unfold fX5_step_h38 at hf
  obtain ⟨x_5, ex_5, hf⟩ := st_out hf
  replace hj : x_5 j = x0 j := (show x_5 j = x j by rw [ex_5]; exact wr_ne (by omega)).trans hj
  rcases if_out hf with ⟨c_6, hf⟩ | ⟨c_6, hf⟩
  · skip
    obtain ⟨gg_7, hf⟩ := gd_out hf
    have ngg_7 := inb_lt gg_7
    obtain ⟨r_8, x_9, qr_8, hf⟩ := bd_out hf
    replace hj : x_9 j = x0 j := (frX5_isLetter  qr_8).trans hj
    rcases if_out hf with ⟨c_10, hf⟩ | ⟨c_10, hf⟩
    · skip
      obtain ⟨gg_11, hf⟩ := gd_out hf
      have ngg_11 := inb_lt gg_11
      obtain ⟨r_12, x_13, qr_12, hf⟩ := bd_out hf
      replace hj : x_13 j = x0 j := (frX5_isDigit  qr_12).trans hj
      rcases if_out hf with ⟨c_14, hf⟩ | ⟨c_14, hf⟩
      · skip
        obtain ⟨x_15, ex_15, hf⟩ := st_out hf
        replace hj : x_15 j = x0 j := (show x_15 j = x_13 j by rw [ex_15]; exact wr_ne (by omega)).trans hj
        obtain ⟨x_16, ex_16, hf⟩ := st_out hf
        replace hj : x_16 j = x0 j := (show x_16 j = x_15 j by rw [ex_16]; exact wr_ne (by omega)).trans hj
        exact (frX5_step_h196 j0 x_16 hf).trans hj
      · skip
        obtain ⟨x_17, ex_17, hf⟩ := st_out hf
        replace hj : x_17 j = x0 j := (show x_17 j = x_13 j by rw [ex_17]; exact wr_ne (by omega)).trans hj
        exact (frX5_step_h142 j0 x_17 hf).trans hj
    · skip
      obtain ⟨x_18, ex_18, hf⟩ := st_out hf
      replace hj : x_18 j = x0 j := (show x_18 j = x_9 j by rw [ex_18]; exact wr_ne (by omega)).trans hj
      exact (frX5_step_h83 j0 x_18 hf).trans hj
  · skip
    obtain ⟨x_19, ex_19, hf⟩ := st_out hf
    replace hj : x_19 j = x0 j := (show x_19 j = x_5 j by rw [ex_19]; exact wr_ne (by omega)).trans hj
    rw [so_out hf]
    exact hj
theorem frbX5_step_h0 {r : Unit} {z : XS} {j : Nat} (j0 : j ≠ 2) {k0 : XS → Option (Unit × XS)} (hk0 : ∀ (x : XS), k0 x = some (r, z) → z j = x j) : ∀ (x : XS), bX5_step_h0 k0 x = some (r, z) → z j = x j := by
  intro x hf
  obtain ⟨x0, hx0⟩ : ∃ y, y = x := ⟨_, rfl⟩
  have hj : x j = x0 j := by rw [hx0]
  rw [← hx0]
  unfold bX5_step_h0 at hf
  rcases if_out hf with ⟨c_1, hf⟩ | ⟨c_1, hf⟩
  · skip
    exact (frX5_step_h38 j0 x hf).trans hj
  · skip
    obtain ⟨gg_2, hf⟩ := gd_out hf
    have ngg_2 := inb_lt gg_2
    rcases if_outN hf with ⟨c_3, hf⟩ | ⟨c_3, hf⟩
    · skip
      exact (frX5_step_h38 j0 x hf).trans hj
    · skip
      obtain ⟨x_4, ex_4, hf⟩ := st_out hf
      replace hj : x_4 j = x0 j := (show x_4 j = x j by rw [ex_4]; exact wr_ne (by omega)).trans hj
      exact (hk0 x_4 hf).trans hj
theorem frlX5_step_h0 {r : Unit} {z : XS} {j : Nat} (j0 : j ≠ 2) (n : Nat) : ∀ (x : XS), lX5_step_h0 n x = some (r, z) → z j = x j := by
  induction n with
  | zero => intro x hf; exact absurd hf (by intro q; cases q)
  | succ n ih => exact frbX5_step_h0 j0 ih
theorem frX5_step_h0 {r : Unit} {z : XS} {j : Nat} (j0 : j ≠ 2) : ∀ (x : XS), fX5_step_h0 x = some (r, z) → z j = x j := frlX5_step_h0 j0 FU
theorem frX5_step {j : Nat} (j0 : j ≠ 2) {x z : XS} {r : Unit} (hf : fX5_step x = some (r, z)) : z j = x j := by
  obtain ⟨x0, hx0⟩ : ∃ y, y = x := ⟨_, rfl⟩
  have hj : x j = x0 j := by rw [hx0]
  rw [← hx0]
  unfold fX5_step at hf
  exact (frX5_step_h0 j0 x hf).trans hj
theorem frbX5_isWord_h28 {v1 : Nat} {r : Int32} {z : XS} {j : Nat}  {k28 : Int32 → XS → Option (Int32 × XS)} (hk28 : ∀ (u2 : Int32) (x : XS), k28 u2 x = some (r, z) → z j = x j) : ∀ (u2 : Int32) (x : XS), bX5_isWord_h28 v1 k28 u2 x = some (r, z) → z j = x j := by
  intro u2 x hf
  obtain ⟨x0, hx0⟩ : ∃ y, y = x := ⟨_, rfl⟩
  have hj : x j = x0 j := by rw [hx0]
  rw [← hx0]
  unfold bX5_isWord_h28 at hf
  obtain ⟨r_5, x_6, qr_5, hf⟩ := bd_out hf
  replace hj : x_6 j = x0 j := (frJ0_length_8abf5  qr_5).trans hj
  rcases if_out hf with ⟨c_7, hf⟩ | ⟨c_7, hf⟩
  · skip
    rw [so_out hf]
    exact hj
  · skip
    obtain ⟨gg_8, hf⟩ := gd_out hf
    have ngg_8 := inb_lt gg_8
    obtain ⟨r_9, x_10, qr_9, hf⟩ := bd_out hf
    replace hj : x_10 j = x0 j := (frJ0_charAt_5068e  qr_9).trans hj
    rcases if_out hf with ⟨c_11, hf⟩ | ⟨c_11, hf⟩
    · skip
      obtain ⟨v_12, ev_12, hf⟩ := st_out hf
      exact (hk28 v_12 x_10 hf).trans hj
    · skip
      rw [so_out hf]
      exact hj
theorem frlX5_isWord_h28 {v1 : Nat} {r : Int32} {z : XS} {j : Nat}  (n : Nat) : ∀ (u2 : Int32) (x : XS), lX5_isWord_h28 v1 n u2 x = some (r, z) → z j = x j := by
  induction n with
  | zero => intro u2 x hf; exact absurd hf (by intro q; cases q)
  | succ n ih => exact frbX5_isWord_h28  ih
theorem frX5_isWord_h28 {v1 : Nat} {r : Int32} {z : XS} {j : Nat}  : ∀ (u2 : Int32) (x : XS), fX5_isWord_h28 v1 u2 x = some (r, z) → z j = x j := frlX5_isWord_h28  FU
theorem frX5_isWord {v1 : Nat} {j : Nat}  {x z : XS} {r : Int32} (hf : fX5_isWord v1 x = some (r, z)) : z j = x j := by
  obtain ⟨x0, hx0⟩ : ∃ y, y = x := ⟨_, rfl⟩
  have hj : x j = x0 j := by rw [hx0]
  rw [← hx0]
  unfold fX5_isWord at hf
  rcases if_outN hf with ⟨c_1, hf⟩ | ⟨c_1, hf⟩
  · skip
    rw [so_out hf]
    exact hj
  · skip
    obtain ⟨r_2, x_3, qr_2, hf⟩ := bd_out hf
    replace hj : x_3 j = x0 j := (frJ0_length_8abf5  qr_2).trans hj
    rcases if_out hf with ⟨c_4, hf⟩ | ⟨c_4, hf⟩
    · skip
      exact (frX5_isWord_h28 0 x_3 hf).trans hj
    · skip
      rw [so_out hf]
      exact hj
theorem roX5_isWord {v1 : Nat} {x z : XS} {r : Int32} (hf : fX5_isWord v1 x = some (r, z)) : z = x := funext fun j => frX5_isWord (j := j) hf
theorem frX5_keyRead {j : Nat}  {x z : XS} {r : Int32} (hf : fX5_keyRead x = some (r, z)) : z j = x j := by
  obtain ⟨x0, hx0⟩ : ∃ y, y = x := ⟨_, rfl⟩
  have hj : x j = x0 j := by rw [hx0]
  rw [← hx0]
  unfold fX5_keyRead at hf
  obtain ⟨r_1, x_2, qr_1, hf⟩ := bd_out hf
  replace hj : x_2 j = x0 j := (frX5_isWord  qr_1).trans hj
  rcases if_out hf with ⟨c_3, hf⟩ | ⟨c_3, hf⟩
  · skip
    obtain ⟨r_4, x_5, qr_4, hf⟩ := bd_out hf
    replace hj : x_5 j = x0 j := (frX5_isWord  qr_4).trans hj
    rcases if_out hf with ⟨c_6, hf⟩ | ⟨c_6, hf⟩
    · skip
      obtain ⟨r_7, x_8, qr_7, hf⟩ := bd_out hf
      replace hj : x_8 j = x0 j := (frX5_isWord  qr_7).trans hj
      rcases if_out hf with ⟨c_9, hf⟩ | ⟨c_9, hf⟩
      · skip
        rw [so_out hf]
        exact hj
      · skip
        rw [so_out hf]
        exact hj
    · skip
      rw [so_out hf]
      exact hj
  · skip
    rw [so_out hf]
    exact hj
theorem roX5_keyRead {x z : XS} {r : Int32} (hf : fX5_keyRead x = some (r, z)) : z = x := funext fun j => frX5_keyRead (j := j) hf
theorem frX6_begin {a0 : Nat} {v1 : Int32} {j : Nat} (j0 : j ≠ a0) {x z : XS} {r : Unit} (hf : fX6_begin a0 v1 x = some (r, z)) : z j = x j := by
  obtain ⟨x0, hx0⟩ : ∃ y, y = x := ⟨_, rfl⟩
  have hj : x j = x0 j := by rw [hx0]
  rw [← hx0]
  unfold fX6_begin at hf
  obtain ⟨x_1, ex_1, hf⟩ := st_out hf
  replace hj : x_1 j = x0 j := (show x_1 j = x j by rw [ex_1]; exact wr_ne (by omega)).trans hj
  obtain ⟨x_2, ex_2, hf⟩ := st_out hf
  replace hj : x_2 j = x0 j := (show x_2 j = x_1 j by rw [ex_2]; exact wr_ne (by omega)).trans hj
  obtain ⟨x_3, ex_3, hf⟩ := st_out hf
  replace hj : x_3 j = x0 j := (show x_3 j = x_2 j by rw [ex_3]; exact wr_ne (by omega)).trans hj
  rw [so_out hf]
  exact hj
theorem frX6_addItem {a0 : Nat} {v1 : Int32} {j : Nat} (j0 : j ≠ (a0 + 1)) (j1 : j ≠ a0) {x z : XS} {r : Unit} (hf : fX6_addItem a0 v1 x = some (r, z)) : z j = x j := by
  obtain ⟨x0, hx0⟩ : ∃ y, y = x := ⟨_, rfl⟩
  have hj : x j = x0 j := by rw [hx0]
  rw [← hx0]
  unfold fX6_addItem at hf
  rcases if_out hf with ⟨c_1, hf⟩ | ⟨c_1, hf⟩
  · skip
    rw [so_out hf]
    exact hj
  · skip
    obtain ⟨gg_2, hf⟩ := gd_out hf
    have ngg_2 := inb_lt gg_2
    obtain ⟨x_3, ex_3, hf⟩ := st_out hf
    replace hj : x_3 j = x0 j := (show x_3 j = x j by rw [ex_3]; exact wr_ne (by omega)).trans hj
    obtain ⟨x_4, ex_4, hf⟩ := st_out hf
    replace hj : x_4 j = x0 j := (show x_4 j = x_3 j by rw [ex_4]; exact wr_ne (by omega)).trans hj
    rw [so_out hf]
    exact hj
theorem frX6_addNumber {a0 : Nat} {v1 : Int32} {j : Nat} (j0 : j ≠ a0) (j1 : j ≠ (a0 + 1)) {x z : XS} {r : Unit} (hf : fX6_addNumber a0 v1 x = some (r, z)) : z j = x j := by
  obtain ⟨x0, hx0⟩ : ∃ y, y = x := ⟨_, rfl⟩
  have hj : x j = x0 j := by rw [hx0]
  rw [← hx0]
  unfold fX6_addNumber at hf
  obtain ⟨r_1, x_2, qr_1, hf⟩ := bd_out hf
  replace hj : x_2 j = x0 j := (frX6_addItem (by omega) (by omega) qr_1).trans hj
  obtain ⟨x_3, ex_3, hf⟩ := st_out hf
  replace hj : x_3 j = x0 j := (show x_3 j = x_2 j by rw [ex_3]; exact wr_ne (by omega)).trans hj
  rw [so_out hf]
  exact hj
theorem frbX5_number_h22 {a1 : Nat} {r : Int32} {z : XS} {j : Nat} (j0 : j ≠ a1) (j1 : j ≠ (a1 + 1)) (j2 : j ≠ 2) {k22 : Int32 → Int32 → XS → Option (Int32 × XS)} (hk22 : ∀ (u2 : Int32) (u3 : Int32) (x : XS), k22 u2 u3 x = some (r, z) → z j = x j) : ∀ (u2 : Int32) (u3 : Int32) (x : XS), bX5_number_h22 a1 k22 u2 u3 x = some (r, z) → z j = x j := by
  intro u2 u3 x hf
  obtain ⟨x0, hx0⟩ : ∃ y, y = x := ⟨_, rfl⟩
  have hj : x j = x0 j := by rw [hx0]
  rw [← hx0]
  unfold bX5_number_h22 at hf
  rcases if_out hf with ⟨c_3, hf⟩ | ⟨c_3, hf⟩
  · skip
    obtain ⟨r_4, x_5, qr_4, hf⟩ := bd_out hf
    replace hj : x_5 j = x0 j := (frX6_addNumber (by omega) (by omega) qr_4).trans hj
    obtain ⟨r_6, x_7, qr_6, hf⟩ := bd_out hf
    replace hj : x_7 j = x0 j := (frX5_step (by omega) qr_6).trans hj
    rw [so_out hf]
    exact hj
  · skip
    obtain ⟨gg_8, hf⟩ := gd_out hf
    have ngg_8 := inb_lt gg_8
    obtain ⟨v_9, ev_9, hf⟩ := st_out hf
    obtain ⟨v_10, ev_10, hf⟩ := st_out hf
    exact (hk22 v_9 v_10 x hf).trans hj
theorem frlX5_number_h22 {a1 : Nat} {r : Int32} {z : XS} {j : Nat} (j0 : j ≠ a1) (j1 : j ≠ (a1 + 1)) (j2 : j ≠ 2) (n : Nat) : ∀ (u2 : Int32) (u3 : Int32) (x : XS), lX5_number_h22 a1 n u2 u3 x = some (r, z) → z j = x j := by
  induction n with
  | zero => intro u2 u3 x hf; exact absurd hf (by intro q; cases q)
  | succ n ih => exact frbX5_number_h22 j0 j1 j2 ih
theorem frX5_number_h22 {a1 : Nat} {r : Int32} {z : XS} {j : Nat} (j0 : j ≠ a1) (j1 : j ≠ (a1 + 1)) (j2 : j ≠ 2) : ∀ (u2 : Int32) (u3 : Int32) (x : XS), fX5_number_h22 a1 u2 u3 x = some (r, z) → z j = x j := frlX5_number_h22 j0 j1 j2 FU
theorem frX5_number {a1 : Nat} {j : Nat} (j0 : j ≠ a1) (j1 : j ≠ (a1 + 1)) (j2 : j ≠ 2) {x z : XS} {r : Int32} (hf : fX5_number a1 x = some (r, z)) : z j = x j := by
  obtain ⟨x0, hx0⟩ : ∃ y, y = x := ⟨_, rfl⟩
  have hj : x j = x0 j := by rw [hx0]
  rw [← hx0]
  unfold fX5_number at hf
  rcases if_out hf with ⟨c_1, hf⟩ | ⟨c_1, hf⟩
  · skip
    obtain ⟨v_2, ev_2, hf⟩ := st_out hf
    exact (frX5_number_h22 j0 j1 j2 0 v_2 x hf).trans hj
  · skip
    rw [so_out hf]
    exact hj
theorem frX6_namesOf {v0 : Int32} {j : Nat}  {x z : XS} {r : Nat} (hf : fX6_namesOf v0 x = some (r, z)) : z j = x j := by
  obtain ⟨x0, hx0⟩ : ∃ y, y = x := ⟨_, rfl⟩
  have hj : x j = x0 j := by rw [hx0]
  rw [← hx0]
  unfold fX6_namesOf at hf
  by_cases c_1 : v0 = 0
  · replace hf := if_p c_1 hf
    rw [so_out hf]
    exact hj
  · replace hf := if_n c_1 hf
    by_cases c_2 : v0 = 1
    · replace hf := if_p c_2 hf
      rw [so_out hf]
      exact hj
    · replace hf := if_n c_2 hf
      rw [so_out hf]
      exact hj
theorem roX6_namesOf {v0 : Int32} {x z : XS} {r : Nat} (hf : fX6_namesOf v0 x = some (r, z)) : z = x := funext fun j => frX6_namesOf (j := j) hf
theorem frX6_addName {a0 : Nat} {v1 : Int32} {j : Nat} (j0 : j ≠ a0) (j1 : j ≠ (a0 + 1)) {x z : XS} {r : Int32} (hf : fX6_addName a0 v1 x = some (r, z)) : z j = x j := by
  obtain ⟨x0, hx0⟩ : ∃ y, y = x := ⟨_, rfl⟩
  have hj : x j = x0 j := by rw [hx0]
  rw [← hx0]
  unfold fX6_addName at hf
  obtain ⟨r_1, x_2, qr_1, hf⟩ := bd_out hf
  replace hj : x_2 j = x0 j := (frX6_namesOf  qr_1).trans hj
  obtain ⟨gg_3, hf⟩ := gd_out hf
  obtain ⟨r_4, x_5, qr_4, hf⟩ := bd_out hf
  replace hj : x_5 j = x0 j := (frJ0_indexOf_0f7a4  qr_4).trans hj
  rcases if_out hf with ⟨c_6, hf⟩ | ⟨c_6, hf⟩
  · skip
    obtain ⟨r_7, x_8, qr_7, hf⟩ := bd_out hf
    replace hj : x_8 j = x0 j := (frX6_addItem (by omega) (by omega) qr_7).trans hj
    obtain ⟨x_9, ex_9, hf⟩ := st_out hf
    replace hj : x_9 j = x0 j := (show x_9 j = x_8 j by rw [ex_9]; exact wr_ne (by omega)).trans hj
    rw [so_out hf]
    exact hj
  · skip
    rw [so_out hf]
    exact hj
theorem frX5_name {a1 : Nat} {j : Nat} (j0 : j ≠ a1) (j1 : j ≠ (a1 + 1)) (j2 : j ≠ 2) {x z : XS} {r : Int32} (hf : fX5_name a1 x = some (r, z)) : z j = x j := by
  obtain ⟨x0, hx0⟩ : ∃ y, y = x := ⟨_, rfl⟩
  have hj : x j = x0 j := by rw [hx0]
  rw [← hx0]
  unfold fX5_name at hf
  rcases if_outN hf with ⟨c_1, hf⟩ | ⟨c_1, hf⟩
  · skip
    rw [so_out hf]
    exact hj
  · skip
    obtain ⟨gg_2, hf⟩ := gd_out hf
    have ngg_2 := inb_lt gg_2
    obtain ⟨v_3, ev_3, hf⟩ := st_out hf
    obtain ⟨r_4, x_5, qr_4, hf⟩ := bd_out hf
    replace hj : x_5 j = x0 j := (frX6_addName (by omega) (by omega) qr_4).trans hj
    rcases if_outN hf with ⟨c_6, hf⟩ | ⟨c_6, hf⟩
    · skip
      obtain ⟨r_7, x_8, qr_7, hf⟩ := bd_out hf
      replace hj : x_8 j = x0 j := (frX5_step (by omega) qr_7).trans hj
      rw [so_out hf]
      exact hj
    · skip
      rw [so_out hf]
      exact hj
theorem frX5_sign {j : Nat}  {x z : XS} {r : Int32} (hf : fX5_sign x = some (r, z)) : z j = x j := by
  obtain ⟨x0, hx0⟩ : ∃ y, y = x := ⟨_, rfl⟩
  have hj : x j = x0 j := by rw [hx0]
  rw [← hx0]
  unfold fX5_sign at hf
  rcases if_out hf with ⟨c_1, hf⟩ | ⟨c_1, hf⟩
  · skip
    rw [so_out hf]
    exact hj
  · skip
    obtain ⟨gg_2, hf⟩ := gd_out hf
    have ngg_2 := inb_lt gg_2
    rw [so_out hf]
    exact hj
theorem roX5_sign {x z : XS} {r : Int32} (hf : fX5_sign x = some (r, z)) : z = x := funext fun j => frX5_sign (j := j) hf
theorem frX5_isSign {v1 : Int32} {j : Nat}  {x z : XS} {r : Int32} (hf : fX5_isSign v1 x = some (r, z)) : z j = x j := by
  obtain ⟨x0, hx0⟩ : ∃ y, y = x := ⟨_, rfl⟩
  have hj : x j = x0 j := by rw [hx0]
  rw [← hx0]
  unfold fX5_isSign at hf
  rcases if_outN hf with ⟨c_1, hf⟩ | ⟨c_1, hf⟩
  · skip
    rw [so_out hf]
    exact hj
  · skip
    obtain ⟨r_2, x_3, qr_2, hf⟩ := bd_out hf
    replace hj : x_3 j = x0 j := (frX5_sign  qr_2).trans hj
    rcases if_outN hf with ⟨c_4, hf⟩ | ⟨c_4, hf⟩
    · skip
      rw [so_out hf]
      exact hj
    · skip
      rw [so_out hf]
      exact hj
theorem roX5_isSign {v1 : Int32} {x z : XS} {r : Int32} (hf : fX5_isSign v1 x = some (r, z)) : z = x := funext fun j => frX5_isSign (j := j) hf
theorem frX6_addSign {a0 : Nat} {v1 : Int32} {j : Nat} (j0 : j ≠ (a0 + 1)) (j1 : j ≠ a0) {x z : XS} {r : Unit} (hf : fX6_addSign a0 v1 x = some (r, z)) : z j = x j := by
  obtain ⟨x0, hx0⟩ : ∃ y, y = x := ⟨_, rfl⟩
  have hj : x j = x0 j := by rw [hx0]
  rw [← hx0]
  unfold fX6_addSign at hf
  obtain ⟨r_1, x_2, qr_1, hf⟩ := bd_out hf
  replace hj : x_2 j = x0 j := (frX6_addItem (by omega) (by omega) qr_1).trans hj
  rw [so_out hf]
  exact hj
theorem frX5_levelOf {v0 : Int32} {j : Nat}  {x z : XS} {r : Int32} (hf : fX5_levelOf v0 x = some (r, z)) : z j = x j := by
  obtain ⟨x0, hx0⟩ : ∃ y, y = x := ⟨_, rfl⟩
  have hj : x j = x0 j := by rw [hx0]
  rw [← hx0]
  unfold fX5_levelOf at hf
  by_cases c_1 : v0 = 38
  · replace hf := if_p c_1 hf
    rw [so_out hf]
    exact hj
  · replace hf := if_n c_1 hf
    by_cases c_2 : v0 = 42
    · replace hf := if_p c_2 hf
      rw [so_out hf]
      exact hj
    · replace hf := if_n c_2 hf
      by_cases c_3 : v0 = 43
      · replace hf := if_p c_3 hf
        rw [so_out hf]
        exact hj
      · replace hf := if_n c_3 hf
        by_cases c_4 : v0 = 45
        · replace hf := if_p c_4 hf
          rw [so_out hf]
          exact hj
        · replace hf := if_n c_4 hf
          by_cases c_5 : v0 = 47
          · replace hf := if_p c_5 hf
            rw [so_out hf]
            exact hj
          · replace hf := if_n c_5 hf
            by_cases c_6 : v0 = 60
            · replace hf := if_p c_6 hf
              rw [so_out hf]
              exact hj
            · replace hf := if_n c_6 hf
              by_cases c_7 : v0 = 61
              · replace hf := if_p c_7 hf
                rw [so_out hf]
                exact hj
              · replace hf := if_n c_7 hf
                by_cases c_8 : v0 = 62
                · replace hf := if_p c_8 hf
                  rw [so_out hf]
                  exact hj
                · replace hf := if_n c_8 hf
                  by_cases c_9 : v0 = 124
                  · replace hf := if_p c_9 hf
                    rw [so_out hf]
                    exact hj
                  · replace hf := if_n c_9 hf
                    rw [so_out hf]
                    exact hj
theorem roX5_levelOf {v0 : Int32} {x z : XS} {r : Int32} (hf : fX5_levelOf v0 x = some (r, z)) : z = x := funext fun j => frX5_levelOf (j := j) hf
theorem frbX5_expression_h46 {a1 : Nat} {r : Int32} {z : XS} {fE : Nat → Int32 → Int32 → Int32 → XS → Option (Int32 × XS)} {fP : Nat → Int32 → Int32 → XS → Option (Int32 × XS)} {j : Nat} (hE : ∀ (v2 v3 v4 : Int32) (x : XS) (r : Int32) (z : XS), fE a1 v2 v3 v4 x = some (r, z) → z j = x j) (hP : ∀ (v2 v3 : Int32) (x : XS) (r : Int32) (z : XS), fP a1 v2 v3 x = some (r, z) → z j = x j)  (j0 : j ≠ 2) (j1 : j ≠ (a1 + 1)) (j2 : j ≠ a1) {k46 : Int32 → Int32 → Int32 → Int32 → Int32 → XS → Option (Int32 × XS)} (hk46 : ∀ (u2 : Int32) (u3 : Int32) (u4 : Int32) (u5 : Int32) (u6 : Int32) (x : XS), k46 u2 u3 u4 u5 u6 x = some (r, z) → z j = x j) : ∀ (u2 : Int32) (u3 : Int32) (u4 : Int32) (u5 : Int32) (u6 : Int32) (x : XS), bX5_expression_h46 fE fP a1 k46 u2 u3 u4 u5 u6 x = some (r, z) → z j = x j := by
  intro u2 u3 u4 u5 u6 x hf
  obtain ⟨x0, hx0⟩ : ∃ y, y = x := ⟨_, rfl⟩
  have hj : x j = x0 j := by rw [hx0]
  rw [← hx0]
  unfold bX5_expression_h46 at hf
  rcases if_out hf with ⟨c_9, hf⟩ | ⟨c_9, hf⟩
  · skip
    rw [so_out hf]
    exact hj
  · skip
    rcases if_outN hf with ⟨c_10, hf⟩ | ⟨c_10, hf⟩
    · skip
      rw [so_out hf]
      exact hj
    · skip
      obtain ⟨r_11, x_12, qr_11, hf⟩ := bd_out hf
      replace hj : x_12 j = x0 j := (frX5_sign  qr_11).trans hj
      obtain ⟨r_13, x_14, qr_13, hf⟩ := bd_out hf
      replace hj : x_14 j = x0 j := (frX5_levelOf  qr_13).trans hj
      rcases if_outN hf with ⟨c_15, hf⟩ | ⟨c_15, hf⟩
      · skip
        rw [so_out hf]
        exact hj
      · skip
        obtain ⟨r_16, x_17, qr_16, hf⟩ := bd_out hf
        replace hj : x_17 j = x0 j := (frX5_sign  qr_16).trans hj
        obtain ⟨r_18, x_19, qr_18, hf⟩ := bd_out hf
        replace hj : x_19 j = x0 j := (frX5_step (by omega) qr_18).trans hj
        obtain ⟨r_20, x_21, qr_20, hf⟩ := bd_out hf
        replace hj : x_21 j = x0 j := (hE (u2 + 1) u3 u4 x_19 _ _ qr_20).trans hj
        rcases if_outN hf with ⟨c_22, hf⟩ | ⟨c_22, hf⟩
        · skip
          obtain ⟨r_23, x_24, qr_23, hf⟩ := bd_out hf
          replace hj : x_24 j = x0 j := (frX6_addSign (by omega) (by omega) qr_23).trans hj
          obtain ⟨v_25, ev_25, hf⟩ := st_out hf
          exact (hk46 u2 u3 u4 u5 v_25 x_24 hf).trans hj
        · skip
          rw [so_out hf]
          exact hj
theorem frlX5_expression_h46 {a1 : Nat} {r : Int32} {z : XS} {fE : Nat → Int32 → Int32 → Int32 → XS → Option (Int32 × XS)} {fP : Nat → Int32 → Int32 → XS → Option (Int32 × XS)} {j : Nat} (hE : ∀ (v2 v3 v4 : Int32) (x : XS) (r : Int32) (z : XS), fE a1 v2 v3 v4 x = some (r, z) → z j = x j) (hP : ∀ (v2 v3 : Int32) (x : XS) (r : Int32) (z : XS), fP a1 v2 v3 x = some (r, z) → z j = x j)  (j0 : j ≠ 2) (j1 : j ≠ (a1 + 1)) (j2 : j ≠ a1) (n : Nat) : ∀ (u2 : Int32) (u3 : Int32) (u4 : Int32) (u5 : Int32) (u6 : Int32) (x : XS), lX5_expression_h46 fE fP a1 n u2 u3 u4 u5 u6 x = some (r, z) → z j = x j := by
  induction n with
  | zero => intro u2 u3 u4 u5 u6 x hf; exact absurd hf (by intro q; cases q)
  | succ n ih => exact frbX5_expression_h46 hE hP j0 j1 j2 ih
theorem frX5_expression_h46 {a1 : Nat} {r : Int32} {z : XS} {fE : Nat → Int32 → Int32 → Int32 → XS → Option (Int32 × XS)} {fP : Nat → Int32 → Int32 → XS → Option (Int32 × XS)} {j : Nat} (hE : ∀ (v2 v3 v4 : Int32) (x : XS) (r : Int32) (z : XS), fE a1 v2 v3 v4 x = some (r, z) → z j = x j) (hP : ∀ (v2 v3 : Int32) (x : XS) (r : Int32) (z : XS), fP a1 v2 v3 x = some (r, z) → z j = x j)  (j0 : j ≠ 2) (j1 : j ≠ (a1 + 1)) (j2 : j ≠ a1) : ∀ (u2 : Int32) (u3 : Int32) (u4 : Int32) (u5 : Int32) (u6 : Int32) (x : XS), fX5_expression_h46 fE fP a1 u2 u3 u4 u5 u6 x = some (r, z) → z j = x j := frlX5_expression_h46 hE hP j0 j1 j2 FU
theorem FrX5_expression {a1 : Nat} {v2 : Int32} {v3 : Int32} {v4 : Int32} {fE : Nat → Int32 → Int32 → Int32 → XS → Option (Int32 × XS)} {fP : Nat → Int32 → Int32 → XS → Option (Int32 × XS)} {j : Nat} (hE : ∀ (v2 v3 v4 : Int32) (x : XS) (r : Int32) (z : XS), fE a1 v2 v3 v4 x = some (r, z) → z j = x j) (hP : ∀ (v2 v3 : Int32) (x : XS) (r : Int32) (z : XS), fP a1 v2 v3 x = some (r, z) → z j = x j)  (j0 : j ≠ 2) (j1 : j ≠ (a1 + 1)) (j2 : j ≠ a1) {x z : XS} {r : Int32} (hf : FX5_expression fE fP a1 v2 v3 v4 x = some (r, z)) : z j = x j := by
  obtain ⟨x0, hx0⟩ : ∃ y, y = x := ⟨_, rfl⟩
  have hj : x j = x0 j := by rw [hx0]
  rw [← hx0]
  unfold FX5_expression at hf
  rcases if_out hf with ⟨c_1, hf⟩ | ⟨c_1, hf⟩
  · skip
    obtain ⟨r_2, x_3, qr_2, hf⟩ := bd_out hf
    replace hj : x_3 j = x0 j := (hE (v2 + 1) v3 v4 x _ _ qr_2).trans hj
    rcases if_outN hf with ⟨c_4, hf⟩ | ⟨c_4, hf⟩
    · skip
      rcases if_outN hf with ⟨c_5, hf⟩ | ⟨c_5, hf⟩
      · skip
        exact (frX5_expression_h46 hE hP j0 j1 j2 v2 v3 v4 96 0 x_3 hf).trans hj
      · skip
        exact (frX5_expression_h46 hE hP j0 j1 j2 v2 v3 v4 1 0 x_3 hf).trans hj
    · skip
      rw [so_out hf]
      exact hj
  · skip
    obtain ⟨r_6, x_7, qr_6, hf⟩ := bd_out hf
    replace hj : x_7 j = x0 j := (hP v3 v4 x _ _ qr_6).trans hj
    obtain ⟨gg_8, hf⟩ := gd_out hf
    rw [so_out hf]
    exact hj
theorem frX5_piece_h69 {a1 : Nat} {r : Int32} {z : XS} {fE : Nat → Int32 → Int32 → Int32 → XS → Option (Int32 × XS)} {fP : Nat → Int32 → Int32 → XS → Option (Int32 × XS)} {j : Nat} (hE : ∀ (v2 v3 v4 : Int32) (x : XS) (r : Int32) (z : XS), fE a1 v2 v3 v4 x = some (r, z) → z j = x j) (hP : ∀ (v2 v3 : Int32) (x : XS) (r : Int32) (z : XS), fP a1 v2 v3 x = some (r, z) → z j = x j)  (j0 : j ≠ 2) (j1 : j ≠ (a1 + 1)) (j2 : j ≠ a1) : ∀ (u2 : Int32) (u3 : Int32) (x : XS), fX5_piece_h69 fE fP a1 u2 u3 x = some (r, z) → z j = x j := by
  intro u2 u3 x hf
  obtain ⟨x0, hx0⟩ : ∃ y, y = x := ⟨_, rfl⟩
  have hj : x j = x0 j := by rw [hx0]
  rw [← hx0]
  unfold fX5_piece_h69 at hf
  obtain ⟨r_20, x_21, qr_20, hf⟩ := bd_out hf
  replace hj : x_21 j = x0 j := (frX5_isSign  qr_20).trans hj
  rcases if_out hf with ⟨c_22, hf⟩ | ⟨c_22, hf⟩
  · skip
    rw [so_out hf]
    exact hj
  · skip
    rcases if_out hf with ⟨c_23, hf⟩ | ⟨c_23, hf⟩
    · skip
      rw [so_out hf]
      exact hj
    · skip
      obtain ⟨r_24, x_25, qr_24, hf⟩ := bd_out hf
      replace hj : x_25 j = x0 j := (frX5_step (by omega) qr_24).trans hj
      obtain ⟨r_26, x_27, qr_26, hf⟩ := bd_out hf
      replace hj : x_27 j = x0 j := (hE 0 (u2 + 1) u3 x_25 _ _ qr_26).trans hj
      rcases if_out hf with ⟨c_28, hf⟩ | ⟨c_28, hf⟩
      · skip
        rw [so_out hf]
        exact hj
      · skip
        obtain ⟨r_29, x_30, qr_29, hf⟩ := bd_out hf
        replace hj : x_30 j = x0 j := (frX5_isSign  qr_29).trans hj
        rcases if_outN hf with ⟨c_31, hf⟩ | ⟨c_31, hf⟩
        · skip
          obtain ⟨r_32, x_33, qr_32, hf⟩ := bd_out hf
          replace hj : x_33 j = x0 j := (frX5_step (by omega) qr_32).trans hj
          rw [so_out hf]
          exact hj
        · skip
          rw [so_out hf]
          exact hj
theorem FrX5_piece {a1 : Nat} {v2 : Int32} {v3 : Int32} {fE : Nat → Int32 → Int32 → Int32 → XS → Option (Int32 × XS)} {fP : Nat → Int32 → Int32 → XS → Option (Int32 × XS)} {j : Nat} (hE : ∀ (v2 v3 v4 : Int32) (x : XS) (r : Int32) (z : XS), fE a1 v2 v3 v4 x = some (r, z) → z j = x j) (hP : ∀ (v2 v3 : Int32) (x : XS) (r : Int32) (z : XS), fP a1 v2 v3 x = some (r, z) → z j = x j)  (j0 : j ≠ 2) (j1 : j ≠ (a1 + 1)) (j2 : j ≠ a1) {x z : XS} {r : Int32} (hf : FX5_piece fE fP a1 v2 v3 x = some (r, z)) : z j = x j := by
  obtain ⟨x0, hx0⟩ : ∃ y, y = x := ⟨_, rfl⟩
  have hj : x j = x0 j := by rw [hx0]
  rw [← hx0]
  unfold FX5_piece at hf
  rcases if_outN hf with ⟨c_1, hf⟩ | ⟨c_1, hf⟩
  · skip
    rcases if_outN hf with ⟨c_2, hf⟩ | ⟨c_2, hf⟩
    · skip
      obtain ⟨r_3, x_4, qr_3, hf⟩ := bd_out hf
      replace hj : x_4 j = x0 j := (frX5_isSign  qr_3).trans hj
      rcases if_out hf with ⟨c_5, hf⟩ | ⟨c_5, hf⟩
      · skip
        exact (frX5_piece_h69 hE hP j0 j1 j2 v2 v3 x_4 hf).trans hj
      · skip
        rcases if_out hf with ⟨c_6, hf⟩ | ⟨c_6, hf⟩
        · skip
          exact (frX5_piece_h69 hE hP j0 j1 j2 v2 v3 x_4 hf).trans hj
        · skip
          obtain ⟨r_7, x_8, qr_7, hf⟩ := bd_out hf
          replace hj : x_8 j = x0 j := (frX5_step (by omega) qr_7).trans hj
          obtain ⟨r_9, x_10, qr_9, hf⟩ := bd_out hf
          replace hj : x_10 j = x0 j := (hP v2 (v3 + 1) x_8 _ _ qr_9).trans hj
          rcases if_outN hf with ⟨c_11, hf⟩ | ⟨c_11, hf⟩
          · skip
            obtain ⟨r_12, x_13, qr_12, hf⟩ := bd_out hf
            replace hj : x_13 j = x0 j := (frX6_addSign (by omega) (by omega) qr_12).trans hj
            rw [so_out hf]
            exact hj
          · skip
            rw [so_out hf]
            exact hj
    · skip
      obtain ⟨r_14, x_15, qr_14, hf⟩ := bd_out hf
      replace hj : x_15 j = x0 j := (frX5_name (by omega) (by omega) (by omega) qr_14).trans hj
      obtain ⟨gg_16, hf⟩ := gd_out hf
      rw [so_out hf]
      exact hj
  · skip
    obtain ⟨r_17, x_18, qr_17, hf⟩ := bd_out hf
    replace hj : x_18 j = x0 j := (frX5_number (by omega) (by omega) (by omega) qr_17).trans hj
    obtain ⟨gg_19, hf⟩ := gd_out hf
    rw [so_out hf]
    exact hj
theorem frEP {a1 j : Nat} (j0 : j ≠ 2) (j1 : j ≠ (a1 + 1)) (j2 : j ≠ a1) : ∀ d : Nat, (∀ (v2 v3 v4 : Int32) (x : XS) (r : Int32) (z : XS), (fEP d).1 a1 v2 v3 v4 x = some (r, z) → z j = x j) ∧ (∀ (v2 v3 : Int32) (x : XS) (r : Int32) (z : XS), (fEP d).2 a1 v2 v3 x = some (r, z) → z j = x j)
  | 0 => ⟨fun _ _ _ _ _ _ hf => absurd hf (by intro q; cases q), fun _ _ _ _ _ hf => absurd hf (by intro q; cases q)⟩
  | d + 1 => ⟨fun _ _ _ _ _ _ hf => FrX5_expression (frEP j0 j1 j2 d).1 (frEP j0 j1 j2 d).2 j0 j1 j2 hf, fun _ _ _ _ _ hf => FrX5_piece (frEP j0 j1 j2 d).1 (frEP j0 j1 j2 d).2 j0 j1 j2 hf⟩
theorem frE {d a1 : Nat} {v2 v3 v4 : Int32} {j : Nat} (j0 : j ≠ 2) (j1 : j ≠ (a1 + 1)) (j2 : j ≠ a1) {x z : XS} {r : Int32} (hf : (fEP d).1 a1 v2 v3 v4 x = some (r, z)) : z j = x j := (frEP j0 j1 j2 d).1 _ _ _ _ _ _ hf
theorem frX5_useUp {a1 : Nat} {j : Nat} (j0 : j ≠ 2) (j1 : j ≠ a1) (j2 : j ≠ (a1 + 1)) {x z : XS} {r : Int32} (hf : fX5_useUp a1 x = some (r, z)) : z j = x j := by
  obtain ⟨x0, hx0⟩ : ∃ y, y = x := ⟨_, rfl⟩
  have hj : x j = x0 j := by rw [hx0]
  rw [← hx0]
  unfold fX5_useUp at hf
  obtain ⟨x_1, ex_1, hf⟩ := st_out hf
  replace hj : x_1 j = x0 j := (show x_1 j = x j by rw [ex_1]; exact wr_ne (by omega)).trans hj
  obtain ⟨x_2, ex_2, hf⟩ := st_out hf
  replace hj : x_2 j = x0 j := (show x_2 j = x_1 j by rw [ex_2]; exact wr_ne (by omega)).trans hj
  obtain ⟨x_3, ex_3, hf⟩ := st_out hf
  replace hj : x_3 j = x0 j := (show x_3 j = x_2 j by rw [ex_3]; exact wr_ne (by omega)).trans hj
  obtain ⟨r_4, x_5, qr_4, hf⟩ := bd_out hf
  replace hj : x_5 j = x0 j := (frX5_step (by omega) qr_4).trans hj
  obtain ⟨r_6, x_7, qr_6, hf⟩ := bd_out hf
  replace hj : x_7 j = x0 j := (frX5_keyRead  qr_6).trans hj
  rcases if_out hf with ⟨c_8, hf⟩ | ⟨c_8, hf⟩
  · skip
    obtain ⟨r_9, x_10, qr_9, hf⟩ := bd_out hf
    replace hj : x_10 j = x0 j := (frX6_begin (by omega) qr_9).trans hj
    obtain ⟨r_11, x_12, qr_11, hf⟩ := bd_out hf
    replace hj : x_12 j = x0 j := (frX5_step (by omega) qr_11).trans hj
    obtain ⟨r_13, x_14, qr_13, hf⟩ := bd_out hf
    replace hj : x_14 j = x0 j := (frE (by omega) (by omega) (by omega) qr_13).trans hj
    rcases if_out hf with ⟨c_15, hf⟩ | ⟨c_15, hf⟩
    · skip
      rw [so_out hf]
      exact hj
    · skip
      rcases if_out hf with ⟨c_16, hf⟩ | ⟨c_16, hf⟩
      · skip
        rw [so_out hf]
        exact hj
      · skip
        rw [so_out hf]
        exact hj
  · skip
    rw [so_out hf]
    exact hj
theorem frX7_isKind {v0 : Int32} {j : Nat}  {x z : XS} {r : Int32} (hf : fX7_isKind v0 x = some (r, z)) : z j = x j := by
  obtain ⟨x0, hx0⟩ : ∃ y, y = x := ⟨_, rfl⟩
  have hj : x j = x0 j := by rw [hx0]
  rw [← hx0]
  unfold fX7_isKind at hf
  rcases if_out hf with ⟨c_1, hf⟩ | ⟨c_1, hf⟩
  · skip
    rw [so_out hf]
    exact hj
  · skip
    rcases if_out hf with ⟨c_2, hf⟩ | ⟨c_2, hf⟩
    · skip
      rw [so_out hf]
      exact hj
    · skip
      rw [so_out hf]
      exact hj
theorem roX7_isKind {v0 : Int32} {x z : XS} {r : Int32} (hf : fX7_isKind v0 x = some (r, z)) : z = x := funext fun j => frX7_isKind (j := j) hf
theorem frX7_boy {v1 : Int32} {v2 : Int32} {v3 : Int32} {v4 : Int32} {j : Nat} (j0 : j ≠ 4) (j1 : j < 7 ∨ 15 ≤ j) {x z : XS} {r : Int32} (hf : fX7_boy v1 v2 v3 v4 x = some (r, z)) : z j = x j := by
  obtain ⟨x0, hx0⟩ : ∃ y, y = x := ⟨_, rfl⟩
  have hj : x j = x0 j := by rw [hx0]
  rw [← hx0]
  unfold fX7_boy at hf
  obtain ⟨r_1, x_2, qr_1, hf⟩ := bd_out hf
  replace hj : x_2 j = x0 j := (frX7_isKind  qr_1).trans hj
  rcases if_out hf with ⟨c_3, hf⟩ | ⟨c_3, hf⟩
  · skip
    rw [so_out hf]
    exact hj
  · skip
    obtain ⟨r_4, x_5, qr_4, hf⟩ := bd_out hf
    replace hj : x_5 j = x0 j := (frX0_mayBe  qr_4).trans hj
    rcases if_out hf with ⟨c_6, hf⟩ | ⟨c_6, hf⟩
    · skip
      rw [so_out hf]
      exact hj
    · skip
      obtain ⟨r_7, x_8, qr_7, hf⟩ := bd_out hf
      replace hj : x_8 j = x0 j := (frX0_mayBe  qr_7).trans hj
      rcases if_out hf with ⟨c_9, hf⟩ | ⟨c_9, hf⟩
      · skip
        rw [so_out hf]
        exact hj
      · skip
        obtain ⟨r_10, x_11, qr_10, hf⟩ := bd_out hf
        replace hj : x_11 j = x0 j := (frX0_mayBe  qr_10).trans hj
        rcases if_outN hf with ⟨c_12, hf⟩ | ⟨c_12, hf⟩
        · skip
          rcases if_out hf with ⟨c_13, hf⟩ | ⟨c_13, hf⟩
          · skip
            obtain ⟨r_14, x_15, qr_14, hf⟩ := bd_out hf
            replace hj : x_15 j = x0 j := (frX4_addBoy (by omega) (by omega) qr_14).trans hj
            rw [so_out hf]
            exact hj
          · skip
            rw [so_out hf]
            exact hj
        · skip
          rw [so_out hf]
          exact hj
theorem frX7_isBoy {v1 : Int32} {j : Nat}  {x z : XS} {r : Int32} (hf : fX7_isBoy v1 x = some (r, z)) : z j = x j := by
  obtain ⟨x0, hx0⟩ : ∃ y, y = x := ⟨_, rfl⟩
  have hj : x j = x0 j := by rw [hx0]
  rw [← hx0]
  unfold fX7_isBoy at hf
  rcases if_out hf with ⟨c_1, hf⟩ | ⟨c_1, hf⟩
  · skip
    rw [so_out hf]
    exact hj
  · skip
    rcases if_out hf with ⟨c_2, hf⟩ | ⟨c_2, hf⟩
    · skip
      rw [so_out hf]
      exact hj
    · skip
      rw [so_out hf]
      exact hj
theorem roX7_isBoy {v1 : Int32} {x z : XS} {r : Int32} (hf : fX7_isBoy v1 x = some (r, z)) : z = x := funext fun j => frX7_isBoy (j := j) hf
theorem frX7_told {v1 : Int32} {v2 : Int32} {j : Nat}  {x z : XS} {r : Int32} (hf : fX7_told v1 v2 x = some (r, z)) : z j = x j := by
  obtain ⟨x0, hx0⟩ : ∃ y, y = x := ⟨_, rfl⟩
  have hj : x j = x0 j := by rw [hx0]
  rw [← hx0]
  unfold fX7_told at hf
  obtain ⟨r_1, x_2, qr_1, hf⟩ := bd_out hf
  replace hj : x_2 j = x0 j := (frX7_isBoy  qr_1).trans hj
  rcases if_out hf with ⟨c_3, hf⟩ | ⟨c_3, hf⟩
  · skip
    rw [so_out hf]
    exact hj
  · skip
    rcases if_out hf with ⟨c_4, hf⟩ | ⟨c_4, hf⟩
    · skip
      rw [so_out hf]
      exact hj
    · skip
      rcases if_out hf with ⟨c_5, hf⟩ | ⟨c_5, hf⟩
      · skip
        obtain ⟨gg_6, hf⟩ := gd_out hf
        have ngg_6 := inb_lt gg_6
        obtain ⟨r_7, x_8, qr_7, hf⟩ := bd_out hf
        replace hj : x_8 j = x0 j := (frX0_fact  qr_7).trans hj
        rw [so_out hf]
        exact hj
      · skip
        rw [so_out hf]
        exact hj
theorem roX7_told {v1 : Int32} {v2 : Int32} {x z : XS} {r : Int32} (hf : fX7_told v1 v2 x = some (r, z)) : z = x := funext fun j => frX7_told (j := j) hf
theorem frX7_shine {v1 : Int32} {v2 : Int32} {v3 : Int32} {j : Nat} (j0 : j ≠ 40) {x z : XS} {r : Int32} (hf : fX7_shine v1 v2 v3 x = some (r, z)) : z j = x j := by
  obtain ⟨x0, hx0⟩ : ∃ y, y = x := ⟨_, rfl⟩
  have hj : x j = x0 j := by rw [hx0]
  rw [← hx0]
  unfold fX7_shine at hf
  obtain ⟨r_1, x_2, qr_1, hf⟩ := bd_out hf
  replace hj : x_2 j = x0 j := (frX7_isBoy  qr_1).trans hj
  rcases if_out hf with ⟨c_3, hf⟩ | ⟨c_3, hf⟩
  · skip
    rw [so_out hf]
    exact hj
  · skip
    rcases if_out hf with ⟨c_4, hf⟩ | ⟨c_4, hf⟩
    · skip
      rw [so_out hf]
      exact hj
    · skip
      rcases if_out hf with ⟨c_5, hf⟩ | ⟨c_5, hf⟩
      · skip
        rw [so_out hf]
        exact hj
      · skip
        rcases if_out hf with ⟨c_6, hf⟩ | ⟨c_6, hf⟩
        · skip
          rw [so_out hf]
          exact hj
        · skip
          rcases if_out hf with ⟨c_7, hf⟩ | ⟨c_7, hf⟩
          · skip
            obtain ⟨gg_8, hf⟩ := gd_out hf
            have ngg_8 := inb_lt gg_8
            obtain ⟨r_9, x_10, qr_9, hf⟩ := bd_out hf
            replace hj : x_10 j = x0 j := (frX4_shineOf (by omega) qr_9).trans hj
            rw [so_out hf]
            exact hj
          · skip
            rw [so_out hf]
            exact hj
theorem frX7_as {v1 : Int32} {v2 : Int32} {j : Nat}  {x z : XS} {r : Int32} (hf : fX7_as v1 v2 x = some (r, z)) : z j = x j := by
  obtain ⟨x0, hx0⟩ : ∃ y, y = x := ⟨_, rfl⟩
  have hj : x j = x0 j := by rw [hx0]
  rw [← hx0]
  unfold fX7_as at hf
  obtain ⟨r_1, x_2, qr_1, hf⟩ := bd_out hf
  replace hj : x_2 j = x0 j := (frX7_isBoy  qr_1).trans hj
  rcases if_out hf with ⟨c_3, hf⟩ | ⟨c_3, hf⟩
  · skip
    rw [so_out hf]
    exact hj
  · skip
    obtain ⟨r_4, x_5, qr_4, hf⟩ := bd_out hf
    replace hj : x_5 j = x0 j := (frX7_isKind  qr_4).trans hj
    rcases if_outN hf with ⟨c_6, hf⟩ | ⟨c_6, hf⟩
    · skip
      obtain ⟨gg_7, hf⟩ := gd_out hf
      have ngg_7 := inb_lt gg_7
      obtain ⟨r_8, x_9, qr_8, hf⟩ := bd_out hf
      replace hj : x_9 j = x0 j := (frX1_isUnder  qr_8).trans hj
      rcases if_out hf with ⟨c_10, hf⟩ | ⟨c_10, hf⟩
      · skip
        rw [so_out hf]
        exact hj
      · skip
        rw [so_out hf]
        exact hj
    · skip
      rw [so_out hf]
      exact hj
theorem roX7_as {v1 : Int32} {v2 : Int32} {x z : XS} {r : Int32} (hf : fX7_as v1 v2 x = some (r, z)) : z = x := funext fun j => frX7_as (j := j) hf
theorem frX7_turns {v1 : Int32} {v2 : Int32} {j : Nat} (j0 : j < 7 ∨ 15 ≤ j) {x z : XS} {r : Int32} (hf : fX7_turns v1 v2 x = some (r, z)) : z j = x j := by
  obtain ⟨x0, hx0⟩ : ∃ y, y = x := ⟨_, rfl⟩
  have hj : x j = x0 j := by rw [hx0]
  rw [← hx0]
  unfold fX7_turns at hf
  obtain ⟨r_1, x_2, qr_1, hf⟩ := bd_out hf
  replace hj : x_2 j = x0 j := (frX7_isBoy  qr_1).trans hj
  rcases if_out hf with ⟨c_3, hf⟩ | ⟨c_3, hf⟩
  · skip
    rw [so_out hf]
    exact hj
  · skip
    obtain ⟨r_4, x_5, qr_4, hf⟩ := bd_out hf
    replace hj : x_5 j = x0 j := (frX7_isKind  qr_4).trans hj
    rcases if_outN hf with ⟨c_6, hf⟩ | ⟨c_6, hf⟩
    · skip
      obtain ⟨gg_7, hf⟩ := gd_out hf
      have ngg_7 := inb_lt gg_7
      obtain ⟨v_8, ev_8, hf⟩ := st_out hf
      obtain ⟨gg_9, hf⟩ := gd_out hf
      have ngg_9 := inb_lt gg_9
      obtain ⟨x_10, ex_10, hf⟩ := st_out hf
      replace hj : x_10 j = x0 j := (show x_10 j = x_5 j by rw [ex_10]; exact wr_ne (by omega)).trans hj
      rw [so_out hf]
      exact hj
    · skip
      rw [so_out hf]
      exact hj
theorem frX7_set {v1 : Int32} {v2 : Int32} {v3 : Int32} {j : Nat} (j0 : j < 7 ∨ 15 ≤ j) {x z : XS} {r : Int32} (hf : fX7_set v1 v2 v3 x = some (r, z)) : z j = x j := by
  obtain ⟨x0, hx0⟩ : ∃ y, y = x := ⟨_, rfl⟩
  have hj : x j = x0 j := by rw [hx0]
  rw [← hx0]
  unfold fX7_set at hf
  obtain ⟨r_1, x_2, qr_1, hf⟩ := bd_out hf
  replace hj : x_2 j = x0 j := (frX7_isBoy  qr_1).trans hj
  rcases if_out hf with ⟨c_3, hf⟩ | ⟨c_3, hf⟩
  · skip
    rw [so_out hf]
    exact hj
  · skip
    obtain ⟨r_4, x_5, qr_4, hf⟩ := bd_out hf
    replace hj : x_5 j = x0 j := (frX0_mayBe  qr_4).trans hj
    rcases if_outN hf with ⟨c_6, hf⟩ | ⟨c_6, hf⟩
    · skip
      obtain ⟨gg_7, hf⟩ := gd_out hf
      have ngg_7 := inb_lt gg_7
      obtain ⟨r_8, x_9, qr_8, hf⟩ := bd_out hf
      replace hj : x_9 j = x0 j := (frX0_fact  qr_8).trans hj
      obtain ⟨gg_10, hf⟩ := gd_out hf
      have ngg_10 := inb_lt gg_10
      obtain ⟨r_11, x_12, qr_11, hf⟩ := bd_out hf
      replace hj : x_12 j = x0 j := (frX0_change (by omega) qr_11).trans hj
      rw [so_out hf]
      exact hj
    · skip
      rw [so_out hf]
      exact hj
theorem frbX7_deal_h31 {r : Int32} {z : XS} {j : Nat} (j0 : j ≠ 4) (j1 : j < 7 ∨ 15 ≤ j) {k31 : Int32 → Int32 → XS → Option (Int32 × XS)} (hk31 : ∀ (u2 : Int32) (u3 : Int32) (x : XS), k31 u2 u3 x = some (r, z) → z j = x j) : ∀ (u2 : Int32) (u3 : Int32) (x : XS), bX7_deal_h31 k31 u2 u3 x = some (r, z) → z j = x j := by
  intro u2 u3 x hf
  obtain ⟨x0, hx0⟩ : ∃ y, y = x := ⟨_, rfl⟩
  have hj : x j = x0 j := by rw [hx0]
  rw [← hx0]
  unfold bX7_deal_h31 at hf
  rcases if_out hf with ⟨c_4, hf⟩ | ⟨c_4, hf⟩
  · skip
    rw [so_out hf]
    exact hj
  · skip
    obtain ⟨r_5, x_6, qr_5, hf⟩ := bd_out hf
    replace hj : x_6 j = x0 j := (frX4_drawBoy (by omega) (by omega) qr_5).trans hj
    obtain ⟨v_7, ev_7, hf⟩ := st_out hf
    exact (hk31 u2 v_7 x_6 hf).trans hj
theorem frlX7_deal_h31 {r : Int32} {z : XS} {j : Nat} (j0 : j ≠ 4) (j1 : j < 7 ∨ 15 ≤ j) (n : Nat) : ∀ (u2 : Int32) (u3 : Int32) (x : XS), lX7_deal_h31 n u2 u3 x = some (r, z) → z j = x j := by
  induction n with
  | zero => intro u2 u3 x hf; exact absurd hf (by intro q; cases q)
  | succ n ih => exact frbX7_deal_h31 j0 j1 ih
theorem frX7_deal_h31 {r : Int32} {z : XS} {j : Nat} (j0 : j ≠ 4) (j1 : j < 7 ∨ 15 ≤ j) : ∀ (u2 : Int32) (u3 : Int32) (x : XS), fX7_deal_h31 u2 u3 x = some (r, z) → z j = x j := frlX7_deal_h31 j0 j1 FU
theorem frX7_deal {v1 : Int32} {j : Nat} (j0 : j ≠ 4) (j1 : j < 7 ∨ 15 ≤ j) {x z : XS} {r : Int32} (hf : fX7_deal v1 x = some (r, z)) : z j = x j := by
  obtain ⟨x0, hx0⟩ : ∃ y, y = x := ⟨_, rfl⟩
  have hj : x j = x0 j := by rw [hx0]
  rw [← hx0]
  unfold fX7_deal at hf
  rcases if_out hf with ⟨c_1, hf⟩ | ⟨c_1, hf⟩
  · skip
    rw [so_out hf]
    exact hj
  · skip
    rcases if_out hf with ⟨c_2, hf⟩ | ⟨c_2, hf⟩
    · skip
      obtain ⟨v_3, ev_3, hf⟩ := st_out hf
      exact (frX7_deal_h31 j0 j1 v_3 0 x hf).trans hj
    · skip
      rw [so_out hf]
      exact hj
theorem frX7_seed {v1 : Int32} {j : Nat} (j0 : j ≠ 4) {x z : XS} {r : Int32} (hf : fX7_seed v1 x = some (r, z)) : z j = x j := by
  obtain ⟨x0, hx0⟩ : ∃ y, y = x := ⟨_, rfl⟩
  have hj : x j = x0 j := by rw [hx0]
  rw [← hx0]
  unfold fX7_seed at hf
  obtain ⟨v_1, ev_1, hf⟩ := st_out hf
  obtain ⟨x_2, ex_2, hf⟩ := st_out hf
  replace hj : x_2 j = x0 j := (show x_2 j = x j by rw [ex_2]; exact wr_ne (by omega)).trans hj
  rw [so_out hf]
  exact hj
theorem frX7_rule_h89 {r : Int32} {z : XS} {j : Nat} (j0 : j ≠ 4) : ∀ (u2 : Int32) (s0 : Int32) (x : XS), fX7_rule_h89 u2 s0 x = some (r, z) → z j = x j := by
  intro u2 s0 x hf
  obtain ⟨x0, hx0⟩ : ∃ y, y = x := ⟨_, rfl⟩
  have hj : x j = x0 j := by rw [hx0]
  rw [← hx0]
  unfold fX7_rule_h89 at hf
  rcases if_outN hf with ⟨c_13, hf⟩ | ⟨c_13, hf⟩
  · skip
    obtain ⟨x_14, ex_14, hf⟩ := st_out hf
    replace hj : x_14 j = x0 j := (show x_14 j = x j by rw [ex_14]; exact wr_ne (by omega)).trans hj
    rw [so_out hf]
    exact hj
  · skip
    obtain ⟨x_15, ex_15, hf⟩ := st_out hf
    replace hj : x_15 j = x0 j := (show x_15 j = x j by rw [ex_15]; exact wr_ne (by omega)).trans hj
    rw [so_out hf]
    exact hj
theorem frX7_rule_h64 {r : Int32} {z : XS} {j : Nat} (j0 : j ≠ 4) : ∀ (u1 : Int32) (u2 : Int32) (x : XS), fX7_rule_h64 u1 u2 x = some (r, z) → z j = x j := by
  intro u1 u2 x hf
  obtain ⟨x0, hx0⟩ : ∃ y, y = x := ⟨_, rfl⟩
  have hj : x j = x0 j := by rw [hx0]
  rw [← hx0]
  unfold fX7_rule_h64 at hf
  rcases if_outN hf with ⟨c_10, hf⟩ | ⟨c_10, hf⟩
  · skip
    rw [so_out hf]
    exact hj
  · skip
    rcases if_out hf with ⟨c_11, hf⟩ | ⟨c_11, hf⟩
    · skip
      rw [so_out hf]
      exact hj
    · skip
      rcases if_out hf with ⟨c_12, hf⟩ | ⟨c_12, hf⟩
      · skip
        exact (frX7_rule_h89 j0 u2 0 x hf).trans hj
      · skip
        exact (frX7_rule_h89 j0 u2 1 x hf).trans hj
theorem frX7_rule_h35 {r : Int32} {z : XS} {j : Nat} (j0 : j ≠ 4) : ∀ (u1 : Int32) (u2 : Int32) (x : XS), fX7_rule_h35 u1 u2 x = some (r, z) → z j = x j := by
  intro u1 u2 x hf
  obtain ⟨x0, hx0⟩ : ∃ y, y = x := ⟨_, rfl⟩
  have hj : x j = x0 j := by rw [hx0]
  rw [← hx0]
  unfold fX7_rule_h35 at hf
  rcases if_outN hf with ⟨c_6, hf⟩ | ⟨c_6, hf⟩
  · skip
    exact (frX7_rule_h64 j0 u1 u2 x hf).trans hj
  · skip
    rcases if_out hf with ⟨c_7, hf⟩ | ⟨c_7, hf⟩
    · skip
      exact (frX7_rule_h64 j0 u1 u2 x hf).trans hj
    · skip
      obtain ⟨v_8, ev_8, hf⟩ := st_out hf
      obtain ⟨x_9, ex_9, hf⟩ := st_out hf
      replace hj : x_9 j = x0 j := (show x_9 j = x j by rw [ex_9]; exact wr_ne (by omega)).trans hj
      rw [so_out hf]
      exact hj
theorem frX7_rule {v1 : Int32} {v2 : Int32} {j : Nat} (j0 : j ≠ 4) {x z : XS} {r : Int32} (hf : fX7_rule v1 v2 x = some (r, z)) : z j = x j := by
  obtain ⟨x0, hx0⟩ : ∃ y, y = x := ⟨_, rfl⟩
  have hj : x j = x0 j := by rw [hx0]
  rw [← hx0]
  unfold fX7_rule at hf
  rcases if_out hf with ⟨c_1, hf⟩ | ⟨c_1, hf⟩
  · skip
    rcases if_outN hf with ⟨c_2, hf⟩ | ⟨c_2, hf⟩
    · skip
      exact (frX7_rule_h35 j0 v1 v2 x hf).trans hj
    · skip
      rcases if_out hf with ⟨c_3, hf⟩ | ⟨c_3, hf⟩
      · skip
        exact (frX7_rule_h35 j0 v1 v2 x hf).trans hj
      · skip
        obtain ⟨v_4, ev_4, hf⟩ := st_out hf
        obtain ⟨x_5, ex_5, hf⟩ := st_out hf
        replace hj : x_5 j = x0 j := (show x_5 j = x j by rw [ex_5]; exact wr_ne (by omega)).trans hj
        rw [so_out hf]
        exact hj
  · skip
    rw [so_out hf]
    exact hj
theorem frX7_minutes {v1 : Int32} {j : Nat} (j0 : j ≠ 4) (j1 : j < 7 ∨ 15 ≤ j) (j2 : j ≠ 40) {x z : XS} {r : Int32} (hf : fX7_minutes v1 x = some (r, z)) : z j = x j := by
  obtain ⟨x0, hx0⟩ : ∃ y, y = x := ⟨_, rfl⟩
  have hj : x j = x0 j := by rw [hx0]
  rw [← hx0]
  unfold fX7_minutes at hf
  rcases if_out hf with ⟨c_1, hf⟩ | ⟨c_1, hf⟩
  · skip
    rw [so_out hf]
    exact hj
  · skip
    rcases if_out hf with ⟨c_2, hf⟩ | ⟨c_2, hf⟩
    · skip
      obtain ⟨v_3, ev_3, hf⟩ := st_out hf
      obtain ⟨r_4, x_5, qr_4, hf⟩ := bd_out hf
      replace hj : x_5 j = x0 j := (frX4_passMinutes (by omega) (by omega) (by omega) qr_4).trans hj
      rw [so_out hf]
      exact hj
    · skip
      rw [so_out hf]
      exact hj
theorem frX7_street {v1 : Int32} {j : Nat}  {x z : XS} {r : Int32} (hf : fX7_street v1 x = some (r, z)) : z j = x j := by
  obtain ⟨x0, hx0⟩ : ∃ y, y = x := ⟨_, rfl⟩
  have hj : x j = x0 j := by rw [hx0]
  rw [← hx0]
  unfold fX7_street at hf
  by_cases c_1 : v1 = 0
  · replace hf := if_p c_1 hf
    obtain ⟨r_2, x_3, qr_2, hf⟩ := bd_out hf
    replace hj : x_3 j = x0 j := (frX4_purses  qr_2).trans hj
    rw [so_out hf]
    exact hj
  · replace hf := if_n c_1 hf
    by_cases c_4 : v1 = 1
    · replace hf := if_p c_4 hf
      rw [so_out hf]
      exact hj
    · replace hf := if_n c_4 hf
      by_cases c_5 : v1 = 2
      · replace hf := if_p c_5 hf
        rw [so_out hf]
        exact hj
      · replace hf := if_n c_5 hf
        by_cases c_6 : v1 = 3
        · replace hf := if_p c_6 hf
          obtain ⟨r_7, x_8, qr_7, hf⟩ := bd_out hf
          replace hj : x_8 j = x0 j := (frX4_menDone  qr_7).trans hj
          rw [so_out hf]
          exact hj
        · replace hf := if_n c_6 hf
          by_cases c_9 : v1 = 4
          · replace hf := if_p c_9 hf
            obtain ⟨r_10, x_11, qr_10, hf⟩ := bd_out hf
            replace hj : x_11 j = x0 j := (frX4_busyBoys  qr_10).trans hj
            rw [so_out hf]
            exact hj
          · replace hf := if_n c_9 hf
            rw [so_out hf]
            exact hj
theorem roX7_street {v1 : Int32} {x z : XS} {r : Int32} (hf : fX7_street v1 x = some (r, z)) : z = x := funext fun j => frX7_street (j := j) hf
theorem frX7_goesTo {v1 : Int32} {v2 : Int32} {j : Nat}  {x z : XS} {r : Int32} (hf : fX7_goesTo v1 v2 x = some (r, z)) : z j = x j := by
  obtain ⟨x0, hx0⟩ : ∃ y, y = x := ⟨_, rfl⟩
  have hj : x j = x0 j := by rw [hx0]
  rw [← hx0]
  unfold fX7_goesTo at hf
  rcases if_out hf with ⟨c_1, hf⟩ | ⟨c_1, hf⟩
  · skip
    rw [so_out hf]
    exact hj
  · skip
    rcases if_out hf with ⟨c_2, hf⟩ | ⟨c_2, hf⟩
    · skip
      rw [so_out hf]
      exact hj
    · skip
      rcases if_out hf with ⟨c_3, hf⟩ | ⟨c_3, hf⟩
      · skip
        rw [so_out hf]
        exact hj
      · skip
        rcases if_out hf with ⟨c_4, hf⟩ | ⟨c_4, hf⟩
        · skip
          obtain ⟨r_5, x_6, qr_5, hf⟩ := bd_out hf
          replace hj : x_6 j = x0 j := (frX4_chosenBoy  qr_5).trans hj
          rcases if_out hf with ⟨c_7, hf⟩ | ⟨c_7, hf⟩
          · skip
            rw [so_out hf]
            exact hj
          · skip
            rw [so_out hf]
            exact hj
        · skip
          rw [so_out hf]
          exact hj
theorem roX7_goesTo {v1 : Int32} {v2 : Int32} {x z : XS} {r : Int32} (hf : fX7_goesTo v1 v2 x = some (r, z)) : z = x := funext fun j => frX7_goesTo (j := j) hf
theorem frX7_behind {v1 : Int32} {v2 : Int32} {j : Nat} (j0 : j ≠ 26) (j1 : j ≠ 28) (j2 : j < 29 ∨ 37 ≤ j) (j3 : j ≠ 40) {x z : XS} {r : Int32} (hf : fX7_behind v1 v2 x = some (r, z)) : z j = x j := by
  obtain ⟨x0, hx0⟩ : ∃ y, y = x := ⟨_, rfl⟩
  have hj : x j = x0 j := by rw [hx0]
  rw [← hx0]
  unfold fX7_behind at hf
  rcases if_out hf with ⟨c_1, hf⟩ | ⟨c_1, hf⟩
  · skip
    rw [so_out hf]
    exact hj
  · skip
    rcases if_out hf with ⟨c_2, hf⟩ | ⟨c_2, hf⟩
    · skip
      rw [so_out hf]
      exact hj
    · skip
      rcases if_out hf with ⟨c_3, hf⟩ | ⟨c_3, hf⟩
      · skip
        rw [so_out hf]
        exact hj
      · skip
        rcases if_out hf with ⟨c_4, hf⟩ | ⟨c_4, hf⟩
        · skip
          obtain ⟨r_5, x_6, qr_5, hf⟩ := bd_out hf
          replace hj : x_6 j = x0 j := (frX4_become (by omega) (by omega) (by omega) qr_5).trans hj
          obtain ⟨r_7, x_8, qr_7, hf⟩ := bd_out hf
          replace hj : x_8 j = x0 j := (frX4_passMinutes (by omega) (by omega) (by omega) qr_7).trans hj
          by_cases c_9 : v2 = 0
          · replace hf := if_p c_9 hf
            obtain ⟨r_10, x_11, qr_10, hf⟩ := bd_out hf
            replace hj : x_11 j = x0 j := (frX4_purses  qr_10).trans hj
            rw [so_out hf]
            exact hj
          · replace hf := if_n c_9 hf
            by_cases c_12 : v2 = 1
            · replace hf := if_p c_12 hf
              rw [so_out hf]
              exact hj
            · replace hf := if_n c_12 hf
              by_cases c_13 : v2 = 2
              · replace hf := if_p c_13 hf
                rw [so_out hf]
                exact hj
              · replace hf := if_n c_13 hf
                obtain ⟨gg_14, hf⟩ := gd_out hf
                have ngg_14 := inb_lt gg_14
                rw [so_out hf]
                exact hj
        · skip
          rw [so_out hf]
          exact hj
theorem frX7_mayBeThought {v0 : Int32} {j : Nat}  {x z : XS} {r : Int32} (hf : fX7_mayBeThought v0 x = some (r, z)) : z j = x j := by
  obtain ⟨x0, hx0⟩ : ∃ y, y = x := ⟨_, rfl⟩
  have hj : x j = x0 j := by rw [hx0]
  rw [← hx0]
  unfold fX7_mayBeThought at hf
  rcases if_out hf with ⟨c_1, hf⟩ | ⟨c_1, hf⟩
  · skip
    rw [so_out hf]
    exact hj
  · skip
    rcases if_out hf with ⟨c_2, hf⟩ | ⟨c_2, hf⟩
    · skip
      rw [so_out hf]
      exact hj
    · skip
      rw [so_out hf]
      exact hj
theorem roX7_mayBeThought {v0 : Int32} {x z : XS} {r : Int32} (hf : fX7_mayBeThought v0 x = some (r, z)) : z = x := funext fun j => frX7_mayBeThought (j := j) hf
theorem frX7_best_h35 {r : Int32} {z : XS} {j : Nat} (j0 : j ≠ 26) (j1 : j ≠ 28) (j2 : j < 29 ∨ 37 ≤ j) (j3 : j ≠ 40) : ∀ (x : XS), fX7_best_h35 x = some (r, z) → z j = x j := by
  intro x hf
  obtain ⟨x0, hx0⟩ : ∃ y, y = x := ⟨_, rfl⟩
  have hj : x j = x0 j := by rw [hx0]
  rw [← hx0]
  unfold fX7_best_h35 at hf
  rw [so_out hf]
  exact hj
theorem frbX7_best_h104 {r : Int32} {z : XS} {j : Nat} (j0 : j ≠ 26) (j1 : j ≠ 28) (j2 : j < 29 ∨ 37 ≤ j) (j3 : j ≠ 40) {k104 : Int32 → Int32 → Int32 → Int32 → Int32 → Int32 → Int32 → Int32 → Int32 → XS → Option (Int32 × XS)} (hk104 : ∀ (u1 : Int32) (u3 : Int32) (u4 : Int32) (u5 : Int32) (u6 : Int32) (u7 : Int32) (u8 : Int32) (u9 : Int32) (u10 : Int32) (x : XS), k104 u1 u3 u4 u5 u6 u7 u8 u9 u10 x = some (r, z) → z j = x j) : ∀ (u1 : Int32) (u3 : Int32) (u4 : Int32) (u5 : Int32) (u6 : Int32) (u7 : Int32) (u8 : Int32) (u9 : Int32) (u10 : Int32) (x : XS), bX7_best_h104 k104 u1 u3 u4 u5 u6 u7 u8 u9 u10 x = some (r, z) → z j = x j := by
  intro u1 u3 u4 u5 u6 u7 u8 u9 u10 x hf
  obtain ⟨x0, hx0⟩ : ∃ y, y = x := ⟨_, rfl⟩
  have hj : x j = x0 j := by rw [hx0]
  rw [← hx0]
  unfold bX7_best_h104 at hf
  rcases if_out hf with ⟨c_16, hf⟩ | ⟨c_16, hf⟩
  · skip
    rcases if_outN hf with ⟨c_17, hf⟩ | ⟨c_17, hf⟩
    · skip
      rw [so_out hf]
      exact hj
    · skip
      rw [so_out hf]
      exact hj
  · skip
    obtain ⟨r_18, x_19, qr_18, hf⟩ := bd_out hf
    replace hj : x_19 j = x0 j := (frX4_become (by omega) (by omega) (by omega) qr_18).trans hj
    obtain ⟨gg_20, hf⟩ := gd_out hf
    have ngg_20 := inb_lt gg_20
    obtain ⟨r_21, x_22, qr_21, hf⟩ := bd_out hf
    replace hj : x_22 j = x0 j := (frX0_change (by omega) qr_21).trans hj
    obtain ⟨r_23, x_24, qr_23, hf⟩ := bd_out hf
    replace hj : x_24 j = x0 j := (frX4_passMinutes (by omega) (by omega) (by omega) qr_23).trans hj
    obtain ⟨gg_25, hf⟩ := gd_out hf
    have ngg_25 := inb_lt gg_25
    obtain ⟨v_26, ev_26, hf⟩ := st_out hf
    rcases if_out hf with ⟨c_27, hf⟩ | ⟨c_27, hf⟩
    · skip
      obtain ⟨v_28, ev_28, hf⟩ := st_out hf
      exact (hk104 u1 u3 u4 u5 u6 u7 u10 v_26 v_28 x_24 hf).trans hj
    · skip
      rcases if_out hf with ⟨c_29, hf⟩ | ⟨c_29, hf⟩
      · skip
        obtain ⟨v_30, ev_30, hf⟩ := st_out hf
        exact (hk104 u1 u3 u4 u5 u6 u7 u8 u9 v_30 x_24 hf).trans hj
      · skip
        obtain ⟨v_31, ev_31, hf⟩ := st_out hf
        exact (hk104 u1 u3 u4 u5 u6 u7 u10 v_26 v_31 x_24 hf).trans hj
theorem frlX7_best_h104 {r : Int32} {z : XS} {j : Nat} (j0 : j ≠ 26) (j1 : j ≠ 28) (j2 : j < 29 ∨ 37 ≤ j) (j3 : j ≠ 40) (n : Nat) : ∀ (u1 : Int32) (u3 : Int32) (u4 : Int32) (u5 : Int32) (u6 : Int32) (u7 : Int32) (u8 : Int32) (u9 : Int32) (u10 : Int32) (x : XS), lX7_best_h104 n u1 u3 u4 u5 u6 u7 u8 u9 u10 x = some (r, z) → z j = x j := by
  induction n with
  | zero => intro u1 u3 u4 u5 u6 u7 u8 u9 u10 x hf; exact absurd hf (by intro q; cases q)
  | succ n ih => exact frbX7_best_h104 j0 j1 j2 j3 ih
theorem frX7_best_h104 {r : Int32} {z : XS} {j : Nat} (j0 : j ≠ 26) (j1 : j ≠ 28) (j2 : j < 29 ∨ 37 ≤ j) (j3 : j ≠ 40) : ∀ (u1 : Int32) (u3 : Int32) (u4 : Int32) (u5 : Int32) (u6 : Int32) (u7 : Int32) (u8 : Int32) (u9 : Int32) (u10 : Int32) (x : XS), fX7_best_h104 u1 u3 u4 u5 u6 u7 u8 u9 u10 x = some (r, z) → z j = x j := frlX7_best_h104 j0 j1 j2 j3 FU
theorem frX7_best_h91 {r : Int32} {z : XS} {j : Nat} (j0 : j ≠ 26) (j1 : j ≠ 28) (j2 : j < 29 ∨ 37 ≤ j) (j3 : j ≠ 40) : ∀ (u1 : Int32) (u3 : Int32) (u4 : Int32) (u5 : Int32) (u6 : Int32) (s0 : Int32) (x : XS), fX7_best_h91 u1 u3 u4 u5 u6 s0 x = some (r, z) → z j = x j := by
  intro u1 u3 u4 u5 u6 s0 x hf
  obtain ⟨x0, hx0⟩ : ∃ y, y = x := ⟨_, rfl⟩
  have hj : x j = x0 j := by rw [hx0]
  rw [← hx0]
  unfold fX7_best_h91 at hf
  exact (frX7_best_h104 j0 j1 j2 j3 u1 u3 u4 u5 u6 s0 u5 0 u5 x hf).trans hj
theorem frX7_best_h71 {r : Int32} {z : XS} {j : Nat} (j0 : j ≠ 26) (j1 : j ≠ 28) (j2 : j < 29 ∨ 37 ≤ j) (j3 : j ≠ 40) : ∀ (u1 : Int32) (u2 : Int32) (u3 : Int32) (u4 : Int32) (u5 : Int32) (s0 : Int32) (x : XS), fX7_best_h71 u1 u2 u3 u4 u5 s0 x = some (r, z) → z j = x j := by
  intro u1 u2 u3 u4 u5 s0 x hf
  obtain ⟨x0, hx0⟩ : ∃ y, y = x := ⟨_, rfl⟩
  have hj : x j = x0 j := by rw [hx0]
  rw [← hx0]
  unfold fX7_best_h71 at hf
  rcases if_outN hf with ⟨c_14, hf⟩ | ⟨c_14, hf⟩
  · skip
    rcases if_outN hf with ⟨c_15, hf⟩ | ⟨c_15, hf⟩
    · skip
      exact (frX7_best_h91 j0 j1 j2 j3 u1 u3 u4 u5 s0 2 x hf).trans hj
    · skip
      exact (frX7_best_h91 j0 j1 j2 j3 u1 u3 u4 u5 s0 1 x hf).trans hj
  · skip
    exact (frX7_best_h91 j0 j1 j2 j3 u1 u3 u4 u5 s0 3 x hf).trans hj
theorem frX7_best_h48 {r : Int32} {z : XS} {j : Nat} (j0 : j ≠ 26) (j1 : j ≠ 28) (j2 : j < 29 ∨ 37 ≤ j) (j3 : j ≠ 40) : ∀ (u1 : Int32) (u2 : Int32) (u3 : Int32) (u4 : Int32) (s0 : Int32) (x : XS), fX7_best_h48 u1 u2 u3 u4 s0 x = some (r, z) → z j = x j := by
  intro u1 u2 u3 u4 s0 x hf
  obtain ⟨x0, hx0⟩ : ∃ y, y = x := ⟨_, rfl⟩
  have hj : x j = x0 j := by rw [hx0]
  rw [← hx0]
  unfold fX7_best_h48 at hf
  rcases if_outN hf with ⟨c_12, hf⟩ | ⟨c_12, hf⟩
  · skip
    rcases if_outN hf with ⟨c_13, hf⟩ | ⟨c_13, hf⟩
    · skip
      exact (frX7_best_h71 j0 j1 j2 j3 u1 u2 u3 u4 s0 40 x hf).trans hj
    · skip
      exact (frX7_best_h71 j0 j1 j2 j3 u1 u2 u3 u4 s0 9 x hf).trans hj
  · skip
    exact (frX7_best_h71 j0 j1 j2 j3 u1 u2 u3 u4 s0 20 x hf).trans hj
theorem frX7_best {v1 : Int32} {v2 : Int32} {v3 : Int32} {v4 : Int32} {j : Nat} (j0 : j ≠ 26) (j1 : j ≠ 28) (j2 : j < 29 ∨ 37 ≤ j) (j3 : j ≠ 40) {x z : XS} {r : Int32} (hf : fX7_best v1 v2 v3 v4 x = some (r, z)) : z j = x j := by
  obtain ⟨x0, hx0⟩ : ∃ y, y = x := ⟨_, rfl⟩
  have hj : x j = x0 j := by rw [hx0]
  rw [← hx0]
  unfold fX7_best at hf
  obtain ⟨r_1, x_2, qr_1, hf⟩ := bd_out hf
  replace hj : x_2 j = x0 j := (frX7_isBoy  qr_1).trans hj
  rcases if_out hf with ⟨c_3, hf⟩ | ⟨c_3, hf⟩
  · skip
    exact (frX7_best_h35 j0 j1 j2 j3 x_2 hf).trans hj
  · skip
    rcases if_out hf with ⟨c_4, hf⟩ | ⟨c_4, hf⟩
    · skip
      exact (frX7_best_h35 j0 j1 j2 j3 x_2 hf).trans hj
    · skip
      rcases if_out hf with ⟨c_5, hf⟩ | ⟨c_5, hf⟩
      · skip
        exact (frX7_best_h35 j0 j1 j2 j3 x_2 hf).trans hj
      · skip
        obtain ⟨r_6, x_7, qr_6, hf⟩ := bd_out hf
        replace hj : x_7 j = x0 j := (frX7_mayBeThought  qr_6).trans hj
        rcases if_out hf with ⟨c_8, hf⟩ | ⟨c_8, hf⟩
        · skip
          exact (frX7_best_h35 j0 j1 j2 j3 x_7 hf).trans hj
        · skip
          rcases if_out hf with ⟨c_9, hf⟩ | ⟨c_9, hf⟩
          · skip
            exact (frX7_best_h35 j0 j1 j2 j3 x_7 hf).trans hj
          · skip
            rcases if_out hf with ⟨c_10, hf⟩ | ⟨c_10, hf⟩
            · skip
              rcases if_outN hf with ⟨c_11, hf⟩ | ⟨c_11, hf⟩
              · skip
                exact (frX7_best_h48 j0 j1 j2 j3 v1 v2 v3 v4 1 x_7 hf).trans hj
              · skip
                exact (frX7_best_h48 j0 j1 j2 j3 v1 v2 v3 v4 0 x_7 hf).trans hj
            · skip
              exact (frX7_best_h35 j0 j1 j2 j3 x_7 hf).trans hj
theorem frbX7_bestShare_h27 {r : Int32} {z : XS} {j : Nat} (j0 : j ≠ 26) (j1 : j ≠ 28) (j2 : j < 29 ∨ 37 ≤ j) (j3 : j ≠ 40) {k27 : Int32 → Int32 → Int32 → Int32 → Int32 → XS → Option (Int32 × XS)} (hk27 : ∀ (u1 : Int32) (u2 : Int32) (u3 : Int32) (u4 : Int32) (u5 : Int32) (x : XS), k27 u1 u2 u3 u4 u5 x = some (r, z) → z j = x j) : ∀ (u1 : Int32) (u2 : Int32) (u3 : Int32) (u4 : Int32) (u5 : Int32) (x : XS), bX7_bestShare_h27 k27 u1 u2 u3 u4 u5 x = some (r, z) → z j = x j := by
  intro u1 u2 u3 u4 u5 x hf
  obtain ⟨x0, hx0⟩ : ∃ y, y = x := ⟨_, rfl⟩
  have hj : x j = x0 j := by rw [hx0]
  rw [← hx0]
  unfold bX7_bestShare_h27 at hf
  rcases if_out hf with ⟨c_6, hf⟩ | ⟨c_6, hf⟩
  · skip
    rcases if_outN hf with ⟨c_7, hf⟩ | ⟨c_7, hf⟩
    · skip
      rw [so_out hf]
      exact hj
    · skip
      rw [so_out hf]
      exact hj
  · skip
    obtain ⟨r_8, x_9, qr_8, hf⟩ := bd_out hf
    replace hj : x_9 j = x0 j := (frX4_become (by omega) (by omega) (by omega) qr_8).trans hj
    obtain ⟨x_10, ex_10, hf⟩ := st_out hf
    replace hj : x_10 j = x0 j := (show x_10 j = x_9 j by rw [ex_10]; exact wr_ne (by omega)).trans hj
    obtain ⟨r_11, x_12, qr_11, hf⟩ := bd_out hf
    replace hj : x_12 j = x0 j := (frX4_passMinutes (by omega) (by omega) (by omega) qr_11).trans hj
    rcases if_out hf with ⟨c_13, hf⟩ | ⟨c_13, hf⟩
    · skip
      obtain ⟨v_14, ev_14, hf⟩ := st_out hf
      obtain ⟨v_15, ev_15, hf⟩ := st_out hf
      exact (hk27 u1 u2 u5 v_14 v_15 x_12 hf).trans hj
    · skip
      rcases if_out hf with ⟨c_16, hf⟩ | ⟨c_16, hf⟩
      · skip
        obtain ⟨v_17, ev_17, hf⟩ := st_out hf
        exact (hk27 u1 u2 u3 u4 v_17 x_12 hf).trans hj
      · skip
        obtain ⟨v_18, ev_18, hf⟩ := st_out hf
        obtain ⟨v_19, ev_19, hf⟩ := st_out hf
        exact (hk27 u1 u2 u5 v_18 v_19 x_12 hf).trans hj
theorem frlX7_bestShare_h27 {r : Int32} {z : XS} {j : Nat} (j0 : j ≠ 26) (j1 : j ≠ 28) (j2 : j < 29 ∨ 37 ≤ j) (j3 : j ≠ 40) (n : Nat) : ∀ (u1 : Int32) (u2 : Int32) (u3 : Int32) (u4 : Int32) (u5 : Int32) (x : XS), lX7_bestShare_h27 n u1 u2 u3 u4 u5 x = some (r, z) → z j = x j := by
  induction n with
  | zero => intro u1 u2 u3 u4 u5 x hf; exact absurd hf (by intro q; cases q)
  | succ n ih => exact frbX7_bestShare_h27 j0 j1 j2 j3 ih
theorem frX7_bestShare_h27 {r : Int32} {z : XS} {j : Nat} (j0 : j ≠ 26) (j1 : j ≠ 28) (j2 : j < 29 ∨ 37 ≤ j) (j3 : j ≠ 40) : ∀ (u1 : Int32) (u2 : Int32) (u3 : Int32) (u4 : Int32) (u5 : Int32) (x : XS), fX7_bestShare_h27 u1 u2 u3 u4 u5 x = some (r, z) → z j = x j := frlX7_bestShare_h27 j0 j1 j2 j3 FU
theorem frX7_bestShare {v1 : Int32} {v2 : Int32} {j : Nat} (j0 : j ≠ 26) (j1 : j ≠ 28) (j2 : j < 29 ∨ 37 ≤ j) (j3 : j ≠ 40) {x z : XS} {r : Int32} (hf : fX7_bestShare v1 v2 x = some (r, z)) : z j = x j := by
  obtain ⟨x0, hx0⟩ : ∃ y, y = x := ⟨_, rfl⟩
  have hj : x j = x0 j := by rw [hx0]
  rw [← hx0]
  unfold fX7_bestShare at hf
  obtain ⟨r_1, x_2, qr_1, hf⟩ := bd_out hf
  replace hj : x_2 j = x0 j := (frX7_mayBeThought  qr_1).trans hj
  rcases if_out hf with ⟨c_3, hf⟩ | ⟨c_3, hf⟩
  · skip
    rw [so_out hf]
    exact hj
  · skip
    rcases if_out hf with ⟨c_4, hf⟩ | ⟨c_4, hf⟩
    · skip
      rw [so_out hf]
      exact hj
    · skip
      rcases if_out hf with ⟨c_5, hf⟩ | ⟨c_5, hf⟩
      · skip
        exact (frX7_bestShare_h27 j0 j1 j2 j3 v1 v2 0 0 0 x_2 hf).trans hj
      · skip
        rw [so_out hf]
        exact hj
theorem frbX7_sentAway_h40 {r : Int32} {z : XS} {j : Nat} (j0 : j ≠ 26) (j1 : j ≠ 28) (j2 : j < 29 ∨ 37 ≤ j) (j3 : j ≠ 40) {k40 : Int32 → Int32 → Int32 → Int32 → Int32 → XS → Option (Int32 × XS)} (hk40 : ∀ (u1 : Int32) (u2 : Int32) (u3 : Int32) (u4 : Int32) (u5 : Int32) (x : XS), k40 u1 u2 u3 u4 u5 x = some (r, z) → z j = x j) : ∀ (u1 : Int32) (u2 : Int32) (u3 : Int32) (u4 : Int32) (u5 : Int32) (x : XS), bX7_sentAway_h40 k40 u1 u2 u3 u4 u5 x = some (r, z) → z j = x j := by
  intro u1 u2 u3 u4 u5 x hf
  obtain ⟨x0, hx0⟩ : ∃ y, y = x := ⟨_, rfl⟩
  have hj : x j = x0 j := by rw [hx0]
  rw [← hx0]
  unfold bX7_sentAway_h40 at hf
  rcases if_out hf with ⟨c_7, hf⟩ | ⟨c_7, hf⟩
  · skip
    rcases if_outN hf with ⟨c_8, hf⟩ | ⟨c_8, hf⟩
    · skip
      rw [so_out hf]
      exact hj
    · skip
      rw [so_out hf]
      exact hj
  · skip
    obtain ⟨r_9, x_10, qr_9, hf⟩ := bd_out hf
    replace hj : x_10 j = x0 j := (frX4_become (by omega) (by omega) (by omega) qr_9).trans hj
    obtain ⟨x_11, ex_11, hf⟩ := st_out hf
    replace hj : x_11 j = x0 j := (show x_11 j = x_10 j by rw [ex_11]; exact wr_ne (by omega)).trans hj
    obtain ⟨r_12, x_13, qr_12, hf⟩ := bd_out hf
    replace hj : x_13 j = x0 j := (frX4_passMinutes (by omega) (by omega) (by omega) qr_12).trans hj
    obtain ⟨r_14, x_15, qr_14, hf⟩ := bd_out hf
    replace hj : x_15 j = x0 j := (frX4_purses  qr_14).trans hj
    rcases if_out hf with ⟨c_16, hf⟩ | ⟨c_16, hf⟩
    · skip
      obtain ⟨v_17, ev_17, hf⟩ := st_out hf
      exact (hk40 u1 u2 u5 r_14 v_17 x_15 hf).trans hj
    · skip
      rcases if_out hf with ⟨c_18, hf⟩ | ⟨c_18, hf⟩
      · skip
        obtain ⟨v_19, ev_19, hf⟩ := st_out hf
        exact (hk40 u1 u2 u3 u4 v_19 x_15 hf).trans hj
      · skip
        obtain ⟨v_20, ev_20, hf⟩ := st_out hf
        exact (hk40 u1 u2 u5 r_14 v_20 x_15 hf).trans hj
theorem frlX7_sentAway_h40 {r : Int32} {z : XS} {j : Nat} (j0 : j ≠ 26) (j1 : j ≠ 28) (j2 : j < 29 ∨ 37 ≤ j) (j3 : j ≠ 40) (n : Nat) : ∀ (u1 : Int32) (u2 : Int32) (u3 : Int32) (u4 : Int32) (u5 : Int32) (x : XS), lX7_sentAway_h40 n u1 u2 u3 u4 u5 x = some (r, z) → z j = x j := by
  induction n with
  | zero => intro u1 u2 u3 u4 u5 x hf; exact absurd hf (by intro q; cases q)
  | succ n ih => exact frbX7_sentAway_h40 j0 j1 j2 j3 ih
theorem frX7_sentAway_h40 {r : Int32} {z : XS} {j : Nat} (j0 : j ≠ 26) (j1 : j ≠ 28) (j2 : j < 29 ∨ 37 ≤ j) (j3 : j ≠ 40) : ∀ (u1 : Int32) (u2 : Int32) (u3 : Int32) (u4 : Int32) (u5 : Int32) (x : XS), fX7_sentAway_h40 u1 u2 u3 u4 u5 x = some (r, z) → z j = x j := frlX7_sentAway_h40 j0 j1 j2 j3 FU
theorem frX7_sentAway {v1 : Int32} {v2 : Int32} {j : Nat} (j0 : j ≠ 26) (j1 : j ≠ 28) (j2 : j < 29 ∨ 37 ≤ j) (j3 : j ≠ 40) {x z : XS} {r : Int32} (hf : fX7_sentAway v1 v2 x = some (r, z)) : z j = x j := by
  obtain ⟨x0, hx0⟩ : ∃ y, y = x := ⟨_, rfl⟩
  have hj : x j = x0 j := by rw [hx0]
  rw [← hx0]
  unfold fX7_sentAway at hf
  obtain ⟨r_1, x_2, qr_1, hf⟩ := bd_out hf
  replace hj : x_2 j = x0 j := (frX7_mayBeThought  qr_1).trans hj
  rcases if_out hf with ⟨c_3, hf⟩ | ⟨c_3, hf⟩
  · skip
    rw [so_out hf]
    exact hj
  · skip
    rcases if_out hf with ⟨c_4, hf⟩ | ⟨c_4, hf⟩
    · skip
      rw [so_out hf]
      exact hj
    · skip
      rcases if_out hf with ⟨c_5, hf⟩ | ⟨c_5, hf⟩
      · skip
        rcases if_outN hf with ⟨c_6, hf⟩ | ⟨c_6, hf⟩
        · skip
          exact (frX7_sentAway_h40 j0 j1 j2 j3 v1 v2 0 0 0 x_2 hf).trans hj
        · skip
          rw [so_out hf]
          exact hj
      · skip
        rw [so_out hf]
        exact hj
theorem frX7_dry {v1 : Int32} {j : Nat} (j0 : j ≠ 26) (j1 : j ≠ 28) (j2 : j < 29 ∨ 37 ≤ j) (j3 : j ≠ 40) {x z : XS} {r : Int32} (hf : fX7_dry v1 x = some (r, z)) : z j = x j := by
  obtain ⟨x0, hx0⟩ : ∃ y, y = x := ⟨_, rfl⟩
  have hj : x j = x0 j := by rw [hx0]
  rw [← hx0]
  unfold fX7_dry at hf
  obtain ⟨r_1, x_2, qr_1, hf⟩ := bd_out hf
  replace hj : x_2 j = x0 j := (frX7_mayBeThought  qr_1).trans hj
  rcases if_outN hf with ⟨c_3, hf⟩ | ⟨c_3, hf⟩
  · skip
    obtain ⟨r_4, x_5, qr_4, hf⟩ := bd_out hf
    replace hj : x_5 j = x0 j := (frX4_become (by omega) (by omega) (by omega) qr_4).trans hj
    obtain ⟨r_6, x_7, qr_6, hf⟩ := bd_out hf
    replace hj : x_7 j = x0 j := (frX4_passMinutes (by omega) (by omega) (by omega) qr_6).trans hj
    obtain ⟨r_8, x_9, qr_8, hf⟩ := bd_out hf
    replace hj : x_9 j = x0 j := (frX4_purses  qr_8).trans hj
    obtain ⟨r_10, x_11, qr_10, hf⟩ := bd_out hf
    replace hj : x_11 j = x0 j := (frX4_become (by omega) (by omega) (by omega) qr_10).trans hj
    obtain ⟨x_12, ex_12, hf⟩ := st_out hf
    replace hj : x_12 j = x0 j := (show x_12 j = x_11 j by rw [ex_12]; exact wr_ne (by omega)).trans hj
    obtain ⟨x_13, ex_13, hf⟩ := st_out hf
    replace hj : x_13 j = x0 j := (show x_13 j = x_12 j by rw [ex_13]; exact wr_ne (by omega)).trans hj
    obtain ⟨r_14, x_15, qr_14, hf⟩ := bd_out hf
    replace hj : x_15 j = x0 j := (frX4_passMinutes (by omega) (by omega) (by omega) qr_14).trans hj
    obtain ⟨r_16, x_17, qr_16, hf⟩ := bd_out hf
    replace hj : x_17 j = x0 j := (frX4_purses  qr_16).trans hj
    rw [so_out hf]
    exact hj
  · skip
    rw [so_out hf]
    exact hj
theorem frX7_isSheet {v0 : Int32} {j : Nat}  {x z : XS} {r : Int32} (hf : fX7_isSheet v0 x = some (r, z)) : z j = x j := by
  obtain ⟨x0, hx0⟩ : ∃ y, y = x := ⟨_, rfl⟩
  have hj : x j = x0 j := by rw [hx0]
  rw [← hx0]
  unfold fX7_isSheet at hf
  rcases if_out hf with ⟨c_1, hf⟩ | ⟨c_1, hf⟩
  · skip
    rw [so_out hf]
    exact hj
  · skip
    rcases if_out hf with ⟨c_2, hf⟩ | ⟨c_2, hf⟩
    · skip
      rw [so_out hf]
      exact hj
    · skip
      rw [so_out hf]
      exact hj
theorem roX7_isSheet {v0 : Int32} {x z : XS} {r : Int32} (hf : fX7_isSheet v0 x = some (r, z)) : z = x := funext fun j => frX7_isSheet (j := j) hf
theorem frbX7_differences_h5 {a1 : Nat} {a2 : Nat} {r : Int32} {z : XS} {j : Nat} (j0 : j ≠ 40) {k5 : Int32 → Int32 → XS → Option (Int32 × XS)} (hk5 : ∀ (u3 : Int32) (u4 : Int32) (x : XS), k5 u3 u4 x = some (r, z) → z j = x j) : ∀ (u3 : Int32) (u4 : Int32) (x : XS), bX7_differences_h5 a1 a2 k5 u3 u4 x = some (r, z) → z j = x j := by
  intro u3 u4 x hf
  obtain ⟨x0, hx0⟩ : ∃ y, y = x := ⟨_, rfl⟩
  have hj : x j = x0 j := by rw [hx0]
  rw [← hx0]
  unfold bX7_differences_h5 at hf
  rcases if_out hf with ⟨c_1, hf⟩ | ⟨c_1, hf⟩
  · skip
    rw [so_out hf]
    exact hj
  · skip
    obtain ⟨r_2, x_3, qr_2, hf⟩ := bd_out hf
    replace hj : x_3 j = x0 j := (frX2_hasNumber  qr_2).trans hj
    rcases if_out hf with ⟨c_4, hf⟩ | ⟨c_4, hf⟩
    · skip
      obtain ⟨v_5, ev_5, hf⟩ := st_out hf
      exact (hk5 u3 v_5 x_3 hf).trans hj
    · skip
      obtain ⟨r_6, x_7, qr_6, hf⟩ := bd_out hf
      replace hj : x_7 j = x0 j := (frX4_shineOf (by omega) qr_6).trans hj
      obtain ⟨gg_8, hf⟩ := gd_out hf
      have ngg_8 := inb_lt gg_8
      obtain ⟨v_9, ev_9, hf⟩ := st_out hf
      obtain ⟨v_10, ev_10, hf⟩ := st_out hf
      obtain ⟨v_11, ev_11, hf⟩ := st_out hf
      exact (hk5 v_10 v_11 x_7 hf).trans hj
theorem frlX7_differences_h5 {a1 : Nat} {a2 : Nat} {r : Int32} {z : XS} {j : Nat} (j0 : j ≠ 40) (n : Nat) : ∀ (u3 : Int32) (u4 : Int32) (x : XS), lX7_differences_h5 a1 a2 n u3 u4 x = some (r, z) → z j = x j := by
  induction n with
  | zero => intro u3 u4 x hf; exact absurd hf (by intro q; cases q)
  | succ n ih => exact frbX7_differences_h5 j0 ih
theorem frX7_differences_h5 {a1 : Nat} {a2 : Nat} {r : Int32} {z : XS} {j : Nat} (j0 : j ≠ 40) : ∀ (u3 : Int32) (u4 : Int32) (x : XS), fX7_differences_h5 a1 a2 u3 u4 x = some (r, z) → z j = x j := frlX7_differences_h5 j0 FU
theorem frX7_differences {a1 : Nat} {a2 : Nat} {j : Nat} (j0 : j ≠ 40) {x z : XS} {r : Int32} (hf : fX7_differences a1 a2 x = some (r, z)) : z j = x j := by
  obtain ⟨x0, hx0⟩ : ∃ y, y = x := ⟨_, rfl⟩
  have hj : x j = x0 j := by rw [hx0]
  rw [← hx0]
  unfold fX7_differences at hf
  exact (frX7_differences_h5 j0 0 0 x hf).trans hj
theorem frbX7_shone_h55 {r : Int32} {z : XS} {j : Nat} (j0 : j ≠ 40) {k55 : Int32 → Int32 → Int32 → Int32 → Int32 → XS → Option (Int32 × XS)} (hk55 : ∀ (u1 : Int32) (u2 : Int32) (u3 : Int32) (u4 : Int32) (u5 : Int32) (x : XS), k55 u1 u2 u3 u4 u5 x = some (r, z) → z j = x j) : ∀ (u1 : Int32) (u2 : Int32) (u3 : Int32) (u4 : Int32) (u5 : Int32) (x : XS), bX7_shone_h55 k55 u1 u2 u3 u4 u5 x = some (r, z) → z j = x j := by
  intro u1 u2 u3 u4 u5 x hf
  obtain ⟨x0, hx0⟩ : ∃ y, y = x := ⟨_, rfl⟩
  have hj : x j = x0 j := by rw [hx0]
  rw [← hx0]
  unfold bX7_shone_h55 at hf
  rcases if_out hf with ⟨c_11, hf⟩ | ⟨c_11, hf⟩
  · skip
    rcases if_outN hf with ⟨c_12, hf⟩ | ⟨c_12, hf⟩
    · skip
      rw [so_out hf]
      exact hj
    · skip
      rw [so_out hf]
      exact hj
  · skip
    obtain ⟨gg_13, hf⟩ := gd_out hf
    have ngg_13 := inb_lt gg_13
    obtain ⟨gg_14, hf⟩ := gd_out hf
    have ngg_14 := inb_lt gg_14
    obtain ⟨r_15, x_16, qr_15, hf⟩ := bd_out hf
    replace hj : x_16 j = x0 j := (frX7_differences (by omega) qr_15).trans hj
    rcases if_out hf with ⟨c_17, hf⟩ | ⟨c_17, hf⟩
    · skip
      obtain ⟨v_18, ev_18, hf⟩ := st_out hf
      exact (hk55 u1 u2 u5 r_15 v_18 x_16 hf).trans hj
    · skip
      rcases if_out hf with ⟨c_19, hf⟩ | ⟨c_19, hf⟩
      · skip
        obtain ⟨v_20, ev_20, hf⟩ := st_out hf
        exact (hk55 u1 u2 u3 u4 v_20 x_16 hf).trans hj
      · skip
        obtain ⟨v_21, ev_21, hf⟩ := st_out hf
        exact (hk55 u1 u2 u5 r_15 v_21 x_16 hf).trans hj
theorem frlX7_shone_h55 {r : Int32} {z : XS} {j : Nat} (j0 : j ≠ 40) (n : Nat) : ∀ (u1 : Int32) (u2 : Int32) (u3 : Int32) (u4 : Int32) (u5 : Int32) (x : XS), lX7_shone_h55 n u1 u2 u3 u4 u5 x = some (r, z) → z j = x j := by
  induction n with
  | zero => intro u1 u2 u3 u4 u5 x hf; exact absurd hf (by intro q; cases q)
  | succ n ih => exact frbX7_shone_h55 j0 ih
theorem frX7_shone_h55 {r : Int32} {z : XS} {j : Nat} (j0 : j ≠ 40) : ∀ (u1 : Int32) (u2 : Int32) (u3 : Int32) (u4 : Int32) (u5 : Int32) (x : XS), fX7_shone_h55 u1 u2 u3 u4 u5 x = some (r, z) → z j = x j := frlX7_shone_h55 j0 FU
theorem frX7_shone {v1 : Int32} {v2 : Int32} {j : Nat} (j0 : j ≠ 40) {x z : XS} {r : Int32} (hf : fX7_shone v1 v2 x = some (r, z)) : z j = x j := by
  obtain ⟨x0, hx0⟩ : ∃ y, y = x := ⟨_, rfl⟩
  have hj : x j = x0 j := by rw [hx0]
  rw [← hx0]
  unfold fX7_shone at hf
  obtain ⟨r_1, x_2, qr_1, hf⟩ := bd_out hf
  replace hj : x_2 j = x0 j := (frX7_isSheet  qr_1).trans hj
  rcases if_out hf with ⟨c_3, hf⟩ | ⟨c_3, hf⟩
  · skip
    rw [so_out hf]
    exact hj
  · skip
    rcases if_out hf with ⟨c_4, hf⟩ | ⟨c_4, hf⟩
    · skip
      rw [so_out hf]
      exact hj
    · skip
      rcases if_out hf with ⟨c_5, hf⟩ | ⟨c_5, hf⟩
      · skip
        obtain ⟨gg_6, hf⟩ := gd_out hf
        have ngg_6 := inb_lt gg_6
        obtain ⟨r_7, x_8, qr_7, hf⟩ := bd_out hf
        replace hj : x_8 j = x0 j := (frX2_isMissing  qr_7).trans hj
        rcases if_out hf with ⟨c_9, hf⟩ | ⟨c_9, hf⟩
        · skip
          rcases if_outN hf with ⟨c_10, hf⟩ | ⟨c_10, hf⟩
          · skip
            exact (frX7_shone_h55 j0 v1 v2 0 0 0 x_8 hf).trans hj
          · skip
            rw [so_out hf]
            exact hj
        · skip
          rw [so_out hf]
          exact hj
      · skip
        rw [so_out hf]
        exact hj
theorem frX7_fee {j : Nat} (j0 : j ≠ 40) {x z : XS} {r : Int32} (hf : fX7_fee x = some (r, z)) : z j = x j := by
  obtain ⟨x0, hx0⟩ : ∃ y, y = x := ⟨_, rfl⟩
  have hj : x j = x0 j := by rw [hx0]
  rw [← hx0]
  unfold fX7_fee at hf
  obtain ⟨r_1, x_2, qr_1, hf⟩ := bd_out hf
  replace hj : x_2 j = x0 j := (frX4_law  qr_1).trans hj
  rcases if_outN hf with ⟨c_3, hf⟩ | ⟨c_3, hf⟩
  · skip
    obtain ⟨glc_3, hf⟩ := gd_out hf
    obtain ⟨r_4, x_5, qr_4, hf⟩ := bd_out hf
    replace hj : x_5 j = x0 j := (frX6_value (by omega) qr_4).trans hj
    rw [so_out hf]
    exact hj
  · skip
    rw [so_out hf]
    exact hj
theorem frX7_fine {v1 : Int32} {j : Nat} (j0 : j ≠ 40) {x z : XS} {r : Int32} (hf : fX7_fine v1 x = some (r, z)) : z j = x j := by
  obtain ⟨x0, hx0⟩ : ∃ y, y = x := ⟨_, rfl⟩
  have hj : x j = x0 j := by rw [hx0]
  rw [← hx0]
  unfold fX7_fine at hf
  obtain ⟨r_1, x_2, qr_1, hf⟩ := bd_out hf
  replace hj : x_2 j = x0 j := (frX7_isBoy  qr_1).trans hj
  rcases if_outN hf with ⟨c_3, hf⟩ | ⟨c_3, hf⟩
  · skip
    obtain ⟨gg_4, hf⟩ := gd_out hf
    have ngg_4 := inb_lt gg_4
    obtain ⟨r_5, x_6, qr_5, hf⟩ := bd_out hf
    replace hj : x_6 j = x0 j := (frX4_law  qr_5).trans hj
    rcases if_outN hf with ⟨c_7, hf⟩ | ⟨c_7, hf⟩
    · skip
      obtain ⟨glc_7, hf⟩ := gd_out hf
      obtain ⟨r_8, x_9, qr_8, hf⟩ := bd_out hf
      replace hj : x_9 j = x0 j := (frX6_value (by omega) qr_8).trans hj
      rw [so_out hf]
      exact hj
    · skip
      rw [so_out hf]
      exact hj
  · skip
    rw [so_out hf]
    exact hj
theorem frX7_feed {v1 : Int32} {v2 : Int32} {v3 : Int32} {j : Nat} (j0 : j ≠ 3) (j1 : j ≠ 2) {x z : XS} {r : Int32} (hf : fX7_feed v1 v2 v3 x = some (r, z)) : z j = x j := by
  obtain ⟨x0, hx0⟩ : ∃ y, y = x := ⟨_, rfl⟩
  have hj : x j = x0 j := by rw [hx0]
  rw [← hx0]
  unfold fX7_feed at hf
  rcases if_out hf with ⟨c_1, hf⟩ | ⟨c_1, hf⟩
  · skip
    obtain ⟨r_2, x_3, qr_2, hf⟩ := bd_out hf
    replace hj : x_3 j = x0 j := (frX5_addNumber (by omega) (by omega) qr_2).trans hj
    obtain ⟨r_4, x_5, qr_4, hf⟩ := bd_out hf
    replace hj : x_5 j = x0 j := (frX5_addNumber (by omega) (by omega) qr_4).trans hj
    obtain ⟨r_6, x_7, qr_6, hf⟩ := bd_out hf
    replace hj : x_7 j = x0 j := (frX5_addNumber (by omega) (by omega) qr_6).trans hj
    rw [so_out hf]
    exact hj
  · skip
    rw [so_out hf]
    exact hj
theorem frX7_trim {v1 : Int32} {j : Nat} (j0 : j ≠ 2) {x z : XS} {r : Int32} (hf : fX7_trim v1 x = some (r, z)) : z j = x j := by
  obtain ⟨x0, hx0⟩ : ∃ y, y = x := ⟨_, rfl⟩
  have hj : x j = x0 j := by rw [hx0]
  rw [← hx0]
  unfold fX7_trim at hf
  rcases if_out hf with ⟨c_1, hf⟩ | ⟨c_1, hf⟩
  · skip
    rw [so_out hf]
    exact hj
  · skip
    rcases if_out hf with ⟨c_2, hf⟩ | ⟨c_2, hf⟩
    · skip
      obtain ⟨x_3, ex_3, hf⟩ := st_out hf
      replace hj : x_3 j = x0 j := (show x_3 j = x j by rw [ex_3]; exact wr_ne (by omega)).trans hj
      rw [so_out hf]
      exact hj
    · skip
      rw [so_out hf]
      exact hj
theorem frX7_text {j : Nat} (j0 : j ≠ 2) (j1 : j < 41 ∨ 71 ≤ j) (j2 : j ≠ 6) (j3 : j ≠ 4) {x z : XS} {r : Int32} (hf : fX7_text x = some (r, z)) : z j = x j := by
  obtain ⟨x0, hx0⟩ : ∃ y, y = x := ⟨_, rfl⟩
  have hj : x j = x0 j := by rw [hx0]
  rw [← hx0]
  unfold fX7_text at hf
  obtain ⟨v_1, ev_1, hf⟩ := st_out hf
  obtain ⟨gg_2, hf⟩ := gd_out hf
  have ngg_2 := inb_lt gg_2
  obtain ⟨r_3, x_4, qr_3, hf⟩ := bd_out hf
  replace hj : x_4 j = x0 j := (frX5_useUp (by omega) (by omega) (by omega) qr_3).trans hj
  rcases if_out hf with ⟨c_5, hf⟩ | ⟨c_5, hf⟩
  · skip
    rcases if_out hf with ⟨c_6, hf⟩ | ⟨c_6, hf⟩
    · skip
      obtain ⟨r_7, x_8, qr_7, hf⟩ := bd_out hf
      replace hj : x_8 j = x0 j := (frX4_countText (by omega) (by omega) qr_7).trans hj
      rw [so_out hf]
      exact hj
    · skip
      rw [so_out hf]
      exact hj
  · skip
    rw [so_out hf]
    exact hj
theorem frX7_textTold {v1 : Int32} {v2 : Int32} {j : Nat}  {x z : XS} {r : Int32} (hf : fX7_textTold v1 v2 x = some (r, z)) : z j = x j := by
  obtain ⟨x0, hx0⟩ : ∃ y, y = x := ⟨_, rfl⟩
  have hj : x j = x0 j := by rw [hx0]
  rw [← hx0]
  unfold fX7_textTold at hf
  rcases if_out hf with ⟨c_1, hf⟩ | ⟨c_1, hf⟩
  · skip
    rw [so_out hf]
    exact hj
  · skip
    rcases if_out hf with ⟨c_2, hf⟩ | ⟨c_2, hf⟩
    · skip
      rw [so_out hf]
      exact hj
    · skip
      rcases if_out hf with ⟨c_3, hf⟩ | ⟨c_3, hf⟩
      · skip
        rw [so_out hf]
        exact hj
      · skip
        rcases if_out hf with ⟨c_4, hf⟩ | ⟨c_4, hf⟩
        · skip
          rcases if_outN hf with ⟨c_5, hf⟩ | ⟨c_5, hf⟩
          · skip
            obtain ⟨gg_6, hf⟩ := gd_out hf
            have ngg_6 := inb_lt gg_6
            rw [so_out hf]
            exact hj
          · skip
            obtain ⟨gg_7, hf⟩ := gd_out hf
            have ngg_7 := inb_lt gg_7
            rw [so_out hf]
            exact hj
        · skip
          rw [so_out hf]
          exact hj
theorem roX7_textTold {v1 : Int32} {v2 : Int32} {x z : XS} {r : Int32} (hf : fX7_textTold v1 v2 x = some (r, z)) : z = x := funext fun j => frX7_textTold (j := j) hf
theorem frX7_why {v1 : Int32} {j : Nat}  {x z : XS} {r : Int32} (hf : fX7_why v1 x = some (r, z)) : z j = x j := by
  obtain ⟨x0, hx0⟩ : ∃ y, y = x := ⟨_, rfl⟩
  have hj : x j = x0 j := by rw [hx0]
  rw [← hx0]
  unfold fX7_why at hf
  rcases if_out hf with ⟨c_1, hf⟩ | ⟨c_1, hf⟩
  · skip
    rw [so_out hf]
    exact hj
  · skip
    rcases if_out hf with ⟨c_2, hf⟩ | ⟨c_2, hf⟩
    · skip
      obtain ⟨r_3, x_4, qr_3, hf⟩ := bd_out hf
      replace hj : x_4 j = x0 j := (frX4_law  qr_3).trans hj
      rcases if_outN hf with ⟨c_5, hf⟩ | ⟨c_5, hf⟩
      · skip
        obtain ⟨glc_5, hf⟩ := gd_out hf
        rw [so_out hf]
        exact hj
      · skip
        rw [so_out hf]
        exact hj
    · skip
      rw [so_out hf]
      exact hj
theorem roX7_why {v1 : Int32} {x z : XS} {r : Int32} (hf : fX7_why v1 x = some (r, z)) : z = x := funext fun j => frX7_why (j := j) hf
theorem frX7_sheet {v1 : Int32} {v2 : Int32} {v3 : Int32} {j : Nat} (j0 : j < 71 ∨ 79 ≤ j) {x z : XS} {r : Int32} (hf : fX7_sheet v1 v2 v3 x = some (r, z)) : z j = x j := by
  obtain ⟨x0, hx0⟩ : ∃ y, y = x := ⟨_, rfl⟩
  have hj : x j = x0 j := by rw [hx0]
  rw [← hx0]
  unfold fX7_sheet at hf
  obtain ⟨r_1, x_2, qr_1, hf⟩ := bd_out hf
  replace hj : x_2 j = x0 j := (frX7_isSheet  qr_1).trans hj
  rcases if_out hf with ⟨c_3, hf⟩ | ⟨c_3, hf⟩
  · skip
    rw [so_out hf]
    exact hj
  · skip
    rcases if_out hf with ⟨c_4, hf⟩ | ⟨c_4, hf⟩
    · skip
      rw [so_out hf]
      exact hj
    · skip
      rcases if_out hf with ⟨c_5, hf⟩ | ⟨c_5, hf⟩
      · skip
        rcases if_outN hf with ⟨c_6, hf⟩ | ⟨c_6, hf⟩
        · skip
          rcases if_out hf with ⟨c_7, hf⟩ | ⟨c_7, hf⟩
          · skip
            rcases if_out hf with ⟨c_8, hf⟩ | ⟨c_8, hf⟩
            · skip
              obtain ⟨gg_9, hf⟩ := gd_out hf
              have ngg_9 := inb_lt gg_9
              obtain ⟨r_10, x_11, qr_10, hf⟩ := bd_out hf
              replace hj : x_11 j = x0 j := (frX2_renew (by omega) (by omega) qr_10).trans hj
              rw [so_out hf]
              exact hj
            · skip
              rw [so_out hf]
              exact hj
          · skip
            rw [so_out hf]
            exact hj
        · skip
          obtain ⟨gg_12, hf⟩ := gd_out hf
          have ngg_12 := inb_lt gg_12
          obtain ⟨r_13, x_14, qr_13, hf⟩ := bd_out hf
          replace hj : x_14 j = x0 j := (frX2_renew (by omega) (by omega) qr_13).trans hj
          rw [so_out hf]
          exact hj
      · skip
        rw [so_out hf]
        exact hj
theorem frX7_mark {v1 : Int32} {v2 : Int32} {v3 : Int32} {j : Nat} (j0 : j < 71 ∨ 79 ≤ j) {x z : XS} {r : Int32} (hf : fX7_mark v1 v2 v3 x = some (r, z)) : z j = x j := by
  obtain ⟨x0, hx0⟩ : ∃ y, y = x := ⟨_, rfl⟩
  have hj : x j = x0 j := by rw [hx0]
  rw [← hx0]
  unfold fX7_mark at hf
  obtain ⟨r_1, x_2, qr_1, hf⟩ := bd_out hf
  replace hj : x_2 j = x0 j := (frX7_isSheet  qr_1).trans hj
  rcases if_outN hf with ⟨c_3, hf⟩ | ⟨c_3, hf⟩
  · skip
    obtain ⟨gg_4, hf⟩ := gd_out hf
    have ngg_4 := inb_lt gg_4
    obtain ⟨r_5, x_6, qr_5, hf⟩ := bd_out hf
    replace hj : x_6 j = x0 j := (frX2_isMissing  qr_5).trans hj
    rcases if_out hf with ⟨c_7, hf⟩ | ⟨c_7, hf⟩
    · skip
      obtain ⟨r_8, x_9, qr_8, hf⟩ := bd_out hf
      replace hj : x_9 j = x0 j := (frX2_hasPlace  qr_8).trans hj
      rcases if_outN hf with ⟨c_10, hf⟩ | ⟨c_10, hf⟩
      · skip
        rcases if_outN hf with ⟨c_11, hf⟩ | ⟨c_11, hf⟩
        · skip
          rcases if_out hf with ⟨c_12, hf⟩ | ⟨c_12, hf⟩
          · skip
            obtain ⟨gg_13, hf⟩ := gd_out hf
            have ngg_13 := inb_lt gg_13
            obtain ⟨x_14, ex_14, hf⟩ := st_out hf
            replace hj : x_14 j = x0 j := (show x_14 j = x_9 j by rw [ex_14]; exact wr_ne (by omega)).trans hj
            rw [so_out hf]
            exact hj
          · skip
            rcases if_out hf with ⟨c_15, hf⟩ | ⟨c_15, hf⟩
            · skip
              rw [so_out hf]
              exact hj
            · skip
              rcases if_out hf with ⟨c_16, hf⟩ | ⟨c_16, hf⟩
              · skip
                obtain ⟨gg_17, hf⟩ := gd_out hf
                have ngg_17 := inb_lt gg_17
                obtain ⟨x_18, ex_18, hf⟩ := st_out hf
                replace hj : x_18 j = x0 j := (show x_18 j = x_9 j by rw [ex_18]; exact wr_ne (by omega)).trans hj
                rw [so_out hf]
                exact hj
              · skip
                rw [so_out hf]
                exact hj
        · skip
          rcases if_outN hf with ⟨c_19, hf⟩ | ⟨c_19, hf⟩
          · skip
            obtain ⟨v_20, ev_20, hf⟩ := st_out hf
            obtain ⟨gg_21, hf⟩ := gd_out hf
            have ngg_21 := inb_lt gg_21
            obtain ⟨x_22, ex_22, hf⟩ := st_out hf
            replace hj : x_22 j = x0 j := (show x_22 j = x_9 j by rw [ex_22]; exact wr_ne (by omega)).trans hj
            rw [so_out hf]
            exact hj
          · skip
            rw [so_out hf]
            exact hj
      · skip
        rw [so_out hf]
        exact hj
    · skip
      rw [so_out hf]
      exact hj
  · skip
    rw [so_out hf]
    exact hj
theorem frX7_pour_h92 {r : Int32} {z : XS} {j : Nat} (j0 : j < 7 ∨ 15 ≤ j) {k32 : Nat → Int32 → Int32 → XS → Option (Int32 × XS)} (hk32 : ∀ (u2 : Nat) (u3 : Int32) (u4 : Int32) (x : XS), k32 u2 u3 u4 x = some (r, z) → z j = x j) : ∀ (u2 : Nat) (u3 : Int32) (u4 : Int32) (u5 : Int32) (x : XS), fX7_pour_h92 k32 u2 u3 u4 u5 x = some (r, z) → z j = x j := by
  intro u2 u3 u4 u5 x hf
  obtain ⟨x0, hx0⟩ : ∃ y, y = x := ⟨_, rfl⟩
  have hj : x j = x0 j := by rw [hx0]
  rw [← hx0]
  unfold fX7_pour_h92 at hf
  obtain ⟨gg_19, hf⟩ := gd_out hf
  have ngg_19 := inb_lt gg_19
  obtain ⟨x_20, ex_20, hf⟩ := st_out hf
  replace hj : x_20 j = x0 j := (show x_20 j = x j by rw [ex_20]; exact wr_ne (by omega)).trans hj
  obtain ⟨v_21, ev_21, hf⟩ := st_out hf
  exact (hk32 u2 u3 v_21 x_20 hf).trans hj
theorem frbX7_pour_h32 {r : Int32} {z : XS} {j : Nat} (j0 : j < 7 ∨ 15 ≤ j) {k32 : Nat → Int32 → Int32 → XS → Option (Int32 × XS)} (hk32 : ∀ (u2 : Nat) (u3 : Int32) (u4 : Int32) (x : XS), k32 u2 u3 u4 x = some (r, z) → z j = x j) : ∀ (u2 : Nat) (u3 : Int32) (u4 : Int32) (x : XS), bX7_pour_h32 k32 u2 u3 u4 x = some (r, z) → z j = x j := by
  intro u2 u3 u4 x hf
  obtain ⟨x0, hx0⟩ : ∃ y, y = x := ⟨_, rfl⟩
  have hj : x j = x0 j := by rw [hx0]
  rw [← hx0]
  unfold bX7_pour_h32 at hf
  rcases if_out hf with ⟨c_8, hf⟩ | ⟨c_8, hf⟩
  · skip
    rw [so_out hf]
    exact hj
  · skip
    obtain ⟨r_9, x_10, qr_9, hf⟩ := bd_out hf
    replace hj : x_10 j = x0 j := (frX2_hasNumber  qr_9).trans hj
    rcases if_out hf with ⟨c_11, hf⟩ | ⟨c_11, hf⟩
    · skip
      obtain ⟨v_12, ev_12, hf⟩ := st_out hf
      exact (hk32 u2 u3 v_12 x_10 hf).trans hj
    · skip
      obtain ⟨gg_13, hf⟩ := gd_out hf
      have ngg_13 := inb_lt gg_13
      obtain ⟨v_14, ev_14, hf⟩ := st_out hf
      obtain ⟨v_15, ev_15, hf⟩ := st_out hf
      obtain ⟨gg_16, hf⟩ := gd_out hf
      have ngg_16 := inb_lt gg_16
      rcases if_out hf with ⟨c_17, hf⟩ | ⟨c_17, hf⟩
      · skip
        exact (frX7_pour_h92 j0 hk32 u2 u3 u4 v_15 x_10 hf).trans hj
      · skip
        obtain ⟨v_18, ev_18, hf⟩ := st_out hf
        exact (frX7_pour_h92 j0 hk32 u2 v_18 u4 v_15 x_10 hf).trans hj
theorem frlX7_pour_h32 {r : Int32} {z : XS} {j : Nat} (j0 : j < 7 ∨ 15 ≤ j) (n : Nat) : ∀ (u2 : Nat) (u3 : Int32) (u4 : Int32) (x : XS), lX7_pour_h32 n u2 u3 u4 x = some (r, z) → z j = x j := by
  induction n with
  | zero => intro u2 u3 u4 x hf; exact absurd hf (by intro q; cases q)
  | succ n ih => exact frbX7_pour_h32 j0 ih
theorem frX7_pour_h32 {r : Int32} {z : XS} {j : Nat} (j0 : j < 7 ∨ 15 ≤ j) : ∀ (u2 : Nat) (u3 : Int32) (u4 : Int32) (x : XS), fX7_pour_h32 u2 u3 u4 x = some (r, z) → z j = x j := frlX7_pour_h32 j0 FU
theorem frX7_pour {v1 : Int32} {j : Nat} (j0 : j < 7 ∨ 15 ≤ j) {x z : XS} {r : Int32} (hf : fX7_pour v1 x = some (r, z)) : z j = x j := by
  obtain ⟨x0, hx0⟩ : ∃ y, y = x := ⟨_, rfl⟩
  have hj : x j = x0 j := by rw [hx0]
  rw [← hx0]
  unfold fX7_pour at hf
  obtain ⟨r_1, x_2, qr_1, hf⟩ := bd_out hf
  replace hj : x_2 j = x0 j := (frX7_isSheet  qr_1).trans hj
  rcases if_outN hf with ⟨c_3, hf⟩ | ⟨c_3, hf⟩
  · skip
    obtain ⟨gg_4, hf⟩ := gd_out hf
    have ngg_4 := inb_lt gg_4
    obtain ⟨r_5, x_6, qr_5, hf⟩ := bd_out hf
    replace hj : x_6 j = x0 j := (frX2_isMissing  qr_5).trans hj
    rcases if_out hf with ⟨c_7, hf⟩ | ⟨c_7, hf⟩
    · skip
      exact (frX7_pour_h32 j0 (71 + 2 * (ix v1)) 0 0 x_6 hf).trans hj
    · skip
      rw [so_out hf]
      exact hj
  · skip
    rw [so_out hf]
    exact hj
theorem frbX7_reads_h29 {r : Int32} {z : XS} {j : Nat}  {k29 : Nat → Int32 → XS → Option (Int32 × XS)} (hk29 : ∀ (u2 : Nat) (u3 : Int32) (x : XS), k29 u2 u3 x = some (r, z) → z j = x j) : ∀ (u2 : Nat) (u3 : Int32) (x : XS), bX7_reads_h29 k29 u2 u3 x = some (r, z) → z j = x j := by
  intro u2 u3 x hf
  obtain ⟨x0, hx0⟩ : ∃ y, y = x := ⟨_, rfl⟩
  have hj : x j = x0 j := by rw [hx0]
  rw [← hx0]
  unfold bX7_reads_h29 at hf
  rcases if_out hf with ⟨c_8, hf⟩ | ⟨c_8, hf⟩
  · skip
    rw [so_out hf]
    exact hj
  · skip
    obtain ⟨r_9, x_10, qr_9, hf⟩ := bd_out hf
    replace hj : x_10 j = x0 j := (frX2_hasNumber  qr_9).trans hj
    rcases if_out hf with ⟨c_11, hf⟩ | ⟨c_11, hf⟩
    · skip
      obtain ⟨v_12, ev_12, hf⟩ := st_out hf
      exact (hk29 u2 v_12 x_10 hf).trans hj
    · skip
      obtain ⟨r_13, x_14, qr_13, hf⟩ := bd_out hf
      replace hj : x_14 j = x0 j := (frX7_isBoy  qr_13).trans hj
      rcases if_out hf with ⟨c_15, hf⟩ | ⟨c_15, hf⟩
      · skip
        rw [so_out hf]
        exact hj
      · skip
        obtain ⟨gg_16, hf⟩ := gd_out hf
        have ngg_16 := inb_lt gg_16
        obtain ⟨gg_17, hf⟩ := gd_out hf
        have ngg_17 := inb_lt gg_17
        rcases if_out hf with ⟨c_18, hf⟩ | ⟨c_18, hf⟩
        · skip
          obtain ⟨v_19, ev_19, hf⟩ := st_out hf
          exact (hk29 u2 v_19 x_14 hf).trans hj
        · skip
          rw [so_out hf]
          exact hj
theorem frlX7_reads_h29 {r : Int32} {z : XS} {j : Nat}  (n : Nat) : ∀ (u2 : Nat) (u3 : Int32) (x : XS), lX7_reads_h29 n u2 u3 x = some (r, z) → z j = x j := by
  induction n with
  | zero => intro u2 u3 x hf; exact absurd hf (by intro q; cases q)
  | succ n ih => exact frbX7_reads_h29  ih
theorem frX7_reads_h29 {r : Int32} {z : XS} {j : Nat}  : ∀ (u2 : Nat) (u3 : Int32) (x : XS), fX7_reads_h29 u2 u3 x = some (r, z) → z j = x j := frlX7_reads_h29  FU
theorem frX7_reads {v1 : Int32} {j : Nat}  {x z : XS} {r : Int32} (hf : fX7_reads v1 x = some (r, z)) : z j = x j := by
  obtain ⟨x0, hx0⟩ : ∃ y, y = x := ⟨_, rfl⟩
  have hj : x j = x0 j := by rw [hx0]
  rw [← hx0]
  unfold fX7_reads at hf
  obtain ⟨r_1, x_2, qr_1, hf⟩ := bd_out hf
  replace hj : x_2 j = x0 j := (frX7_isSheet  qr_1).trans hj
  rcases if_outN hf with ⟨c_3, hf⟩ | ⟨c_3, hf⟩
  · skip
    obtain ⟨gg_4, hf⟩ := gd_out hf
    have ngg_4 := inb_lt gg_4
    obtain ⟨r_5, x_6, qr_5, hf⟩ := bd_out hf
    replace hj : x_6 j = x0 j := (frX2_isMissing  qr_5).trans hj
    rcases if_out hf with ⟨c_7, hf⟩ | ⟨c_7, hf⟩
    · skip
      exact (frX7_reads_h29 (71 + 2 * (ix v1)) 0 x_6 hf).trans hj
    · skip
      rw [so_out hf]
      exact hj
  · skip
    rw [so_out hf]
    exact hj
theorem roX7_reads {v1 : Int32} {x z : XS} {r : Int32} (hf : fX7_reads v1 x = some (r, z)) : z = x := funext fun j => frX7_reads (j := j) hf
theorem frX7_copy {v1 : Int32} {v2 : Int32} {v3 : Int32} {v4 : Int32} {v5 : Int32} {j : Nat} (j0 : j < 71 ∨ 79 ≤ j) {x z : XS} {r : Int32} (hf : fX7_copy v1 v2 v3 v4 v5 x = some (r, z)) : z j = x j := by
  obtain ⟨x0, hx0⟩ : ∃ y, y = x := ⟨_, rfl⟩
  have hj : x j = x0 j := by rw [hx0]
  rw [← hx0]
  unfold fX7_copy at hf
  obtain ⟨r_1, x_2, qr_1, hf⟩ := bd_out hf
  replace hj : x_2 j = x0 j := (frX7_isSheet  qr_1).trans hj
  rcases if_out hf with ⟨c_3, hf⟩ | ⟨c_3, hf⟩
  · skip
    rw [so_out hf]
    exact hj
  · skip
    obtain ⟨r_4, x_5, qr_4, hf⟩ := bd_out hf
    replace hj : x_5 j = x0 j := (frX7_isSheet  qr_4).trans hj
    rcases if_outN hf with ⟨c_6, hf⟩ | ⟨c_6, hf⟩
    · skip
      obtain ⟨gg_7, hf⟩ := gd_out hf
      have ngg_7 := inb_lt gg_7
      obtain ⟨gg_8, hf⟩ := gd_out hf
      have ngg_8 := inb_lt gg_8
      obtain ⟨r_9, x_10, qr_9, hf⟩ := bd_out hf
      replace hj : x_10 j = x0 j := (frX2_isMissing  qr_9).trans hj
      rcases if_outN hf with ⟨c_11, hf⟩ | ⟨c_11, hf⟩
      · skip
        rw [so_out hf]
        exact hj
      · skip
        obtain ⟨r_12, x_13, qr_12, hf⟩ := bd_out hf
        replace hj : x_13 j = x0 j := (frX2_isMissing  qr_12).trans hj
        rcases if_out hf with ⟨c_14, hf⟩ | ⟨c_14, hf⟩
        · skip
          rcases if_out hf with ⟨c_15, hf⟩ | ⟨c_15, hf⟩
          · skip
            obtain ⟨r_16, x_17, qr_16, hf⟩ := bd_out hf
            replace hj : x_17 j = x0 j := (frX2_hasPlaces  qr_16).trans hj
            rcases if_out hf with ⟨c_18, hf⟩ | ⟨c_18, hf⟩
            · skip
              rw [so_out hf]
              exact hj
            · skip
              obtain ⟨r_19, x_20, qr_19, hf⟩ := bd_out hf
              replace hj : x_20 j = x0 j := (frX2_hasPlaces  qr_19).trans hj
              rcases if_outN hf with ⟨c_21, hf⟩ | ⟨c_21, hf⟩
              · skip
                obtain ⟨gg_22, hf⟩ := gd_out hf
                obtain ⟨x_23, ex_23, hf⟩ := st_out hf
                replace hj : x_23 j = x0 j := (show x_23 j = x_20 j by rw [ex_23]; exact cpx_ne (by omega)).trans hj
                rw [so_out hf]
                exact hj
              · skip
                rw [so_out hf]
                exact hj
          · skip
            rw [so_out hf]
            exact hj
        · skip
          rw [so_out hf]
          exact hj
    · skip
      rw [so_out hf]
      exact hj
theorem frX7_isSlot {v0 : Int32} {j : Nat}  {x z : XS} {r : Int32} (hf : fX7_isSlot v0 x = some (r, z)) : z j = x j := by
  obtain ⟨x0, hx0⟩ : ∃ y, y = x := ⟨_, rfl⟩
  have hj : x j = x0 j := by rw [hx0]
  rw [← hx0]
  unfold fX7_isSlot at hf
  rcases if_out hf with ⟨c_1, hf⟩ | ⟨c_1, hf⟩
  · skip
    rw [so_out hf]
    exact hj
  · skip
    rcases if_out hf with ⟨c_2, hf⟩ | ⟨c_2, hf⟩
    · skip
      rw [so_out hf]
      exact hj
    · skip
      rw [so_out hf]
      exact hj
theorem roX7_isSlot {v0 : Int32} {x z : XS} {r : Int32} (hf : fX7_isSlot v0 x = some (r, z)) : z = x := funext fun j => frX7_isSlot (j := j) hf
theorem frX7_lay_h67 {r : Int32} {z : XS} {j : Nat} (j0 : j < 79 ∨ 99 ≤ j) : ∀ (u1 : Int32) (u2 : Int32) (u3 : Int32) (x : XS), fX7_lay_h67 u1 u2 u3 x = some (r, z) → z j = x j := by
  intro u1 u2 u3 x hf
  obtain ⟨x0, hx0⟩ : ∃ y, y = x := ⟨_, rfl⟩
  have hj : x j = x0 j := by rw [hx0]
  rw [← hx0]
  unfold fX7_lay_h67 at hf
  obtain ⟨gg_19, hf⟩ := gd_out hf
  have ngg_19 := inb_lt gg_19
  obtain ⟨v_20, ev_20, hf⟩ := st_out hf
  obtain ⟨x_21, ex_21, hf⟩ := st_out hf
  replace hj : x_21 j = x0 j := (show x_21 j = x j by rw [ex_21]; exact wr_ne (by omega)).trans hj
  rcases if_outN hf with ⟨c_22, hf⟩ | ⟨c_22, hf⟩
  · skip
    rcases if_outN hf with ⟨c_23, hf⟩ | ⟨c_23, hf⟩
    · skip
      rcases if_outN hf with ⟨c_24, hf⟩ | ⟨c_24, hf⟩
      · skip
        rw [so_out hf]
        exact hj
      · skip
        obtain ⟨x_25, ex_25, hf⟩ := st_out hf
        replace hj : x_25 j = x0 j := (show x_25 j = x_21 j by rw [ex_25]; exact wr_ne (by omega)).trans hj
        rw [so_out hf]
        exact hj
    · skip
      obtain ⟨gg_26, hf⟩ := gd_out hf
      have ngg_26 := inb_lt gg_26
      obtain ⟨r_27, x_28, qr_27, hf⟩ := bd_out hf
      replace hj : x_28 j = x0 j := (frX2_become (by omega) (by omega) qr_27).trans hj
      rw [so_out hf]
      exact hj
  · skip
    obtain ⟨gg_29, hf⟩ := gd_out hf
    have ngg_29 := inb_lt gg_29
    obtain ⟨r_30, x_31, qr_30, hf⟩ := bd_out hf
    replace hj : x_31 j = x0 j := (frX0_become (by omega) qr_30).trans hj
    rw [so_out hf]
    exact hj
theorem frX7_lay_h47 {r : Int32} {z : XS} {j : Nat} (j0 : j < 79 ∨ 99 ≤ j) : ∀ (u1 : Int32) (u2 : Int32) (u3 : Int32) (x : XS), fX7_lay_h47 u1 u2 u3 x = some (r, z) → z j = x j := by
  intro u1 u2 u3 x hf
  obtain ⟨x0, hx0⟩ : ∃ y, y = x := ⟨_, rfl⟩
  have hj : x j = x0 j := by rw [hx0]
  rw [← hx0]
  unfold fX7_lay_h47 at hf
  rcases if_outN hf with ⟨c_14, hf⟩ | ⟨c_14, hf⟩
  · skip
    exact (frX7_lay_h67 j0 u1 u2 u3 x hf).trans hj
  · skip
    obtain ⟨gg_15, hf⟩ := gd_out hf
    have ngg_15 := inb_lt gg_15
    obtain ⟨r_16, x_17, qr_16, hf⟩ := bd_out hf
    replace hj : x_17 j = x0 j := (frX2_isMissing  qr_16).trans hj
    rcases if_out hf with ⟨c_18, hf⟩ | ⟨c_18, hf⟩
    · skip
      exact (frX7_lay_h67 j0 u1 u2 u3 x_17 hf).trans hj
    · skip
      rw [so_out hf]
      exact hj
theorem frX7_lay_h32 {r : Int32} {z : XS} {j : Nat} (j0 : j < 79 ∨ 99 ≤ j) : ∀ (u1 : Int32) (u2 : Int32) (u3 : Int32) (x : XS), fX7_lay_h32 u1 u2 u3 x = some (r, z) → z j = x j := by
  intro u1 u2 u3 x hf
  obtain ⟨x0, hx0⟩ : ∃ y, y = x := ⟨_, rfl⟩
  have hj : x j = x0 j := by rw [hx0]
  rw [← hx0]
  unfold fX7_lay_h32 at hf
  rcases if_outN hf with ⟨c_10, hf⟩ | ⟨c_10, hf⟩
  · skip
    exact (frX7_lay_h47 j0 u1 u2 u3 x hf).trans hj
  · skip
    obtain ⟨r_11, x_12, qr_11, hf⟩ := bd_out hf
    replace hj : x_12 j = x0 j := (frX7_isSheet  qr_11).trans hj
    rcases if_outN hf with ⟨c_13, hf⟩ | ⟨c_13, hf⟩
    · skip
      exact (frX7_lay_h47 j0 u1 u2 u3 x_12 hf).trans hj
    · skip
      rw [so_out hf]
      exact hj
theorem frX7_lay {v1 : Int32} {v2 : Int32} {v3 : Int32} {j : Nat} (j0 : j < 79 ∨ 99 ≤ j) {x z : XS} {r : Int32} (hf : fX7_lay v1 v2 v3 x = some (r, z)) : z j = x j := by
  obtain ⟨x0, hx0⟩ : ∃ y, y = x := ⟨_, rfl⟩
  have hj : x j = x0 j := by rw [hx0]
  rw [← hx0]
  unfold fX7_lay at hf
  obtain ⟨r_1, x_2, qr_1, hf⟩ := bd_out hf
  replace hj : x_2 j = x0 j := (frX7_isSlot  qr_1).trans hj
  rcases if_out hf with ⟨c_3, hf⟩ | ⟨c_3, hf⟩
  · skip
    rw [so_out hf]
    exact hj
  · skip
    rcases if_out hf with ⟨c_4, hf⟩ | ⟨c_4, hf⟩
    · skip
      rw [so_out hf]
      exact hj
    · skip
      rcases if_out hf with ⟨c_5, hf⟩ | ⟨c_5, hf⟩
      · skip
        rcases if_outN hf with ⟨c_6, hf⟩ | ⟨c_6, hf⟩
        · skip
          exact (frX7_lay_h32 j0 v1 v2 v3 x_2 hf).trans hj
        · skip
          obtain ⟨r_7, x_8, qr_7, hf⟩ := bd_out hf
          replace hj : x_8 j = x0 j := (frX7_isBoy  qr_7).trans hj
          rcases if_out hf with ⟨c_9, hf⟩ | ⟨c_9, hf⟩
          · skip
            rw [so_out hf]
            exact hj
          · skip
            exact (frX7_lay_h32 j0 v1 v2 v3 x_8 hf).trans hj
      · skip
        rw [so_out hf]
        exact hj
theorem frX7_ask {v1 : Int32} {v2 : Int32} {j : Nat}  {x z : XS} {r : Int32} (hf : fX7_ask v1 v2 x = some (r, z)) : z j = x j := by
  obtain ⟨x0, hx0⟩ : ∃ y, y = x := ⟨_, rfl⟩
  have hj : x j = x0 j := by rw [hx0]
  rw [← hx0]
  unfold fX7_ask at hf
  obtain ⟨r_1, x_2, qr_1, hf⟩ := bd_out hf
  replace hj : x_2 j = x0 j := (frX7_isSlot  qr_1).trans hj
  rcases if_out hf with ⟨c_3, hf⟩ | ⟨c_3, hf⟩
  · skip
    rw [so_out hf]
    exact hj
  · skip
    obtain ⟨r_4, x_5, qr_4, hf⟩ := bd_out hf
    replace hj : x_5 j = x0 j := (frX7_isKind  qr_4).trans hj
    rcases if_outN hf with ⟨c_6, hf⟩ | ⟨c_6, hf⟩
    · skip
      obtain ⟨gg_7, hf⟩ := gd_out hf
      have ngg_7 := inb_lt gg_7
      obtain ⟨r_8, x_9, qr_8, hf⟩ := bd_out hf
      replace hj : x_9 j = x0 j := (frX3_findingFor  qr_8).trans hj
      rcases if_out hf with ⟨c_10, hf⟩ | ⟨c_10, hf⟩
      · skip
        obtain ⟨gg_11, hf⟩ := gd_out hf
        have ngg_11 := inb_lt gg_11
        obtain ⟨r_12, x_13, qr_12, hf⟩ := bd_out hf
        replace hj : x_13 j = x0 j := (frX1_isUnder  qr_12).trans hj
        rcases if_out hf with ⟨c_14, hf⟩ | ⟨c_14, hf⟩
        · skip
          rw [so_out hf]
          exact hj
        · skip
          obtain ⟨r_15, x_16, qr_15, hf⟩ := bd_out hf
          replace hj : x_16 j = x0 j := (frX1_worth  qr_15).trans hj
          rw [so_out hf]
          exact hj
      · skip
        rw [so_out hf]
        exact hj
    · skip
      rw [so_out hf]
      exact hj
theorem roX7_ask {v1 : Int32} {v2 : Int32} {x z : XS} {r : Int32} (hf : fX7_ask v1 v2 x = some (r, z)) : z = x := funext fun j => frX7_ask (j := j) hf
theorem frX7_item {v1 : Int32} {v2 : Int32} {j : Nat}  {x z : XS} {r : Int32} (hf : fX7_item v1 v2 x = some (r, z)) : z j = x j := by
  obtain ⟨x0, hx0⟩ : ∃ y, y = x := ⟨_, rfl⟩
  have hj : x j = x0 j := by rw [hx0]
  rw [← hx0]
  unfold fX7_item at hf
  obtain ⟨r_1, x_2, qr_1, hf⟩ := bd_out hf
  replace hj : x_2 j = x0 j := (frX7_isSlot  qr_1).trans hj
  rcases if_outN hf with ⟨c_3, hf⟩ | ⟨c_3, hf⟩
  · skip
    obtain ⟨gg_4, hf⟩ := gd_out hf
    have ngg_4 := inb_lt gg_4
    obtain ⟨r_5, x_6, qr_5, hf⟩ := bd_out hf
    replace hj : x_6 j = x0 j := (frX3_findingFor  qr_5).trans hj
    rcases if_out hf with ⟨c_7, hf⟩ | ⟨c_7, hf⟩
    · skip
      obtain ⟨gg_8, hf⟩ := gd_out hf
      have ngg_8 := inb_lt gg_8
      obtain ⟨r_9, x_10, qr_9, hf⟩ := bd_out hf
      replace hj : x_10 j = x0 j := (frX2_hasPlace  qr_9).trans hj
      rcases if_outN hf with ⟨c_11, hf⟩ | ⟨c_11, hf⟩
      · skip
        obtain ⟨r_12, x_13, qr_12, hf⟩ := bd_out hf
        replace hj : x_13 j = x0 j := (frX2_hasNumber  qr_12).trans hj
        rcases if_out hf with ⟨c_14, hf⟩ | ⟨c_14, hf⟩
        · skip
          rw [so_out hf]
          exact hj
        · skip
          obtain ⟨gg_15, hf⟩ := gd_out hf
          have ngg_15 := inb_lt gg_15
          rw [so_out hf]
          exact hj
      · skip
        rw [so_out hf]
        exact hj
    · skip
      rw [so_out hf]
      exact hj
  · skip
    rw [so_out hf]
    exact hj
theorem roX7_item {v1 : Int32} {v2 : Int32} {x z : XS} {r : Int32} (hf : fX7_item v1 v2 x = some (r, z)) : z = x := funext fun j => frX7_item (j := j) hf
theorem frX7_rest {v1 : Int32} {v2 : Int32} {j : Nat}  {x z : XS} {r : Int32} (hf : fX7_rest v1 v2 x = some (r, z)) : z j = x j := by
  obtain ⟨x0, hx0⟩ : ∃ y, y = x := ⟨_, rfl⟩
  have hj : x j = x0 j := by rw [hx0]
  rw [← hx0]
  unfold fX7_rest at hf
  obtain ⟨r_1, x_2, qr_1, hf⟩ := bd_out hf
  replace hj : x_2 j = x0 j := (frX7_isSlot  qr_1).trans hj
  rcases if_outN hf with ⟨c_3, hf⟩ | ⟨c_3, hf⟩
  · skip
    obtain ⟨gg_4, hf⟩ := gd_out hf
    have ngg_4 := inb_lt gg_4
    obtain ⟨r_5, x_6, qr_5, hf⟩ := bd_out hf
    replace hj : x_6 j = x0 j := (frX3_findingFor  qr_5).trans hj
    rcases if_out hf with ⟨c_7, hf⟩ | ⟨c_7, hf⟩
    · skip
      rcases if_outN hf with ⟨c_8, hf⟩ | ⟨c_8, hf⟩
      · skip
        obtain ⟨gg_9, hf⟩ := gd_out hf
        have ngg_9 := inb_lt gg_9
        obtain ⟨gg_10, hf⟩ := gd_out hf
        obtain ⟨v_11, ev_11, hf⟩ := st_out hf
        rw [so_out hf]
        exact hj
      · skip
        rw [so_out hf]
        exact hj
    · skip
      rw [so_out hf]
      exact hj
  · skip
    rw [so_out hf]
    exact hj
theorem roX7_rest {v1 : Int32} {v2 : Int32} {x z : XS} {r : Int32} (hf : fX7_rest v1 v2 x = some (r, z)) : z = x := funext fun j => frX7_rest (j := j) hf
theorem frX7_tell {v1 : Int32} {j : Nat} (j0 : j ≠ 39) (j1 : j ≠ 0) {x z : XS} {r : Int32} (hf : fX7_tell v1 x = some (r, z)) : z j = x j := by
  obtain ⟨x0, hx0⟩ : ∃ y, y = x := ⟨_, rfl⟩
  have hj : x j = x0 j := by rw [hx0]
  rw [← hx0]
  unfold fX7_tell at hf
  rcases if_out hf with ⟨c_1, hf⟩ | ⟨c_1, hf⟩
  · skip
    obtain ⟨gg_2, hf⟩ := gd_out hf
    have ngg_2 := inb_lt gg_2
    obtain ⟨x_3, ex_3, hf⟩ := st_out hf
    replace hj : x_3 j = x0 j := (show x_3 j = x j by rw [ex_3]; exact wr_ne (by omega)).trans hj
    obtain ⟨x_4, ex_4, hf⟩ := st_out hf
    replace hj : x_4 j = x0 j := (show x_4 j = x_3 j by rw [ex_4]; exact wr_ne (by omega)).trans hj
    rw [so_out hf]
    exact hj
  · skip
    rw [so_out hf]
    exact hj
theorem frX7_waits {v1 : Int32} {v2 : Int32} {v3 : Int32} {j : Nat}  {x z : XS} {r : Int32} (hf : fX7_waits v1 v2 v3 x = some (r, z)) : z j = x j := by
  obtain ⟨x0, hx0⟩ : ∃ y, y = x := ⟨_, rfl⟩
  have hj : x j = x0 j := by rw [hx0]
  rw [← hx0]
  unfold fX7_waits at hf
  rcases if_out hf with ⟨c_1, hf⟩ | ⟨c_1, hf⟩
  · skip
    rw [so_out hf]
    exact hj
  · skip
    rcases if_out hf with ⟨c_2, hf⟩ | ⟨c_2, hf⟩
    · skip
      rw [so_out hf]
      exact hj
    · skip
      obtain ⟨gg_3, hf⟩ := gd_out hf
      have ngg_3 := inb_lt gg_3
      rcases if_outN hf with ⟨c_4, hf⟩ | ⟨c_4, hf⟩
      · skip
        rw [so_out hf]
        exact hj
      · skip
        rw [so_out hf]
        exact hj
theorem roX7_waits {v1 : Int32} {v2 : Int32} {v3 : Int32} {x z : XS} {r : Int32} (hf : fX7_waits v1 v2 v3 x = some (r, z)) : z = x := funext fun j => frX7_waits (j := j) hf
theorem frbX7_check_h65 {r : Int32} {z : XS} {j : Nat} (j0 : j ≠ 0) (j1 : j ≠ 26) (j2 : j ≠ 28) (j3 : j < 29 ∨ 37 ≤ j) (j4 : j ≠ 40) {k65 : Int32 → Int32 → Int32 → XS → Option (Int32 × XS)} (hk65 : ∀ (u2 : Int32) (u3 : Int32) (u4 : Int32) (x : XS), k65 u2 u3 u4 x = some (r, z) → z j = x j) : ∀ (u2 : Int32) (u3 : Int32) (u4 : Int32) (x : XS), bX7_check_h65 k65 u2 u3 u4 x = some (r, z) → z j = x j := by
  intro u2 u3 u4 x hf
  obtain ⟨x0, hx0⟩ : ∃ y, y = x := ⟨_, rfl⟩
  have hj : x j = x0 j := by rw [hx0]
  rw [← hx0]
  unfold bX7_check_h65 at hf
  rcases if_out hf with ⟨c_9, hf⟩ | ⟨c_9, hf⟩
  · skip
    rcases if_out hf with ⟨c_10, hf⟩ | ⟨c_10, hf⟩
    · skip
      rw [so_out hf]
      exact hj
    · skip
      rw [so_out hf]
      exact hj
  · skip
    obtain ⟨r_11, x_12, qr_11, hf⟩ := bd_out hf
    replace hj : x_12 j = x0 j := (frX4_passMinute (by omega) (by omega) (by omega) qr_11).trans hj
    obtain ⟨r_13, x_14, qr_13, hf⟩ := bd_out hf
    replace hj : x_14 j = x0 j := (frX4_purses  qr_13).trans hj
    obtain ⟨r_15, x_16, qr_15, hf⟩ := bd_out hf
    replace hj : x_16 j = x0 j := (frX7_waits  qr_15).trans hj
    rcases if_outN hf with ⟨c_17, hf⟩ | ⟨c_17, hf⟩
    · skip
      obtain ⟨r_18, x_19, qr_18, hf⟩ := bd_out hf
      replace hj : x_19 j = x0 j := (frX7_waits  qr_18).trans hj
      rcases if_outN hf with ⟨c_20, hf⟩ | ⟨c_20, hf⟩
      · skip
        obtain ⟨v_21, ev_21, hf⟩ := st_out hf
        exact (hk65 u2 u3 v_21 x_19 hf).trans hj
      · skip
        rw [so_out hf]
        exact hj
    · skip
      rw [so_out hf]
      exact hj
theorem frlX7_check_h65 {r : Int32} {z : XS} {j : Nat} (j0 : j ≠ 0) (j1 : j ≠ 26) (j2 : j ≠ 28) (j3 : j < 29 ∨ 37 ≤ j) (j4 : j ≠ 40) (n : Nat) : ∀ (u2 : Int32) (u3 : Int32) (u4 : Int32) (x : XS), lX7_check_h65 n u2 u3 u4 x = some (r, z) → z j = x j := by
  induction n with
  | zero => intro u2 u3 u4 x hf; exact absurd hf (by intro q; cases q)
  | succ n ih => exact frbX7_check_h65 j0 j1 j2 j3 j4 ih
theorem frX7_check_h65 {r : Int32} {z : XS} {j : Nat} (j0 : j ≠ 0) (j1 : j ≠ 26) (j2 : j ≠ 28) (j3 : j < 29 ∨ 37 ≤ j) (j4 : j ≠ 40) : ∀ (u2 : Int32) (u3 : Int32) (u4 : Int32) (x : XS), fX7_check_h65 u2 u3 u4 x = some (r, z) → z j = x j := frlX7_check_h65 j0 j1 j2 j3 j4 FU
theorem frX7_check {v1 : Int32} {j : Nat} (j0 : j ≠ 0) (j1 : j ≠ 26) (j2 : j ≠ 28) (j3 : j < 29 ∨ 37 ≤ j) (j4 : j ≠ 40) {x z : XS} {r : Int32} (hf : fX7_check v1 x = some (r, z)) : z j = x j := by
  obtain ⟨x0, hx0⟩ : ∃ y, y = x := ⟨_, rfl⟩
  have hj : x j = x0 j := by rw [hx0]
  rw [← hx0]
  unfold fX7_check at hf
  obtain ⟨v_1, ev_1, hf⟩ := st_out hf
  obtain ⟨x_2, ex_2, hf⟩ := st_out hf
  replace hj : x_2 j = x0 j := (show x_2 j = x j by rw [ex_2]; exact wr_ne (by omega)).trans hj
  rcases if_out hf with ⟨c_3, hf⟩ | ⟨c_3, hf⟩
  · skip
    rw [so_out hf]
    exact hj
  · skip
    rcases if_out hf with ⟨c_4, hf⟩ | ⟨c_4, hf⟩
    · skip
      rcases if_outN hf with ⟨c_5, hf⟩ | ⟨c_5, hf⟩
      · skip
        obtain ⟨r_6, x_7, qr_6, hf⟩ := bd_out hf
        replace hj : x_7 j = x0 j := (frX4_become (by omega) (by omega) (by omega) qr_6).trans hj
        obtain ⟨v_8, ev_8, hf⟩ := st_out hf
        exact (frX7_check_h65 j0 j1 j2 j3 j4 v_1 v_8 0 x_7 hf).trans hj
      · skip
        rw [so_out hf]
        exact hj
    · skip
      rw [so_out hf]
      exact hj
theorem frX7_keep {j : Nat} (j0 : j ≠ 0) (j1 : j ≠ 15) (j2 : j ≠ 17) (j3 : j < 18 ∨ 26 ≤ j) {x z : XS} {r : Int32} (hf : fX7_keep x = some (r, z)) : z j = x j := by
  obtain ⟨x0, hx0⟩ : ∃ y, y = x := ⟨_, rfl⟩
  have hj : x j = x0 j := by rw [hx0]
  rw [← hx0]
  unfold fX7_keep at hf
  obtain ⟨r_1, x_2, qr_1, hf⟩ := bd_out hf
  replace hj : x_2 j = x0 j := (frX4_become (by omega) (by omega) (by omega) qr_1).trans hj
  obtain ⟨x_3, ex_3, hf⟩ := st_out hf
  replace hj : x_3 j = x0 j := (show x_3 j = x_2 j by rw [ex_3]; exact wr_ne (by omega)).trans hj
  rw [so_out hf]
  exact hj
theorem frX7_back {j : Nat} (j0 : j ≠ 4) (j1 : j ≠ 6) (j2 : j < 7 ∨ 15 ≤ j) {x z : XS} {r : Int32} (hf : fX7_back x = some (r, z)) : z j = x j := by
  obtain ⟨x0, hx0⟩ : ∃ y, y = x := ⟨_, rfl⟩
  have hj : x j = x0 j := by rw [hx0]
  rw [← hx0]
  unfold fX7_back at hf
  rcases if_outN hf with ⟨c_1, hf⟩ | ⟨c_1, hf⟩
  · skip
    obtain ⟨r_2, x_3, qr_2, hf⟩ := bd_out hf
    replace hj : x_3 j = x0 j := (frX4_become (by omega) (by omega) (by omega) qr_2).trans hj
    rw [so_out hf]
    exact hj
  · skip
    rw [so_out hf]
    exact hj
theorem frX7_count {v1 : Int32} {j : Nat}  {x z : XS} {r : Int32} (hf : fX7_count v1 x = some (r, z)) : z j = x j := by
  obtain ⟨x0, hx0⟩ : ∃ y, y = x := ⟨_, rfl⟩
  have hj : x j = x0 j := by rw [hx0]
  rw [← hx0]
  unfold fX7_count at hf
  by_cases c_1 : v1 = 0
  · replace hf := if_p c_1 hf
    rw [so_out hf]
    exact hj
  · replace hf := if_n c_1 hf
    by_cases c_2 : v1 = 1
    · replace hf := if_p c_2 hf
      rw [so_out hf]
      exact hj
    · replace hf := if_n c_2 hf
      by_cases c_3 : v1 = 2
      · replace hf := if_p c_3 hf
        rw [so_out hf]
        exact hj
      · replace hf := if_n c_3 hf
        by_cases c_4 : v1 = 3
        · replace hf := if_p c_4 hf
          rw [so_out hf]
          exact hj
        · replace hf := if_n c_4 hf
          by_cases c_5 : v1 = 4
          · replace hf := if_p c_5 hf
            rcases if_out hf with ⟨c_6, hf⟩ | ⟨c_6, hf⟩
            · skip
              rw [so_out hf]
              exact hj
            · skip
              rw [so_out hf]
              exact hj
          · replace hf := if_n c_5 hf
            by_cases c_7 : v1 = 5
            · replace hf := if_p c_7 hf
              rw [so_out hf]
              exact hj
            · replace hf := if_n c_7 hf
              by_cases c_8 : v1 = 6
              · replace hf := if_p c_8 hf
                rw [so_out hf]
                exact hj
              · replace hf := if_n c_8 hf
                by_cases c_9 : v1 = 7
                · replace hf := if_p c_9 hf
                  rw [so_out hf]
                  exact hj
                · replace hf := if_n c_9 hf
                  by_cases c_10 : v1 = 8
                  · replace hf := if_p c_10 hf
                    rw [so_out hf]
                    exact hj
                  · replace hf := if_n c_10 hf
                    rw [so_out hf]
                    exact hj
theorem roX7_count {v1 : Int32} {x z : XS} {r : Int32} (hf : fX7_count v1 x = some (r, z)) : z = x := funext fun j => frX7_count (j := j) hf
theorem frX8_in {v0 : Int32} {v1 : Int32} {v2 : Int32} {j : Nat}  {x z : XS} {r : Int32} (hf : fX8_in v0 v1 v2 x = some (r, z)) : z j = x j := by
  obtain ⟨x0, hx0⟩ : ∃ y, y = x := ⟨_, rfl⟩
  have hj : x j = x0 j := by rw [hx0]
  rw [← hx0]
  unfold fX8_in at hf
  rcases if_out hf with ⟨c_1, hf⟩ | ⟨c_1, hf⟩
  · skip
    rw [so_out hf]
    exact hj
  · skip
    rcases if_out hf with ⟨c_2, hf⟩ | ⟨c_2, hf⟩
    · skip
      rw [so_out hf]
      exact hj
    · skip
      rw [so_out hf]
      exact hj
theorem roX8_in {v0 : Int32} {v1 : Int32} {v2 : Int32} {x z : XS} {r : Int32} (hf : fX8_in v0 v1 v2 x = some (r, z)) : z = x := funext fun j => frX8_in (j := j) hf
theorem frX8_within {v0 : Int32} {v1 : Int32} {v2 : Int32} {j : Nat}  {x z : XS} {r : Int32} (hf : fX8_within v0 v1 v2 x = some (r, z)) : z j = x j := by
  obtain ⟨x0, hx0⟩ : ∃ y, y = x := ⟨_, rfl⟩
  have hj : x j = x0 j := by rw [hx0]
  rw [← hx0]
  unfold fX8_within at hf
  rcases if_out hf with ⟨c_1, hf⟩ | ⟨c_1, hf⟩
  · skip
    rcases if_out hf with ⟨c_2, hf⟩ | ⟨c_2, hf⟩
    · skip
      rw [so_out hf]
      exact hj
    · skip
      rw [so_out hf]
      exact hj
  · skip
    rw [so_out hf]
    exact hj
theorem roX8_within {v0 : Int32} {v1 : Int32} {v2 : Int32} {x z : XS} {r : Int32} (hf : fX8_within v0 v1 v2 x = some (r, z)) : z = x := funext fun j => frX8_within (j := j) hf
theorem frbX8_copyAll_h2 {a0 : Nat} {a1 : Nat} {r : Unit} {z : XS} {j : Nat} (j0 : j ≠ a1) {k2 : Int32 → XS → Option (Unit × XS)} (hk2 : ∀ (u2 : Int32) (x : XS), k2 u2 x = some (r, z) → z j = x j) : ∀ (u2 : Int32) (x : XS), bX8_copyAll_h2 a0 a1 k2 u2 x = some (r, z) → z j = x j := by
  intro u2 x hf
  obtain ⟨x0, hx0⟩ : ∃ y, y = x := ⟨_, rfl⟩
  have hj : x j = x0 j := by rw [hx0]
  rw [← hx0]
  unfold bX8_copyAll_h2 at hf
  rcases if_out hf with ⟨c_1, hf⟩ | ⟨c_1, hf⟩
  · skip
    rw [so_out hf]
    exact hj
  · skip
    obtain ⟨gg_2, hf⟩ := gd_out hf
    have ngg_2 := inb_lt gg_2
    obtain ⟨gg_3, hf⟩ := gd_out hf
    have ngg_3 := inb_lt gg_3
    obtain ⟨x_4, ex_4, hf⟩ := st_out hf
    replace hj : x_4 j = x0 j := (show x_4 j = x j by rw [ex_4]; exact wr_ne (by omega)).trans hj
    obtain ⟨v_5, ev_5, hf⟩ := st_out hf
    exact (hk2 v_5 x_4 hf).trans hj
theorem frlX8_copyAll_h2 {a0 : Nat} {a1 : Nat} {r : Unit} {z : XS} {j : Nat} (j0 : j ≠ a1) (n : Nat) : ∀ (u2 : Int32) (x : XS), lX8_copyAll_h2 a0 a1 n u2 x = some (r, z) → z j = x j := by
  induction n with
  | zero => intro u2 x hf; exact absurd hf (by intro q; cases q)
  | succ n ih => exact frbX8_copyAll_h2 j0 ih
theorem frX8_copyAll_h2 {a0 : Nat} {a1 : Nat} {r : Unit} {z : XS} {j : Nat} (j0 : j ≠ a1) : ∀ (u2 : Int32) (x : XS), fX8_copyAll_h2 a0 a1 u2 x = some (r, z) → z j = x j := frlX8_copyAll_h2 j0 FU
theorem frX8_copyAll {a0 : Nat} {a1 : Nat} {j : Nat} (j0 : j ≠ a1) {x z : XS} {r : Unit} (hf : fX8_copyAll a0 a1 x = some (r, z)) : z j = x j := by
  obtain ⟨x0, hx0⟩ : ∃ y, y = x := ⟨_, rfl⟩
  have hj : x j = x0 j := by rw [hx0]
  rw [← hx0]
  unfold fX8_copyAll at hf
  exact (frX8_copyAll_h2 j0 0 x hf).trans hj
theorem frX8_told0 {v0 : Int32} {j : Nat}  {x z : XS} {r : Int32} (hf : fX8_told0 v0 x = some (r, z)) : z j = x j := by
  obtain ⟨x0, hx0⟩ : ∃ y, y = x := ⟨_, rfl⟩
  have hj : x j = x0 j := by rw [hx0]
  rw [← hx0]
  unfold fX8_told0 at hf
  rcases if_out hf with ⟨c_1, hf⟩ | ⟨c_1, hf⟩
  · skip
    rw [so_out hf]
    exact hj
  · skip
    rw [so_out hf]
    exact hj
theorem roX8_told0 {v0 : Int32} {x z : XS} {r : Int32} (hf : fX8_told0 v0 x = some (r, z)) : z = x := funext fun j => frX8_told0 (j := j) hf
theorem frX8_isBoy {v1 : Int32} {j : Nat}  {x z : XS} {r : Int32} (hf : fX8_isBoy v1 x = some (r, z)) : z j = x j := by
  obtain ⟨x0, hx0⟩ : ∃ y, y = x := ⟨_, rfl⟩
  have hj : x j = x0 j := by rw [hx0]
  rw [← hx0]
  unfold fX8_isBoy at hf
  obtain ⟨gg_1, hf⟩ := gd_out hf
  have ngg_1 := inb_lt gg_1
  obtain ⟨r_2, x_3, qr_2, hf⟩ := bd_out hf
  replace hj : x_3 j = x0 j := (frX8_in  qr_2).trans hj
  obtain ⟨gg_4, hf⟩ := gd_out hf
  rw [so_out hf]
  exact hj
theorem roX8_isBoy {v1 : Int32} {x z : XS} {r : Int32} (hf : fX8_isBoy v1 x = some (r, z)) : z = x := funext fun j => frX8_isBoy (j := j) hf
theorem frX8_of {v1 : Int32} {v2 : Int32} {j : Nat}  {x z : XS} {r : Int32} (hf : fX8_of v1 v2 x = some (r, z)) : z j = x j := by
  obtain ⟨x0, hx0⟩ : ∃ y, y = x := ⟨_, rfl⟩
  have hj : x j = x0 j := by rw [hx0]
  rw [← hx0]
  unfold fX8_of at hf
  obtain ⟨gg_1, hf⟩ := gd_out hf
  have ngg_1 := inb_lt gg_1
  rw [so_out hf]
  exact hj
theorem roX8_of {v1 : Int32} {v2 : Int32} {x z : XS} {r : Int32} (hf : fX8_of v1 v2 x = some (r, z)) : z = x := funext fun j => frX8_of (j := j) hf
theorem frX8_put {v1 : Int32} {v2 : Int32} {v3 : Int32} {j : Nat} (j0 : j ≠ 100) {x z : XS} {r : Unit} (hf : fX8_put v1 v2 v3 x = some (r, z)) : z j = x j := by
  obtain ⟨x0, hx0⟩ : ∃ y, y = x := ⟨_, rfl⟩
  have hj : x j = x0 j := by rw [hx0]
  rw [← hx0]
  unfold fX8_put at hf
  obtain ⟨gg_1, hf⟩ := gd_out hf
  have ngg_1 := inb_lt gg_1
  obtain ⟨x_2, ex_2, hf⟩ := st_out hf
  replace hj : x_2 j = x0 j := (show x_2 j = x j by rw [ex_2]; exact wr_ne (by omega)).trans hj
  rw [so_out hf]
  exact hj
theorem frX8_becomes {v1 : Int32} {v2 : Int32} {j : Nat} (j0 : j ≠ 100) {x z : XS} {r : Int32} (hf : fX8_becomes v1 v2 x = some (r, z)) : z j = x j := by
  obtain ⟨x0, hx0⟩ : ∃ y, y = x := ⟨_, rfl⟩
  have hj : x j = x0 j := by rw [hx0]
  rw [← hx0]
  unfold fX8_becomes at hf
  obtain ⟨gg_1, hf⟩ := gd_out hf
  have ngg_1 := inb_lt gg_1
  obtain ⟨v_2, ev_2, hf⟩ := st_out hf
  obtain ⟨gg_3, hf⟩ := gd_out hf
  have ngg_3 := inb_lt gg_3
  obtain ⟨x_4, ex_4, hf⟩ := st_out hf
  replace hj : x_4 j = x0 j := (show x_4 j = x j by rw [ex_4]; exact wr_ne (by omega)).trans hj
  rw [so_out hf]
  exact hj
theorem frX8_comes {v1 : Int32} {v2 : Int32} {v3 : Int32} {v4 : Int32} {j : Nat} (j0 : j ≠ 100) {x z : XS} {r : Int32} (hf : fX8_comes v1 v2 v3 v4 x = some (r, z)) : z j = x j := by
  obtain ⟨x0, hx0⟩ : ∃ y, y = x := ⟨_, rfl⟩
  have hj : x j = x0 j := by rw [hx0]
  rw [← hx0]
  unfold fX8_comes at hf
  obtain ⟨gg_1, hf⟩ := gd_out hf
  have ngg_1 := inb_lt gg_1
  obtain ⟨v_2, ev_2, hf⟩ := st_out hf
  obtain ⟨r_3, x_4, qr_3, hf⟩ := bd_out hf
  replace hj : x_4 j = x0 j := (frX8_put (by omega) qr_3).trans hj
  obtain ⟨r_5, x_6, qr_5, hf⟩ := bd_out hf
  replace hj : x_6 j = x0 j := (frX8_put (by omega) qr_5).trans hj
  obtain ⟨r_7, x_8, qr_7, hf⟩ := bd_out hf
  replace hj : x_8 j = x0 j := (frX8_put (by omega) qr_7).trans hj
  obtain ⟨r_9, x_10, qr_9, hf⟩ := bd_out hf
  replace hj : x_10 j = x0 j := (frX8_put (by omega) qr_9).trans hj
  obtain ⟨r_11, x_12, qr_11, hf⟩ := bd_out hf
  replace hj : x_12 j = x0 j := (frX8_put (by omega) qr_11).trans hj
  obtain ⟨r_13, x_14, qr_13, hf⟩ := bd_out hf
  replace hj : x_14 j = x0 j := (frX8_put (by omega) qr_13).trans hj
  obtain ⟨r_15, x_16, qr_15, hf⟩ := bd_out hf
  replace hj : x_16 j = x0 j := (frX8_put (by omega) qr_15).trans hj
  obtain ⟨gg_17, hf⟩ := gd_out hf
  have ngg_17 := inb_lt gg_17
  obtain ⟨gg_18, hf⟩ := gd_out hf
  have ngg_18 := inb_lt gg_18
  obtain ⟨x_19, ex_19, hf⟩ := st_out hf
  replace hj : x_19 j = x0 j := (show x_19 j = x_16 j by rw [ex_19]; exact wr_ne (by omega)).trans hj
  rw [so_out hf]
  exact hj
theorem frX8_isOf_h11 {r : Int32} {z : XS} {j : Nat}  : ∀ (u0 : Int32) (s0 : Int32) (s1 : Int32) (x : XS), fX8_isOf_h11 u0 s0 s1 x = some (r, z) → z j = x j := by
  intro u0 s0 s1 x hf
  obtain ⟨x0, hx0⟩ : ∃ y, y = x := ⟨_, rfl⟩
  have hj : x j = x0 j := by rw [hx0]
  rw [← hx0]
  unfold fX8_isOf_h11 at hf
  rcases if_outN hf with ⟨c_2, hf⟩ | ⟨c_2, hf⟩
  · skip
    rcases if_outN hf with ⟨c_3, hf⟩ | ⟨c_3, hf⟩
    · skip
      obtain ⟨r_4, x_5, qr_4, hf⟩ := bd_out hf
      replace hj : x_5 j = x0 j := (frX8_in  qr_4).trans hj
      obtain ⟨gg_6, hf⟩ := gd_out hf
      rw [so_out hf]
      exact hj
    · skip
      obtain ⟨r_7, x_8, qr_7, hf⟩ := bd_out hf
      replace hj : x_8 j = x0 j := (frX8_in  qr_7).trans hj
      obtain ⟨gg_9, hf⟩ := gd_out hf
      rw [so_out hf]
      exact hj
  · skip
    obtain ⟨r_10, x_11, qr_10, hf⟩ := bd_out hf
    replace hj : x_11 j = x0 j := (frX8_in  qr_10).trans hj
    obtain ⟨gg_12, hf⟩ := gd_out hf
    rw [so_out hf]
    exact hj
theorem frX8_isOf {v0 : Int32} {v1 : Int32} {j : Nat}  {x z : XS} {r : Int32} (hf : fX8_isOf v0 v1 x = some (r, z)) : z j = x j := by
  obtain ⟨x0, hx0⟩ : ∃ y, y = x := ⟨_, rfl⟩
  have hj : x j = x0 j := by rw [hx0]
  rw [← hx0]
  unfold fX8_isOf at hf
  rcases if_outN hf with ⟨c_1, hf⟩ | ⟨c_1, hf⟩
  · skip
    exact (frX8_isOf_h11 v0 v1 1 x hf).trans hj
  · skip
    exact (frX8_isOf_h11 v0 v1 0 x hf).trans hj
theorem roX8_isOf {v0 : Int32} {v1 : Int32} {x z : XS} {r : Int32} (hf : fX8_isOf v0 v1 x = some (r, z)) : z = x := funext fun j => frX8_isOf (j := j) hf
theorem frX8_boy {v1 : Int32} {v2 : Int32} {v3 : Int32} {v4 : Int32} {j : Nat} (j0 : j ≠ 100) {x z : XS} {r : Int32} (hf : fX8_boy v1 v2 v3 v4 x = some (r, z)) : z j = x j := by
  obtain ⟨x0, hx0⟩ : ∃ y, y = x := ⟨_, rfl⟩
  have hj : x j = x0 j := by rw [hx0]
  rw [← hx0]
  unfold fX8_boy at hf
  obtain ⟨r_1, x_2, qr_1, hf⟩ := bd_out hf
  replace hj : x_2 j = x0 j := (frX8_in  qr_1).trans hj
  rcases if_out hf with ⟨c_3, hf⟩ | ⟨c_3, hf⟩
  · skip
    rw [so_out hf]
    exact hj
  · skip
    obtain ⟨r_4, x_5, qr_4, hf⟩ := bd_out hf
    replace hj : x_5 j = x0 j := (frX8_isOf  qr_4).trans hj
    rcases if_out hf with ⟨c_6, hf⟩ | ⟨c_6, hf⟩
    · skip
      rw [so_out hf]
      exact hj
    · skip
      obtain ⟨r_7, x_8, qr_7, hf⟩ := bd_out hf
      replace hj : x_8 j = x0 j := (frX8_isOf  qr_7).trans hj
      rcases if_out hf with ⟨c_9, hf⟩ | ⟨c_9, hf⟩
      · skip
        rw [so_out hf]
        exact hj
      · skip
        obtain ⟨r_10, x_11, qr_10, hf⟩ := bd_out hf
        replace hj : x_11 j = x0 j := (frX8_isOf  qr_10).trans hj
        rcases if_outN hf with ⟨c_12, hf⟩ | ⟨c_12, hf⟩
        · skip
          obtain ⟨gg_13, hf⟩ := gd_out hf
          have ngg_13 := inb_lt gg_13
          rcases if_outN hf with ⟨c_14, hf⟩ | ⟨c_14, hf⟩
          · skip
            obtain ⟨r_15, x_16, qr_15, hf⟩ := bd_out hf
            replace hj : x_16 j = x0 j := (frX8_comes (by omega) qr_15).trans hj
            rw [so_out hf]
            exact hj
          · skip
            rw [so_out hf]
            exact hj
        · skip
          rw [so_out hf]
          exact hj
theorem frbX8_counts_h10 {r : Int32} {z : XS} {j : Nat}  {k10 : Int32 → Int32 → XS → Option (Int32 × XS)} (hk10 : ∀ (u1 : Int32) (u2 : Int32) (x : XS), k10 u1 u2 x = some (r, z) → z j = x j) : ∀ (u1 : Int32) (u2 : Int32) (x : XS), bX8_counts_h10 k10 u1 u2 x = some (r, z) → z j = x j := by
  intro u1 u2 x hf
  obtain ⟨x0, hx0⟩ : ∃ y, y = x := ⟨_, rfl⟩
  have hj : x j = x0 j := by rw [hx0]
  rw [← hx0]
  unfold bX8_counts_h10 at hf
  rcases if_out hf with ⟨c_3, hf⟩ | ⟨c_3, hf⟩
  · skip
    rw [so_out hf]
    exact hj
  · skip
    obtain ⟨gg_4, hf⟩ := gd_out hf
    have ngg_4 := inb_lt gg_4
    obtain ⟨v_5, ev_5, hf⟩ := st_out hf
    rcases if_outN hf with ⟨c_6, hf⟩ | ⟨c_6, hf⟩
    · skip
      obtain ⟨v_7, ev_7, hf⟩ := st_out hf
      exact (hk10 u1 v_7 x hf).trans hj
    · skip
      rw [so_out hf]
      exact hj
theorem frlX8_counts_h10 {r : Int32} {z : XS} {j : Nat}  (n : Nat) : ∀ (u1 : Int32) (u2 : Int32) (x : XS), lX8_counts_h10 n u1 u2 x = some (r, z) → z j = x j := by
  induction n with
  | zero => intro u1 u2 x hf; exact absurd hf (by intro q; cases q)
  | succ n ih => exact frbX8_counts_h10  ih
theorem frX8_counts_h10 {r : Int32} {z : XS} {j : Nat}  : ∀ (u1 : Int32) (u2 : Int32) (x : XS), fX8_counts_h10 u1 u2 x = some (r, z) → z j = x j := frlX8_counts_h10  FU
theorem frX8_counts {v1 : Int32} {j : Nat}  {x z : XS} {r : Int32} (hf : fX8_counts v1 x = some (r, z)) : z j = x j := by
  obtain ⟨x0, hx0⟩ : ∃ y, y = x := ⟨_, rfl⟩
  have hj : x j = x0 j := by rw [hx0]
  rw [← hx0]
  unfold fX8_counts at hf
  obtain ⟨gg_1, hf⟩ := gd_out hf
  have ngg_1 := inb_lt gg_1
  obtain ⟨v_2, ev_2, hf⟩ := st_out hf
  exact (frX8_counts_h10 v1 v_2 x hf).trans hj
theorem roX8_counts {v1 : Int32} {x z : XS} {r : Int32} (hf : fX8_counts v1 x = some (r, z)) : z = x := funext fun j => frX8_counts (j := j) hf
theorem frX8_two {v0 : Int32} {v1 : Int32} {v2 : Int32} {j : Nat}  {x z : XS} {r : Int32} (hf : fX8_two v0 v1 v2 x = some (r, z)) : z j = x j := by
  obtain ⟨x0, hx0⟩ : ∃ y, y = x := ⟨_, rfl⟩
  have hj : x j = x0 j := by rw [hx0]
  rw [← hx0]
  unfold fX8_two at hf
  by_cases c_1 : v0 = (-8)
  · replace hf := if_p c_1 hf
    rw [so_out hf]
    exact hj
  · replace hf := if_n c_1 hf
    by_cases c_2 : v0 = (-7)
    · replace hf := if_p c_2 hf
      rw [so_out hf]
      exact hj
    · replace hf := if_n c_2 hf
      by_cases c_3 : v0 = (-6)
      · replace hf := if_p c_3 hf
        rw [so_out hf]
        exact hj
      · replace hf := if_n c_3 hf
        by_cases c_4 : v0 = (-5)
        · replace hf := if_p c_4 hf
          rcases if_out hf with ⟨c_5, hf⟩ | ⟨c_5, hf⟩
          · skip
            rw [so_out hf]
            exact hj
          · skip
            rw [so_out hf]
            exact hj
        · replace hf := if_n c_4 hf
          by_cases c_6 : v0 = (-4)
          · replace hf := if_p c_6 hf
            rcases if_outN hf with ⟨c_7, hf⟩ | ⟨c_7, hf⟩
            · skip
              rw [so_out hf]
              exact hj
            · skip
              rw [so_out hf]
              exact hj
          · replace hf := if_n c_6 hf
            by_cases c_8 : v0 = (-3)
            · replace hf := if_p c_8 hf
              rcases if_out hf with ⟨c_9, hf⟩ | ⟨c_9, hf⟩
              · skip
                rw [so_out hf]
                exact hj
              · skip
                rw [so_out hf]
                exact hj
            · replace hf := if_n c_8 hf
              by_cases c_10 : v0 = (-2)
              · replace hf := if_p c_10 hf
                rcases if_out hf with ⟨c_11, hf⟩ | ⟨c_11, hf⟩
                · skip
                  rw [so_out hf]
                  exact hj
                · skip
                  rcases if_out hf with ⟨c_12, hf⟩ | ⟨c_12, hf⟩
                  · skip
                    rw [so_out hf]
                    exact hj
                  · skip
                    rw [so_out hf]
                    exact hj
              · replace hf := if_n c_10 hf
                by_cases c_13 : v0 = (-1)
                · replace hf := if_p c_13 hf
                  rcases if_outN hf with ⟨c_14, hf⟩ | ⟨c_14, hf⟩
                  · skip
                    rw [so_out hf]
                    exact hj
                  · skip
                    rcases if_out hf with ⟨c_15, hf⟩ | ⟨c_15, hf⟩
                    · skip
                      rw [so_out hf]
                      exact hj
                    · skip
                      rw [so_out hf]
                      exact hj
                · replace hf := if_n c_13 hf
                  rcases if_outN hf with ⟨c_16, hf⟩ | ⟨c_16, hf⟩
                  · skip
                    obtain ⟨gg_17, hf⟩ := gd_out hf
                    obtain ⟨v_18, ev_18, hf⟩ := st_out hf
                    rw [so_out hf]
                    exact hj
                  · skip
                    rw [so_out hf]
                    exact hj
theorem roX8_two {v0 : Int32} {v1 : Int32} {v2 : Int32} {x z : XS} {r : Int32} (hf : fX8_two v0 v1 v2 x = some (r, z)) : z = x := funext fun j => frX8_two (j := j) hf
theorem frbX8_worksOut_h21 {r : Int32} {z : XS} {j : Nat} (j0 : j ≠ 110) {k21 : Int32 → Int32 → Int32 → Int32 → XS → Option (Int32 × XS)} (hk21 : ∀ (u1 : Int32) (u2 : Int32) (u3 : Int32) (u4 : Int32) (x : XS), k21 u1 u2 u3 u4 x = some (r, z) → z j = x j) : ∀ (u1 : Int32) (u2 : Int32) (u3 : Int32) (u4 : Int32) (x : XS), bX8_worksOut_h21 k21 u1 u2 u3 u4 x = some (r, z) → z j = x j := by
  intro u1 u2 u3 u4 x hf
  obtain ⟨x0, hx0⟩ : ∃ y, y = x := ⟨_, rfl⟩
  have hj : x j = x0 j := by rw [hx0]
  rw [← hx0]
  unfold bX8_worksOut_h21 at hf
  rcases if_out hf with ⟨c_3, hf⟩ | ⟨c_3, hf⟩
  · skip
    obtain ⟨gg_4, hf⟩ := gd_out hf
    have ngg_4 := inb_lt gg_4
    rw [so_out hf]
    exact hj
  · skip
    obtain ⟨gg_5, hf⟩ := gd_out hf
    have ngg_5 := inb_lt gg_5
    obtain ⟨v_6, ev_6, hf⟩ := st_out hf
    rcases if_out hf with ⟨c_7, hf⟩ | ⟨c_7, hf⟩
    · skip
      rcases if_outN hf with ⟨c_8, hf⟩ | ⟨c_8, hf⟩
      · skip
        obtain ⟨v_9, ev_9, hf⟩ := st_out hf
        obtain ⟨gg_10, hf⟩ := gd_out hf
        have ngg_10 := inb_lt gg_10
        obtain ⟨gg_11, hf⟩ := gd_out hf
        have ngg_11 := inb_lt gg_11
        obtain ⟨r_12, x_13, qr_12, hf⟩ := bd_out hf
        replace hj : x_13 j = x0 j := (frX8_two  qr_12).trans hj
        obtain ⟨gg_14, hf⟩ := gd_out hf
        have ngg_14 := inb_lt gg_14
        obtain ⟨x_15, ex_15, hf⟩ := st_out hf
        replace hj : x_15 j = x0 j := (show x_15 j = x_13 j by rw [ex_15]; exact wr_ne (by omega)).trans hj
        obtain ⟨v_16, ev_16, hf⟩ := st_out hf
        exact (hk21 u1 v_9 u3 v_16 x_15 hf).trans hj
      · skip
        obtain ⟨gg_17, hf⟩ := gd_out hf
        have ngg_17 := inb_lt gg_17
        rcases if_outN hf with ⟨c_18, hf⟩ | ⟨c_18, hf⟩
        · skip
          obtain ⟨gg_19, hf⟩ := gd_out hf
          have ngg_19 := inb_lt gg_19
          obtain ⟨x_20, ex_20, hf⟩ := st_out hf
          replace hj : x_20 j = x0 j := (show x_20 j = x j by rw [ex_20]; exact wr_ne (by omega)).trans hj
          obtain ⟨v_21, ev_21, hf⟩ := st_out hf
          exact (hk21 u1 u2 u3 v_21 x_20 hf).trans hj
        · skip
          obtain ⟨gg_22, hf⟩ := gd_out hf
          have ngg_22 := inb_lt gg_22
          obtain ⟨x_23, ex_23, hf⟩ := st_out hf
          replace hj : x_23 j = x0 j := (show x_23 j = x j by rw [ex_23]; exact wr_ne (by omega)).trans hj
          obtain ⟨v_24, ev_24, hf⟩ := st_out hf
          exact (hk21 u1 u2 u3 v_24 x_23 hf).trans hj
    · skip
      rcases if_out hf with ⟨c_25, hf⟩ | ⟨c_25, hf⟩
      · skip
        obtain ⟨gg_26, hf⟩ := gd_out hf
        have ngg_26 := inb_lt gg_26
        obtain ⟨gg_27, hf⟩ := gd_out hf
        have ngg_27 := inb_lt gg_27
        obtain ⟨x_28, ex_28, hf⟩ := st_out hf
        replace hj : x_28 j = x0 j := (show x_28 j = x j by rw [ex_28]; exact wr_ne (by omega)).trans hj
        obtain ⟨v_29, ev_29, hf⟩ := st_out hf
        obtain ⟨v_30, ev_30, hf⟩ := st_out hf
        exact (hk21 u1 v_29 u3 v_30 x_28 hf).trans hj
      · skip
        obtain ⟨gg_31, hf⟩ := gd_out hf
        have ngg_31 := inb_lt gg_31
        obtain ⟨x_32, ex_32, hf⟩ := st_out hf
        replace hj : x_32 j = x0 j := (show x_32 j = x j by rw [ex_32]; exact wr_ne (by omega)).trans hj
        obtain ⟨v_33, ev_33, hf⟩ := st_out hf
        obtain ⟨v_34, ev_34, hf⟩ := st_out hf
        exact (hk21 u1 v_33 u3 v_34 x_32 hf).trans hj
theorem frlX8_worksOut_h21 {r : Int32} {z : XS} {j : Nat} (j0 : j ≠ 110) (n : Nat) : ∀ (u1 : Int32) (u2 : Int32) (u3 : Int32) (u4 : Int32) (x : XS), lX8_worksOut_h21 n u1 u2 u3 u4 x = some (r, z) → z j = x j := by
  induction n with
  | zero => intro u1 u2 u3 u4 x hf; exact absurd hf (by intro q; cases q)
  | succ n ih => exact frbX8_worksOut_h21 j0 ih
theorem frX8_worksOut_h21 {r : Int32} {z : XS} {j : Nat} (j0 : j ≠ 110) : ∀ (u1 : Int32) (u2 : Int32) (u3 : Int32) (u4 : Int32) (x : XS), fX8_worksOut_h21 u1 u2 u3 u4 x = some (r, z) → z j = x j := frlX8_worksOut_h21 j0 FU
theorem frX8_worksOut {v1 : Int32} {j : Nat} (j0 : j ≠ 110) {x z : XS} {r : Int32} (hf : fX8_worksOut v1 x = some (r, z)) : z j = x j := by
  obtain ⟨x0, hx0⟩ : ∃ y, y = x := ⟨_, rfl⟩
  have hj : x j = x0 j := by rw [hx0]
  rw [← hx0]
  unfold fX8_worksOut at hf
  obtain ⟨gg_1, hf⟩ := gd_out hf
  have ngg_1 := inb_lt gg_1
  obtain ⟨v_2, ev_2, hf⟩ := st_out hf
  exact (frX8_worksOut_h21 j0 v1 0 v_2 0 x hf).trans hj
theorem frX8_plainOf {v1 : Int32} {v2 : Int32} {v3 : Int32} {j : Nat} (j0 : j ≠ 111) (j1 : j ≠ 110) {x z : XS} {r : Int32} (hf : fX8_plainOf v1 v2 v3 x = some (r, z)) : z j = x j := by
  obtain ⟨x0, hx0⟩ : ∃ y, y = x := ⟨_, rfl⟩
  have hj : x j = x0 j := by rw [hx0]
  rw [← hx0]
  unfold fX8_plainOf at hf
  obtain ⟨r_1, x_2, qr_1, hf⟩ := bd_out hf
  replace hj : x_2 j = x0 j := (frX8_counts  qr_1).trans hj
  obtain ⟨gg_3, hf⟩ := gd_out hf
  have ngg_3 := inb_lt gg_3
  obtain ⟨x_4, ex_4, hf⟩ := st_out hf
  replace hj : x_4 j = x0 j := (show x_4 j = x_2 j by rw [ex_4]; exact wr_ne (by omega)).trans hj
  obtain ⟨gg_5, hf⟩ := gd_out hf
  have ngg_5 := inb_lt gg_5
  obtain ⟨x_6, ex_6, hf⟩ := st_out hf
  replace hj : x_6 j = x0 j := (show x_6 j = x_4 j by rw [ex_6]; exact wr_ne (by omega)).trans hj
  obtain ⟨r_7, x_8, qr_7, hf⟩ := bd_out hf
  replace hj : x_8 j = x0 j := (frX8_of  qr_7).trans hj
  obtain ⟨gg_9, hf⟩ := gd_out hf
  have ngg_9 := inb_lt gg_9
  obtain ⟨x_10, ex_10, hf⟩ := st_out hf
  replace hj : x_10 j = x0 j := (show x_10 j = x_8 j by rw [ex_10]; exact wr_ne (by omega)).trans hj
  rcases if_out hf with ⟨c_11, hf⟩ | ⟨c_11, hf⟩
  · skip
    obtain ⟨r_12, x_13, qr_12, hf⟩ := bd_out hf
    replace hj : x_13 j = x0 j := (frX8_worksOut (by omega) qr_12).trans hj
    obtain ⟨r_14, x_15, qr_14, hf⟩ := bd_out hf
    replace hj : x_15 j = x0 j := (frX8_within  qr_14).trans hj
    rw [so_out hf]
    exact hj
  · skip
    obtain ⟨gg_16, hf⟩ := gd_out hf
    obtain ⟨v_17, ev_17, hf⟩ := st_out hf
    obtain ⟨r_18, x_19, qr_18, hf⟩ := bd_out hf
    replace hj : x_19 j = x0 j := (frX8_within  qr_18).trans hj
    rw [so_out hf]
    exact hj
theorem frX8_shineOf {v1 : Int32} {v2 : Int32} {v3 : Int32} {j : Nat} (j0 : j ≠ 111) (j1 : j ≠ 110) {x z : XS} {r : Int32} (hf : fX8_shineOf v1 v2 v3 x = some (r, z)) : z j = x j := by
  obtain ⟨x0, hx0⟩ : ∃ y, y = x := ⟨_, rfl⟩
  have hj : x j = x0 j := by rw [hx0]
  rw [← hx0]
  unfold fX8_shineOf at hf
  obtain ⟨r_1, x_2, qr_1, hf⟩ := bd_out hf
  replace hj : x_2 j = x0 j := (frX8_of  qr_1).trans hj
  by_cases c_3 : r_1 = 1
  · replace hf := if_p c_3 hf
    obtain ⟨r_4, x_5, qr_4, hf⟩ := bd_out hf
    replace hj : x_5 j = x0 j := (frX8_plainOf (by omega) (by omega) qr_4).trans hj
    obtain ⟨r_6, x_7, qr_6, hf⟩ := bd_out hf
    replace hj : x_7 j = x0 j := (frX8_within  qr_6).trans hj
    rw [so_out hf]
    exact hj
  · replace hf := if_n c_3 hf
    by_cases c_8 : r_1 = 2
    · replace hf := if_p c_8 hf
      obtain ⟨r_9, x_10, qr_9, hf⟩ := bd_out hf
      replace hj : x_10 j = x0 j := (frX8_plainOf (by omega) (by omega) qr_9).trans hj
      rw [so_out hf]
      exact hj
    · replace hf := if_n c_8 hf
      by_cases c_11 : r_1 = 3
      · replace hf := if_p c_11 hf
        obtain ⟨r_12, x_13, qr_12, hf⟩ := bd_out hf
        replace hj : x_13 j = x0 j := (frX8_plainOf (by omega) (by omega) qr_12).trans hj
        obtain ⟨r_14, x_15, qr_14, hf⟩ := bd_out hf
        replace hj : x_15 j = x0 j := (frX8_within  qr_14).trans hj
        rw [so_out hf]
        exact hj
      · replace hf := if_n c_11 hf
        by_cases c_16 : r_1 = 4
        · replace hf := if_p c_16 hf
          obtain ⟨r_17, x_18, qr_17, hf⟩ := bd_out hf
          replace hj : x_18 j = x0 j := (frX8_plainOf (by omega) (by omega) qr_17).trans hj
          rcases if_out hf with ⟨c_19, hf⟩ | ⟨c_19, hf⟩
          · skip
            obtain ⟨v_20, ev_20, hf⟩ := st_out hf
            rw [so_out hf]
            exact hj
          · skip
            obtain ⟨v_21, ev_21, hf⟩ := st_out hf
            rw [so_out hf]
            exact hj
        · replace hf := if_n c_16 hf
          by_cases c_22 : r_1 = 5
          · replace hf := if_p c_22 hf
            obtain ⟨r_23, x_24, qr_23, hf⟩ := bd_out hf
            replace hj : x_24 j = x0 j := (frX8_plainOf (by omega) (by omega) qr_23).trans hj
            rw [so_out hf]
            exact hj
          · replace hf := if_n c_22 hf
            obtain ⟨r_25, x_26, qr_25, hf⟩ := bd_out hf
            replace hj : x_26 j = x0 j := (frX8_plainOf (by omega) (by omega) qr_25).trans hj
            rw [so_out hf]
            exact hj
theorem frX8_takesOf {v1 : Int32} {j : Nat}  {x z : XS} {r : Int32} (hf : fX8_takesOf v1 x = some (r, z)) : z j = x j := by
  obtain ⟨x0, hx0⟩ : ∃ y, y = x := ⟨_, rfl⟩
  have hj : x j = x0 j := by rw [hx0]
  rw [← hx0]
  unfold fX8_takesOf at hf
  obtain ⟨r_1, x_2, qr_1, hf⟩ := bd_out hf
  replace hj : x_2 j = x0 j := (frX8_of  qr_1).trans hj
  obtain ⟨r_3, x_4, qr_3, hf⟩ := bd_out hf
  replace hj : x_4 j = x0 j := (frX8_of  qr_3).trans hj
  by_cases c_5 : r_3 = 1
  · replace hf := if_p c_5 hf
    obtain ⟨v_6, ev_6, hf⟩ := st_out hf
    rw [so_out hf]
    exact hj
  · replace hf := if_n c_5 hf
    by_cases c_7 : r_3 = 2
    · replace hf := if_p c_7 hf
      obtain ⟨v_8, ev_8, hf⟩ := st_out hf
      rw [so_out hf]
      exact hj
    · replace hf := if_n c_7 hf
      by_cases c_9 : r_3 = 3
      · replace hf := if_p c_9 hf
        obtain ⟨v_10, ev_10, hf⟩ := st_out hf
        rw [so_out hf]
        exact hj
      · replace hf := if_n c_9 hf
        by_cases c_11 : r_3 = 4
        · replace hf := if_p c_11 hf
          obtain ⟨v_12, ev_12, hf⟩ := st_out hf
          rw [so_out hf]
          exact hj
        · replace hf := if_n c_11 hf
          obtain ⟨v_13, ev_13, hf⟩ := st_out hf
          rw [so_out hf]
          exact hj
theorem roX8_takesOf {v1 : Int32} {x z : XS} {r : Int32} (hf : fX8_takesOf v1 x = some (r, z)) : z = x := funext fun j => frX8_takesOf (j := j) hf
theorem frX8_asksOf {v1 : Int32} {j : Nat}  {x z : XS} {r : Int32} (hf : fX8_asksOf v1 x = some (r, z)) : z j = x j := by
  obtain ⟨x0, hx0⟩ : ∃ y, y = x := ⟨_, rfl⟩
  have hj : x j = x0 j := by rw [hx0]
  rw [← hx0]
  unfold fX8_asksOf at hf
  obtain ⟨r_1, x_2, qr_1, hf⟩ := bd_out hf
  replace hj : x_2 j = x0 j := (frX8_of  qr_1).trans hj
  obtain ⟨r_3, x_4, qr_3, hf⟩ := bd_out hf
  replace hj : x_4 j = x0 j := (frX8_of  qr_3).trans hj
  by_cases c_5 : r_3 = 2
  · replace hf := if_p c_5 hf
    rw [so_out hf]
    exact hj
  · replace hf := if_n c_5 hf
    by_cases c_6 : r_3 = 3
    · replace hf := if_p c_6 hf
      rw [so_out hf]
      exact hj
    · replace hf := if_n c_6 hf
      by_cases c_7 : r_3 = 4
      · replace hf := if_p c_7 hf
        rw [so_out hf]
        exact hj
      · replace hf := if_n c_7 hf
        by_cases c_8 : r_3 = 5
        · replace hf := if_p c_8 hf
          rcases if_out hf with ⟨c_9, hf⟩ | ⟨c_9, hf⟩
          · skip
            rw [so_out hf]
            exact hj
          · skip
            rw [so_out hf]
            exact hj
        · replace hf := if_n c_8 hf
          rw [so_out hf]
          exact hj
theorem roX8_asksOf {v1 : Int32} {x z : XS} {r : Int32} (hf : fX8_asksOf v1 x = some (r, z)) : z = x := funext fun j => frX8_asksOf (j := j) hf
theorem frX8_worthOf {v1 : Int32} {j : Nat}  {x z : XS} {r : Int32} (hf : fX8_worthOf v1 x = some (r, z)) : z j = x j := by
  obtain ⟨x0, hx0⟩ : ∃ y, y = x := ⟨_, rfl⟩
  have hj : x j = x0 j := by rw [hx0]
  rw [← hx0]
  unfold fX8_worthOf at hf
  obtain ⟨r_1, x_2, qr_1, hf⟩ := bd_out hf
  replace hj : x_2 j = x0 j := (frX8_of  qr_1).trans hj
  obtain ⟨r_3, x_4, qr_3, hf⟩ := bd_out hf
  replace hj : x_4 j = x0 j := (frX8_of  qr_3).trans hj
  by_cases c_5 : r_3 = 1
  · replace hf := if_p c_5 hf
    rw [so_out hf]
    exact hj
  · replace hf := if_n c_5 hf
    by_cases c_6 : r_3 = 2
    · replace hf := if_p c_6 hf
      rw [so_out hf]
      exact hj
    · replace hf := if_n c_6 hf
      by_cases c_7 : r_3 = 3
      · replace hf := if_p c_7 hf
        rw [so_out hf]
        exact hj
      · replace hf := if_n c_7 hf
        by_cases c_8 : r_3 = 4
        · replace hf := if_p c_8 hf
          rw [so_out hf]
          exact hj
        · replace hf := if_n c_8 hf
          by_cases c_9 : r_3 = 5
          · replace hf := if_p c_9 hf
            rw [so_out hf]
            exact hj
          · replace hf := if_n c_9 hf
            rw [so_out hf]
            exact hj
theorem roX8_worthOf {v1 : Int32} {x z : XS} {r : Int32} (hf : fX8_worthOf v1 x = some (r, z)) : z = x := funext fun j => frX8_worthOf (j := j) hf
theorem frX8_told {v1 : Int32} {v2 : Int32} {j : Nat}  {x z : XS} {r : Int32} (hf : fX8_told v1 v2 x = some (r, z)) : z j = x j := by
  obtain ⟨x0, hx0⟩ : ∃ y, y = x := ⟨_, rfl⟩
  have hj : x j = x0 j := by rw [hx0]
  rw [← hx0]
  unfold fX8_told at hf
  obtain ⟨r_1, x_2, qr_1, hf⟩ := bd_out hf
  replace hj : x_2 j = x0 j := (frX8_isBoy  qr_1).trans hj
  rcases if_out hf with ⟨c_3, hf⟩ | ⟨c_3, hf⟩
  · skip
    rw [so_out hf]
    exact hj
  · skip
    obtain ⟨r_4, x_5, qr_4, hf⟩ := bd_out hf
    replace hj : x_5 j = x0 j := (frX8_in  qr_4).trans hj
    rcases if_outN hf with ⟨c_6, hf⟩ | ⟨c_6, hf⟩
    · skip
      rcases if_out hf with ⟨c_7, hf⟩ | ⟨c_7, hf⟩
      · skip
        rcases if_outN hf with ⟨c_8, hf⟩ | ⟨c_8, hf⟩
        · skip
          rcases if_outN hf with ⟨c_9, hf⟩ | ⟨c_9, hf⟩
          · skip
            obtain ⟨r_10, x_11, qr_10, hf⟩ := bd_out hf
            replace hj : x_11 j = x0 j := (frX8_worthOf  qr_10).trans hj
            rw [so_out hf]
            exact hj
          · skip
            obtain ⟨r_12, x_13, qr_12, hf⟩ := bd_out hf
            replace hj : x_13 j = x0 j := (frX8_asksOf  qr_12).trans hj
            rw [so_out hf]
            exact hj
        · skip
          obtain ⟨r_14, x_15, qr_14, hf⟩ := bd_out hf
          replace hj : x_15 j = x0 j := (frX8_takesOf  qr_14).trans hj
          rw [so_out hf]
          exact hj
      · skip
        obtain ⟨r_16, x_17, qr_16, hf⟩ := bd_out hf
        replace hj : x_17 j = x0 j := (frX8_of  qr_16).trans hj
        rw [so_out hf]
        exact hj
    · skip
      rw [so_out hf]
      exact hj
theorem roX8_told {v1 : Int32} {v2 : Int32} {x z : XS} {r : Int32} (hf : fX8_told v1 v2 x = some (r, z)) : z = x := funext fun j => frX8_told (j := j) hf
theorem frX8_shine {v1 : Int32} {v2 : Int32} {v3 : Int32} {j : Nat} (j0 : j ≠ 111) (j1 : j ≠ 110) {x z : XS} {r : Int32} (hf : fX8_shine v1 v2 v3 x = some (r, z)) : z j = x j := by
  obtain ⟨x0, hx0⟩ : ∃ y, y = x := ⟨_, rfl⟩
  have hj : x j = x0 j := by rw [hx0]
  rw [← hx0]
  unfold fX8_shine at hf
  obtain ⟨r_1, x_2, qr_1, hf⟩ := bd_out hf
  replace hj : x_2 j = x0 j := (frX8_isBoy  qr_1).trans hj
  rcases if_out hf with ⟨c_3, hf⟩ | ⟨c_3, hf⟩
  · skip
    rw [so_out hf]
    exact hj
  · skip
    obtain ⟨r_4, x_5, qr_4, hf⟩ := bd_out hf
    replace hj : x_5 j = x0 j := (frX8_in  qr_4).trans hj
    rcases if_out hf with ⟨c_6, hf⟩ | ⟨c_6, hf⟩
    · skip
      rw [so_out hf]
      exact hj
    · skip
      obtain ⟨r_7, x_8, qr_7, hf⟩ := bd_out hf
      replace hj : x_8 j = x0 j := (frX8_in  qr_7).trans hj
      rcases if_out hf with ⟨c_9, hf⟩ | ⟨c_9, hf⟩
      · skip
        rw [so_out hf]
        exact hj
      · skip
        obtain ⟨r_10, x_11, qr_10, hf⟩ := bd_out hf
        replace hj : x_11 j = x0 j := (frX8_shineOf (by omega) (by omega) qr_10).trans hj
        rw [so_out hf]
        exact hj
theorem frX8_isUnder_h19 {r : Int32} {z : XS} {j : Nat}  : ∀ (u0 : Int32) (u1 : Int32) (x : XS), fX8_isUnder_h19 u0 u1 x = some (r, z) → z j = x j := by
  intro u0 u1 x hf
  obtain ⟨x0, hx0⟩ : ∃ y, y = x := ⟨_, rfl⟩
  have hj : x j = x0 j := by rw [hx0]
  rw [← hx0]
  unfold fX8_isUnder_h19 at hf
  rcases if_outN hf with ⟨c_5, hf⟩ | ⟨c_5, hf⟩
  · skip
    rw [so_out hf]
    exact hj
  · skip
    rcases if_outN hf with ⟨c_6, hf⟩ | ⟨c_6, hf⟩
    · skip
      rw [so_out hf]
      exact hj
    · skip
      rw [so_out hf]
      exact hj
theorem frX8_isUnder {v0 : Int32} {v1 : Int32} {j : Nat}  {x z : XS} {r : Int32} (hf : fX8_isUnder v0 v1 x = some (r, z)) : z j = x j := by
  obtain ⟨x0, hx0⟩ : ∃ y, y = x := ⟨_, rfl⟩
  have hj : x j = x0 j := by rw [hx0]
  rw [← hx0]
  unfold fX8_isUnder at hf
  rcases if_out hf with ⟨c_1, hf⟩ | ⟨c_1, hf⟩
  · skip
    rw [so_out hf]
    exact hj
  · skip
    rcases if_out hf with ⟨c_2, hf⟩ | ⟨c_2, hf⟩
    · skip
      rw [so_out hf]
      exact hj
    · skip
      rcases if_outN hf with ⟨c_3, hf⟩ | ⟨c_3, hf⟩
      · skip
        exact (frX8_isUnder_h19 v0 v1 x hf).trans hj
      · skip
        rcases if_out hf with ⟨c_4, hf⟩ | ⟨c_4, hf⟩
        · skip
          rw [so_out hf]
          exact hj
        · skip
          exact (frX8_isUnder_h19 v0 v1 x hf).trans hj
theorem roX8_isUnder {v0 : Int32} {v1 : Int32} {x z : XS} {r : Int32} (hf : fX8_isUnder v0 v1 x = some (r, z)) : z = x := funext fun j => frX8_isUnder (j := j) hf
theorem frX8_as {v1 : Int32} {v2 : Int32} {j : Nat}  {x z : XS} {r : Int32} (hf : fX8_as v1 v2 x = some (r, z)) : z j = x j := by
  obtain ⟨x0, hx0⟩ : ∃ y, y = x := ⟨_, rfl⟩
  have hj : x j = x0 j := by rw [hx0]
  rw [← hx0]
  unfold fX8_as at hf
  obtain ⟨r_1, x_2, qr_1, hf⟩ := bd_out hf
  replace hj : x_2 j = x0 j := (frX8_isBoy  qr_1).trans hj
  rcases if_out hf with ⟨c_3, hf⟩ | ⟨c_3, hf⟩
  · skip
    rw [so_out hf]
    exact hj
  · skip
    obtain ⟨r_4, x_5, qr_4, hf⟩ := bd_out hf
    replace hj : x_5 j = x0 j := (frX8_in  qr_4).trans hj
    rcases if_outN hf with ⟨c_6, hf⟩ | ⟨c_6, hf⟩
    · skip
      obtain ⟨r_7, x_8, qr_7, hf⟩ := bd_out hf
      replace hj : x_8 j = x0 j := (frX8_of  qr_7).trans hj
      obtain ⟨r_9, x_10, qr_9, hf⟩ := bd_out hf
      replace hj : x_10 j = x0 j := (frX8_isUnder  qr_9).trans hj
      rcases if_out hf with ⟨c_11, hf⟩ | ⟨c_11, hf⟩
      · skip
        rw [so_out hf]
        exact hj
      · skip
        obtain ⟨r_12, x_13, qr_12, hf⟩ := bd_out hf
        replace hj : x_13 j = x0 j := (frX8_of  qr_12).trans hj
        rw [so_out hf]
        exact hj
    · skip
      rw [so_out hf]
      exact hj
theorem roX8_as {v1 : Int32} {v2 : Int32} {x z : XS} {r : Int32} (hf : fX8_as v1 v2 x = some (r, z)) : z = x := funext fun j => frX8_as (j := j) hf
theorem frX8_turns {v1 : Int32} {v2 : Int32} {j : Nat} (j0 : j ≠ 100) {x z : XS} {r : Int32} (hf : fX8_turns v1 v2 x = some (r, z)) : z j = x j := by
  obtain ⟨x0, hx0⟩ : ∃ y, y = x := ⟨_, rfl⟩
  have hj : x j = x0 j := by rw [hx0]
  rw [← hx0]
  unfold fX8_turns at hf
  obtain ⟨r_1, x_2, qr_1, hf⟩ := bd_out hf
  replace hj : x_2 j = x0 j := (frX8_isBoy  qr_1).trans hj
  rcases if_out hf with ⟨c_3, hf⟩ | ⟨c_3, hf⟩
  · skip
    rw [so_out hf]
    exact hj
  · skip
    obtain ⟨r_4, x_5, qr_4, hf⟩ := bd_out hf
    replace hj : x_5 j = x0 j := (frX8_in  qr_4).trans hj
    rcases if_out hf with ⟨c_6, hf⟩ | ⟨c_6, hf⟩
    · skip
      rw [so_out hf]
      exact hj
    · skip
      obtain ⟨r_7, x_8, qr_7, hf⟩ := bd_out hf
      replace hj : x_8 j = x0 j := (frX8_becomes (by omega) qr_7).trans hj
      rw [so_out hf]
      exact hj
theorem frX8_set {v1 : Int32} {v2 : Int32} {v3 : Int32} {j : Nat} (j0 : j ≠ 100) {x z : XS} {r : Int32} (hf : fX8_set v1 v2 v3 x = some (r, z)) : z j = x j := by
  obtain ⟨x0, hx0⟩ : ∃ y, y = x := ⟨_, rfl⟩
  have hj : x j = x0 j := by rw [hx0]
  rw [← hx0]
  unfold fX8_set at hf
  obtain ⟨r_1, x_2, qr_1, hf⟩ := bd_out hf
  replace hj : x_2 j = x0 j := (frX8_isBoy  qr_1).trans hj
  rcases if_out hf with ⟨c_3, hf⟩ | ⟨c_3, hf⟩
  · skip
    rw [so_out hf]
    exact hj
  · skip
    obtain ⟨r_4, x_5, qr_4, hf⟩ := bd_out hf
    replace hj : x_5 j = x0 j := (frX8_in  qr_4).trans hj
    rcases if_out hf with ⟨c_6, hf⟩ | ⟨c_6, hf⟩
    · skip
      rw [so_out hf]
      exact hj
    · skip
      obtain ⟨r_7, x_8, qr_7, hf⟩ := bd_out hf
      replace hj : x_8 j = x0 j := (frX8_isOf  qr_7).trans hj
      rcases if_out hf with ⟨c_9, hf⟩ | ⟨c_9, hf⟩
      · skip
        rw [so_out hf]
        exact hj
      · skip
        obtain ⟨r_10, x_11, qr_10, hf⟩ := bd_out hf
        replace hj : x_11 j = x0 j := (frX8_becomes (by omega) qr_10).trans hj
        rw [so_out hf]
        exact hj
theorem frX8_draw {j : Nat} (j0 : j ≠ 100) {x z : XS} {r : Int32} (hf : fX8_draw x = some (r, z)) : z j = x j := by
  obtain ⟨x0, hx0⟩ : ∃ y, y = x := ⟨_, rfl⟩
  have hj : x j = x0 j := by rw [hx0]
  rw [← hx0]
  unfold fX8_draw at hf
  obtain ⟨gg_1, hf⟩ := gd_out hf
  have ngg_1 := inb_lt gg_1
  obtain ⟨gg_2, hf⟩ := gd_out hf
  have ngg_2 := inb_lt gg_2
  obtain ⟨x_3, ex_3, hf⟩ := st_out hf
  replace hj : x_3 j = x0 j := (show x_3 j = x j by rw [ex_3]; exact wr_ne (by omega)).trans hj
  obtain ⟨gg_4, hf⟩ := gd_out hf
  have ngg_4 := inb_lt gg_4
  obtain ⟨v_5, ev_5, hf⟩ := st_out hf
  rw [so_out hf]
  exact hj
theorem frbX8_deal_h15 {r : Int32} {z : XS} {j : Nat} (j0 : j ≠ 100) {k15 : Int32 → Int32 → XS → Option (Int32 × XS)} (hk15 : ∀ (u1 : Int32) (u2 : Int32) (x : XS), k15 u1 u2 x = some (r, z) → z j = x j) : ∀ (u1 : Int32) (u2 : Int32) (x : XS), bX8_deal_h15 k15 u1 u2 x = some (r, z) → z j = x j := by
  intro u1 u2 x hf
  obtain ⟨x0, hx0⟩ : ∃ y, y = x := ⟨_, rfl⟩
  have hj : x j = x0 j := by rw [hx0]
  rw [← hx0]
  unfold bX8_deal_h15 at hf
  rcases if_out hf with ⟨c_4, hf⟩ | ⟨c_4, hf⟩
  · skip
    rw [so_out hf]
    exact hj
  · skip
    obtain ⟨gg_5, hf⟩ := gd_out hf
    have ngg_5 := inb_lt gg_5
    rcases if_out hf with ⟨c_6, hf⟩ | ⟨c_6, hf⟩
    · skip
      rw [so_out hf]
      exact hj
    · skip
      obtain ⟨r_7, x_8, qr_7, hf⟩ := bd_out hf
      replace hj : x_8 j = x0 j := (frX8_draw (by omega) qr_7).trans hj
      obtain ⟨v_9, ev_9, hf⟩ := st_out hf
      obtain ⟨r_10, x_11, qr_10, hf⟩ := bd_out hf
      replace hj : x_11 j = x0 j := (frX8_draw (by omega) qr_10).trans hj
      obtain ⟨v_12, ev_12, hf⟩ := st_out hf
      obtain ⟨r_13, x_14, qr_13, hf⟩ := bd_out hf
      replace hj : x_14 j = x0 j := (frX8_draw (by omega) qr_13).trans hj
      obtain ⟨v_15, ev_15, hf⟩ := st_out hf
      obtain ⟨v_16, ev_16, hf⟩ := st_out hf
      obtain ⟨r_17, x_18, qr_17, hf⟩ := bd_out hf
      replace hj : x_18 j = x0 j := (frX8_draw (by omega) qr_17).trans hj
      obtain ⟨v_19, ev_19, hf⟩ := st_out hf
      obtain ⟨r_20, x_21, qr_20, hf⟩ := bd_out hf
      replace hj : x_21 j = x0 j := (frX8_comes (by omega) qr_20).trans hj
      obtain ⟨v_22, ev_22, hf⟩ := st_out hf
      exact (hk15 u1 v_22 x_21 hf).trans hj
theorem frlX8_deal_h15 {r : Int32} {z : XS} {j : Nat} (j0 : j ≠ 100) (n : Nat) : ∀ (u1 : Int32) (u2 : Int32) (x : XS), lX8_deal_h15 n u1 u2 x = some (r, z) → z j = x j := by
  induction n with
  | zero => intro u1 u2 x hf; exact absurd hf (by intro q; cases q)
  | succ n ih => exact frbX8_deal_h15 j0 ih
theorem frX8_deal_h15 {r : Int32} {z : XS} {j : Nat} (j0 : j ≠ 100) : ∀ (u1 : Int32) (u2 : Int32) (x : XS), fX8_deal_h15 u1 u2 x = some (r, z) → z j = x j := frlX8_deal_h15 j0 FU
theorem frX8_deal {v1 : Int32} {j : Nat} (j0 : j ≠ 100) {x z : XS} {r : Int32} (hf : fX8_deal v1 x = some (r, z)) : z j = x j := by
  obtain ⟨x0, hx0⟩ : ∃ y, y = x := ⟨_, rfl⟩
  have hj : x j = x0 j := by rw [hx0]
  rw [← hx0]
  unfold fX8_deal at hf
  obtain ⟨r_1, x_2, qr_1, hf⟩ := bd_out hf
  replace hj : x_2 j = x0 j := (frX8_in  qr_1).trans hj
  rcases if_outN hf with ⟨c_3, hf⟩ | ⟨c_3, hf⟩
  · skip
    exact (frX8_deal_h15 j0 v1 0 x_2 hf).trans hj
  · skip
    rw [so_out hf]
    exact hj
theorem frX8_seed {v1 : Int32} {j : Nat} (j0 : j ≠ 100) {x z : XS} {r : Int32} (hf : fX8_seed v1 x = some (r, z)) : z j = x j := by
  obtain ⟨x0, hx0⟩ : ∃ y, y = x := ⟨_, rfl⟩
  have hj : x j = x0 j := by rw [hx0]
  rw [← hx0]
  unfold fX8_seed at hf
  obtain ⟨r_1, x_2, qr_1, hf⟩ := bd_out hf
  replace hj : x_2 j = x0 j := (frX8_becomes (by omega) qr_1).trans hj
  rw [so_out hf]
  exact hj
theorem frX8_rule_h31 {r : Int32} {z : XS} {j : Nat} (j0 : j ≠ 100) : ∀ (u1 : Int32) (u2 : Int32) (s0 : Int32) (s1 : Int32) (s2 : Int32) (x : XS), fX8_rule_h31 u1 u2 s0 s1 s2 x = some (r, z) → z j = x j := by
  intro u1 u2 s0 s1 s2 x hf
  obtain ⟨x0, hx0⟩ : ∃ y, y = x := ⟨_, rfl⟩
  have hj : x j = x0 j := by rw [hx0]
  rw [← hx0]
  unfold fX8_rule_h31 at hf
  obtain ⟨r_6, x_7, qr_6, hf⟩ := bd_out hf
  replace hj : x_7 j = x0 j := (frX8_in  qr_6).trans hj
  rcases if_out hf with ⟨c_8, hf⟩ | ⟨c_8, hf⟩
  · skip
    rw [so_out hf]
    exact hj
  · skip
    obtain ⟨r_9, x_10, qr_9, hf⟩ := bd_out hf
    replace hj : x_10 j = x0 j := (frX8_becomes (by omega) qr_9).trans hj
    rw [so_out hf]
    exact hj
theorem frX8_rule {v1 : Int32} {v2 : Int32} {j : Nat} (j0 : j ≠ 100) {x z : XS} {r : Int32} (hf : fX8_rule v1 v2 x = some (r, z)) : z j = x j := by
  obtain ⟨x0, hx0⟩ : ∃ y, y = x := ⟨_, rfl⟩
  have hj : x j = x0 j := by rw [hx0]
  rw [← hx0]
  unfold fX8_rule at hf
  obtain ⟨r_1, x_2, qr_1, hf⟩ := bd_out hf
  replace hj : x_2 j = x0 j := (frX8_in  qr_1).trans hj
  rcases if_out hf with ⟨c_3, hf⟩ | ⟨c_3, hf⟩
  · skip
    rw [so_out hf]
    exact hj
  · skip
    rcases if_outN hf with ⟨c_4, hf⟩ | ⟨c_4, hf⟩
    · skip
      rcases if_outN hf with ⟨c_5, hf⟩ | ⟨c_5, hf⟩
      · skip
        exact (frX8_rule_h31 j0 v1 v2 v2 0 1 x_2 hf).trans hj
      · skip
        exact (frX8_rule_h31 j0 v1 v2 v2 0 100 x_2 hf).trans hj
    · skip
      exact (frX8_rule_h31 j0 v1 v2 v2 0 99 x_2 hf).trans hj
theorem frX8_apart {v0 : Int32} {v1 : Int32} {j : Nat}  {x z : XS} {r : Int32} (hf : fX8_apart v0 v1 x = some (r, z)) : z j = x j := by
  obtain ⟨x0, hx0⟩ : ∃ y, y = x := ⟨_, rfl⟩
  have hj : x j = x0 j := by rw [hx0]
  rw [← hx0]
  unfold fX8_apart at hf
  rcases if_out hf with ⟨c_1, hf⟩ | ⟨c_1, hf⟩
  · skip
    rw [so_out hf]
    exact hj
  · skip
    rw [so_out hf]
    exact hj
theorem roX8_apart {v0 : Int32} {v1 : Int32} {x z : XS} {r : Int32} (hf : fX8_apart v0 v1 x = some (r, z)) : z = x := funext fun j => frX8_apart (j := j) hf
theorem frX8_boyFor_h89 {r : Int32} {z : XS} {j : Nat}  {k8 : Int32 → Int32 → Int32 → Int32 → Int32 → XS → Option (Int32 × XS)} (hk8 : ∀ (u1 : Int32) (u2 : Int32) (u3 : Int32) (u4 : Int32) (u5 : Int32) (x : XS), k8 u1 u2 u3 u4 u5 x = some (r, z) → z j = x j) : ∀ (u1 : Int32) (u2 : Int32) (u3 : Int32) (u4 : Int32) (u5 : Int32) (x : XS), fX8_boyFor_h89 k8 u1 u2 u3 u4 u5 x = some (r, z) → z j = x j := by
  intro u1 u2 u3 u4 u5 x hf
  obtain ⟨x0, hx0⟩ : ∃ y, y = x := ⟨_, rfl⟩
  have hj : x j = x0 j := by rw [hx0]
  rw [← hx0]
  unfold fX8_boyFor_h89 at hf
  obtain ⟨v_19, ev_19, hf⟩ := st_out hf
  exact (hk8 u1 u2 u3 u4 v_19 x hf).trans hj
theorem frbX8_boyFor_h8 {r : Int32} {z : XS} {j : Nat}  {k8 : Int32 → Int32 → Int32 → Int32 → Int32 → XS → Option (Int32 × XS)} (hk8 : ∀ (u1 : Int32) (u2 : Int32) (u3 : Int32) (u4 : Int32) (u5 : Int32) (x : XS), k8 u1 u2 u3 u4 u5 x = some (r, z) → z j = x j) : ∀ (u1 : Int32) (u2 : Int32) (u3 : Int32) (u4 : Int32) (u5 : Int32) (x : XS), bX8_boyFor_h8 k8 u1 u2 u3 u4 u5 x = some (r, z) → z j = x j := by
  intro u1 u2 u3 u4 u5 x hf
  obtain ⟨x0, hx0⟩ : ∃ y, y = x := ⟨_, rfl⟩
  have hj : x j = x0 j := by rw [hx0]
  rw [← hx0]
  unfold bX8_boyFor_h8 at hf
  obtain ⟨gg_1, hf⟩ := gd_out hf
  have ngg_1 := inb_lt gg_1
  rcases if_out hf with ⟨c_2, hf⟩ | ⟨c_2, hf⟩
  · skip
    rw [so_out hf]
    exact hj
  · skip
    rcases if_out hf with ⟨c_3, hf⟩ | ⟨c_3, hf⟩
    · skip
      exact (frX8_boyFor_h89 hk8 u1 u2 u3 u4 u5 x hf).trans hj
    · skip
      obtain ⟨r_4, x_5, qr_4, hf⟩ := bd_out hf
      replace hj : x_5 j = x0 j := (frX8_of  qr_4).trans hj
      rcases if_out hf with ⟨c_6, hf⟩ | ⟨c_6, hf⟩
      · skip
        exact (frX8_boyFor_h89 hk8 u1 u2 u3 u4 u5 x_5 hf).trans hj
      · skip
        obtain ⟨r_7, x_8, qr_7, hf⟩ := bd_out hf
        replace hj : x_8 j = x0 j := (frX8_takesOf  qr_7).trans hj
        rcases if_out hf with ⟨c_9, hf⟩ | ⟨c_9, hf⟩
        · skip
          obtain ⟨r_10, x_11, qr_10, hf⟩ := bd_out hf
          replace hj : x_11 j = x0 j := (frX8_asksOf  qr_10).trans hj
          obtain ⟨r_12, x_13, qr_12, hf⟩ := bd_out hf
          replace hj : x_13 j = x0 j := (frX8_of  qr_12).trans hj
          obtain ⟨r_14, x_15, qr_14, hf⟩ := bd_out hf
          replace hj : x_15 j = x0 j := (frX8_apart  qr_14).trans hj
          obtain ⟨v_16, ev_16, hf⟩ := st_out hf
          rcases if_out hf with ⟨c_17, hf⟩ | ⟨c_17, hf⟩
          · skip
            exact (frX8_boyFor_h89 hk8 u1 u2 u5 v_16 u5 x_15 hf).trans hj
          · skip
            rcases if_out hf with ⟨c_18, hf⟩ | ⟨c_18, hf⟩
            · skip
              exact (frX8_boyFor_h89 hk8 u1 u2 u3 u4 u5 x_15 hf).trans hj
            · skip
              exact (frX8_boyFor_h89 hk8 u1 u2 u5 v_16 u5 x_15 hf).trans hj
        · skip
          exact (frX8_boyFor_h89 hk8 u1 u2 u3 u4 u5 x_8 hf).trans hj
theorem frlX8_boyFor_h8 {r : Int32} {z : XS} {j : Nat}  (n : Nat) : ∀ (u1 : Int32) (u2 : Int32) (u3 : Int32) (u4 : Int32) (u5 : Int32) (x : XS), lX8_boyFor_h8 n u1 u2 u3 u4 u5 x = some (r, z) → z j = x j := by
  induction n with
  | zero => intro u1 u2 u3 u4 u5 x hf; exact absurd hf (by intro q; cases q)
  | succ n ih => exact frbX8_boyFor_h8  ih
theorem frX8_boyFor_h8 {r : Int32} {z : XS} {j : Nat}  : ∀ (u1 : Int32) (u2 : Int32) (u3 : Int32) (u4 : Int32) (u5 : Int32) (x : XS), fX8_boyFor_h8 u1 u2 u3 u4 u5 x = some (r, z) → z j = x j := frlX8_boyFor_h8  FU
theorem frX8_boyFor {v1 : Int32} {v2 : Int32} {j : Nat}  {x z : XS} {r : Int32} (hf : fX8_boyFor v1 v2 x = some (r, z)) : z j = x j := by
  obtain ⟨x0, hx0⟩ : ∃ y, y = x := ⟨_, rfl⟩
  have hj : x j = x0 j := by rw [hx0]
  rw [← hx0]
  unfold fX8_boyFor at hf
  exact (frX8_boyFor_h8 v1 v2 (-1) 0 0 x hf).trans hj
theorem roX8_boyFor {v1 : Int32} {v2 : Int32} {x z : XS} {r : Int32} (hf : fX8_boyFor v1 v2 x = some (r, z)) : z = x := funext fun j => frX8_boyFor (j := j) hf
theorem frX8_serves_h40 {r : Unit} {z : XS} {j : Nat} (j0 : j ≠ 100) (j1 : j ≠ 111) (j2 : j ≠ 110) : ∀ (u1 : Int32) (s0 : Int32) (x : XS), fX8_serves_h40 u1 s0 x = some (r, z) → z j = x j := by
  intro u1 s0 x hf
  obtain ⟨x0, hx0⟩ : ∃ y, y = x := ⟨_, rfl⟩
  have hj : x j = x0 j := by rw [hx0]
  rw [← hx0]
  unfold fX8_serves_h40 at hf
  obtain ⟨gg_9, hf⟩ := gd_out hf
  have ngg_9 := inb_lt gg_9
  obtain ⟨v_10, ev_10, hf⟩ := st_out hf
  obtain ⟨r_11, x_12, qr_11, hf⟩ := bd_out hf
  replace hj : x_12 j = x0 j := (frX8_takesOf  qr_11).trans hj
  obtain ⟨r_13, x_14, qr_13, hf⟩ := bd_out hf
  replace hj : x_14 j = x0 j := (frX8_put (by omega) qr_13).trans hj
  obtain ⟨r_15, x_16, qr_15, hf⟩ := bd_out hf
  replace hj : x_16 j = x0 j := (frX8_of  qr_15).trans hj
  obtain ⟨r_17, x_18, qr_17, hf⟩ := bd_out hf
  replace hj : x_18 j = x0 j := (frX8_put (by omega) qr_17).trans hj
  obtain ⟨r_19, x_20, qr_19, hf⟩ := bd_out hf
  replace hj : x_20 j = x0 j := (frX8_of  qr_19).trans hj
  obtain ⟨r_21, x_22, qr_21, hf⟩ := bd_out hf
  replace hj : x_22 j = x0 j := (frX8_put (by omega) qr_21).trans hj
  obtain ⟨gg_23, hf⟩ := gd_out hf
  have ngg_23 := inb_lt gg_23
  obtain ⟨gg_24, hf⟩ := gd_out hf
  have ngg_24 := inb_lt gg_24
  obtain ⟨x_25, ex_25, hf⟩ := st_out hf
  replace hj : x_25 j = x0 j := (show x_25 j = x_22 j by rw [ex_25]; exact wr_ne (by omega)).trans hj
  rw [so_out hf]
  exact hj
theorem frX8_serves {v1 : Int32} {v2 : Int32} {j : Nat} (j0 : j ≠ 100) (j1 : j ≠ 111) (j2 : j ≠ 110) {x z : XS} {r : Unit} (hf : fX8_serves v1 v2 x = some (r, z)) : z j = x j := by
  obtain ⟨x0, hx0⟩ : ∃ y, y = x := ⟨_, rfl⟩
  have hj : x j = x0 j := by rw [hx0]
  rw [← hx0]
  unfold fX8_serves at hf
  obtain ⟨r_1, x_2, qr_1, hf⟩ := bd_out hf
  replace hj : x_2 j = x0 j := (frX8_of  qr_1).trans hj
  obtain ⟨r_3, x_4, qr_3, hf⟩ := bd_out hf
  replace hj : x_4 j = x0 j := (frX8_shineOf (by omega) (by omega) qr_3).trans hj
  rcases if_out hf with ⟨c_5, hf⟩ | ⟨c_5, hf⟩
  · skip
    obtain ⟨r_6, x_7, qr_6, hf⟩ := bd_out hf
    replace hj : x_7 j = x0 j := (frX8_asksOf  qr_6).trans hj
    rcases if_out hf with ⟨c_8, hf⟩ | ⟨c_8, hf⟩
    · skip
      exact (frX8_serves_h40 j0 j1 j2 v1 (r_6 + 1) x_7 hf).trans hj
    · skip
      exact (frX8_serves_h40 j0 j1 j2 v1 (r_6 + 0) x_7 hf).trans hj
  · skip
    exact (frX8_serves_h40 j0 j1 j2 v1 0 x_4 hf).trans hj
theorem frX8_man {j : Nat} (j0 : j ≠ 100) (j1 : j ≠ 111) (j2 : j ≠ 110) {x z : XS} {r : Unit} (hf : fX8_man x = some (r, z)) : z j = x j := by
  obtain ⟨x0, hx0⟩ : ∃ y, y = x := ⟨_, rfl⟩
  have hj : x j = x0 j := by rw [hx0]
  rw [← hx0]
  unfold fX8_man at hf
  obtain ⟨r_1, x_2, qr_1, hf⟩ := bd_out hf
  replace hj : x_2 j = x0 j := (frX8_draw (by omega) qr_1).trans hj
  obtain ⟨v_3, ev_3, hf⟩ := st_out hf
  obtain ⟨r_4, x_5, qr_4, hf⟩ := bd_out hf
  replace hj : x_5 j = x0 j := (frX8_draw (by omega) qr_4).trans hj
  obtain ⟨v_6, ev_6, hf⟩ := st_out hf
  obtain ⟨r_7, x_8, qr_7, hf⟩ := bd_out hf
  replace hj : x_8 j = x0 j := (frX8_draw (by omega) qr_7).trans hj
  obtain ⟨v_9, ev_9, hf⟩ := st_out hf
  obtain ⟨v_10, ev_10, hf⟩ := st_out hf
  obtain ⟨r_11, x_12, qr_11, hf⟩ := bd_out hf
  replace hj : x_12 j = x0 j := (frX8_boyFor  qr_11).trans hj
  rcases if_out hf with ⟨c_13, hf⟩ | ⟨c_13, hf⟩
  · skip
    obtain ⟨r_14, x_15, qr_14, hf⟩ := bd_out hf
    replace hj : x_15 j = x0 j := (frX8_serves (by omega) (by omega) (by omega) qr_14).trans hj
    rw [so_out hf]
    exact hj
  · skip
    obtain ⟨gg_16, hf⟩ := gd_out hf
    have ngg_16 := inb_lt gg_16
    obtain ⟨gg_17, hf⟩ := gd_out hf
    have ngg_17 := inb_lt gg_17
    obtain ⟨x_18, ex_18, hf⟩ := st_out hf
    replace hj : x_18 j = x0 j := (show x_18 j = x_12 j by rw [ex_18]; exact wr_ne (by omega)).trans hj
    rw [so_out hf]
    exact hj
theorem frbX8_minute_h90 {r : Unit} {z : XS} {j : Nat} (j0 : j ≠ 100) (j1 : j ≠ 111) (j2 : j ≠ 110) {k90 : Int32 → Int32 → XS → Option (Unit × XS)} (hk90 : ∀ (u2 : Int32) (u3 : Int32) (x : XS), k90 u2 u3 x = some (r, z) → z j = x j) : ∀ (u2 : Int32) (u3 : Int32) (x : XS), bX8_minute_h90 k90 u2 u3 x = some (r, z) → z j = x j := by
  intro u2 u3 x hf
  obtain ⟨x0, hx0⟩ : ∃ y, y = x := ⟨_, rfl⟩
  have hj : x j = x0 j := by rw [hx0]
  rw [← hx0]
  unfold bX8_minute_h90 at hf
  rcases if_out hf with ⟨c_25, hf⟩ | ⟨c_25, hf⟩
  · skip
    obtain ⟨gg_26, hf⟩ := gd_out hf
    have ngg_26 := inb_lt gg_26
    obtain ⟨gg_27, hf⟩ := gd_out hf
    have ngg_27 := inb_lt gg_27
    obtain ⟨x_28, ex_28, hf⟩ := st_out hf
    replace hj : x_28 j = x0 j := (show x_28 j = x j by rw [ex_28]; exact wr_ne (by omega)).trans hj
    rw [so_out hf]
    exact hj
  · skip
    obtain ⟨gg_29, hf⟩ := gd_out hf
    have ngg_29 := inb_lt gg_29
    rcases if_outN hf with ⟨c_30, hf⟩ | ⟨c_30, hf⟩
    · skip
      obtain ⟨gg_31, hf⟩ := gd_out hf
      have ngg_31 := inb_lt gg_31
      obtain ⟨gg_32, hf⟩ := gd_out hf
      have ngg_32 := inb_lt gg_32
      obtain ⟨x_33, ex_33, hf⟩ := st_out hf
      replace hj : x_33 j = x0 j := (show x_33 j = x j by rw [ex_33]; exact wr_ne (by omega)).trans hj
      rw [so_out hf]
      exact hj
    · skip
      obtain ⟨r_34, x_35, qr_34, hf⟩ := bd_out hf
      replace hj : x_35 j = x0 j := (frX8_man (by omega) (by omega) (by omega) qr_34).trans hj
      obtain ⟨v_36, ev_36, hf⟩ := st_out hf
      exact (hk90 u2 v_36 x_35 hf).trans hj
theorem frlX8_minute_h90 {r : Unit} {z : XS} {j : Nat} (j0 : j ≠ 100) (j1 : j ≠ 111) (j2 : j ≠ 110) (n : Nat) : ∀ (u2 : Int32) (u3 : Int32) (x : XS), lX8_minute_h90 n u2 u3 x = some (r, z) → z j = x j := by
  induction n with
  | zero => intro u2 u3 x hf; exact absurd hf (by intro q; cases q)
  | succ n ih => exact frbX8_minute_h90 j0 j1 j2 ih
theorem frX8_minute_h90 {r : Unit} {z : XS} {j : Nat} (j0 : j ≠ 100) (j1 : j ≠ 111) (j2 : j ≠ 110) : ∀ (u2 : Int32) (u3 : Int32) (x : XS), fX8_minute_h90 u2 u3 x = some (r, z) → z j = x j := frlX8_minute_h90 j0 j1 j2 FU
theorem frX8_minute_h70 {r : Unit} {z : XS} {j : Nat} (j0 : j ≠ 100) (j1 : j ≠ 111) (j2 : j ≠ 110) : ∀ (u1 : Int32) (x : XS), fX8_minute_h70 u1 x = some (r, z) → z j = x j := by
  intro u1 x hf
  obtain ⟨x0, hx0⟩ : ∃ y, y = x := ⟨_, rfl⟩
  have hj : x j = x0 j := by rw [hx0]
  rw [← hx0]
  unfold fX8_minute_h70 at hf
  obtain ⟨r_19, x_20, qr_19, hf⟩ := bd_out hf
  replace hj : x_20 j = x0 j := (frX8_draw (by omega) qr_19).trans hj
  obtain ⟨v_21, ev_21, hf⟩ := st_out hf
  rcases if_outN hf with ⟨c_22, hf⟩ | ⟨c_22, hf⟩
  · skip
    obtain ⟨v_23, ev_23, hf⟩ := st_out hf
    exact (frX8_minute_h90 j0 j1 j2 v_23 0 x_20 hf).trans hj
  · skip
    obtain ⟨v_24, ev_24, hf⟩ := st_out hf
    exact (frX8_minute_h90 j0 j1 j2 v_24 0 x_20 hf).trans hj
theorem frbX8_minute_h2 {r : Unit} {z : XS} {j : Nat} (j0 : j ≠ 100) (j1 : j ≠ 111) (j2 : j ≠ 110) {k2 : Int32 → XS → Option (Unit × XS)} (hk2 : ∀ (u1 : Int32) (x : XS), k2 u1 x = some (r, z) → z j = x j) : ∀ (u1 : Int32) (x : XS), bX8_minute_h2 k2 u1 x = some (r, z) → z j = x j := by
  intro u1 x hf
  obtain ⟨x0, hx0⟩ : ∃ y, y = x := ⟨_, rfl⟩
  have hj : x j = x0 j := by rw [hx0]
  rw [← hx0]
  unfold bX8_minute_h2 at hf
  obtain ⟨gg_1, hf⟩ := gd_out hf
  have ngg_1 := inb_lt gg_1
  rcases if_out hf with ⟨c_2, hf⟩ | ⟨c_2, hf⟩
  · skip
    obtain ⟨gg_3, hf⟩ := gd_out hf
    have ngg_3 := inb_lt gg_3
    obtain ⟨v_4, ev_4, hf⟩ := st_out hf
    obtain ⟨r_5, x_6, qr_5, hf⟩ := bd_out hf
    replace hj : x_6 j = x0 j := (frX8_draw (by omega) qr_5).trans hj
    obtain ⟨v_7, ev_7, hf⟩ := st_out hf
    obtain ⟨gg_8, hf⟩ := gd_out hf
    have ngg_8 := inb_lt gg_8
    rcases if_out hf with ⟨c_9, hf⟩ | ⟨c_9, hf⟩
    · skip
      exact (frX8_minute_h70 j0 j1 j2 v_4 x_6 hf).trans hj
    · skip
      obtain ⟨gg_10, hf⟩ := gd_out hf
      have ngg_10 := inb_lt gg_10
      obtain ⟨x_11, ex_11, hf⟩ := st_out hf
      replace hj : x_11 j = x0 j := (show x_11 j = x_6 j by rw [ex_11]; exact wr_ne (by omega)).trans hj
      exact (frX8_minute_h70 j0 j1 j2 v_4 x_11 hf).trans hj
  · skip
    obtain ⟨r_12, x_13, qr_12, hf⟩ := bd_out hf
    replace hj : x_13 j = x0 j := (frX8_of  qr_12).trans hj
    obtain ⟨r_14, x_15, qr_14, hf⟩ := bd_out hf
    replace hj : x_15 j = x0 j := (frX8_within  qr_14).trans hj
    obtain ⟨r_16, x_17, qr_16, hf⟩ := bd_out hf
    replace hj : x_17 j = x0 j := (frX8_put (by omega) qr_16).trans hj
    obtain ⟨v_18, ev_18, hf⟩ := st_out hf
    exact (hk2 v_18 x_17 hf).trans hj
theorem frlX8_minute_h2 {r : Unit} {z : XS} {j : Nat} (j0 : j ≠ 100) (j1 : j ≠ 111) (j2 : j ≠ 110) (n : Nat) : ∀ (u1 : Int32) (x : XS), lX8_minute_h2 n u1 x = some (r, z) → z j = x j := by
  induction n with
  | zero => intro u1 x hf; exact absurd hf (by intro q; cases q)
  | succ n ih => exact frbX8_minute_h2 j0 j1 j2 ih
theorem frX8_minute_h2 {r : Unit} {z : XS} {j : Nat} (j0 : j ≠ 100) (j1 : j ≠ 111) (j2 : j ≠ 110) : ∀ (u1 : Int32) (x : XS), fX8_minute_h2 u1 x = some (r, z) → z j = x j := frlX8_minute_h2 j0 j1 j2 FU
theorem frX8_minute {j : Nat} (j0 : j ≠ 100) (j1 : j ≠ 111) (j2 : j ≠ 110) {x z : XS} {r : Unit} (hf : fX8_minute x = some (r, z)) : z j = x j := by
  obtain ⟨x0, hx0⟩ : ∃ y, y = x := ⟨_, rfl⟩
  have hj : x j = x0 j := by rw [hx0]
  rw [← hx0]
  unfold fX8_minute at hf
  exact (frX8_minute_h2 j0 j1 j2 0 x hf).trans hj
theorem frbX8_goesOn_h2 {r : Unit} {z : XS} {j : Nat} (j0 : j ≠ 100) (j1 : j ≠ 111) (j2 : j ≠ 110) {k2 : Int32 → Int32 → XS → Option (Unit × XS)} (hk2 : ∀ (u1 : Int32) (u2 : Int32) (x : XS), k2 u1 u2 x = some (r, z) → z j = x j) : ∀ (u1 : Int32) (u2 : Int32) (x : XS), bX8_goesOn_h2 k2 u1 u2 x = some (r, z) → z j = x j := by
  intro u1 u2 x hf
  obtain ⟨x0, hx0⟩ : ∃ y, y = x := ⟨_, rfl⟩
  have hj : x j = x0 j := by rw [hx0]
  rw [← hx0]
  unfold bX8_goesOn_h2 at hf
  rcases if_out hf with ⟨c_1, hf⟩ | ⟨c_1, hf⟩
  · skip
    rw [so_out hf]
    exact hj
  · skip
    obtain ⟨r_2, x_3, qr_2, hf⟩ := bd_out hf
    replace hj : x_3 j = x0 j := (frX8_minute (by omega) (by omega) (by omega) qr_2).trans hj
    obtain ⟨v_4, ev_4, hf⟩ := st_out hf
    exact (hk2 u1 v_4 x_3 hf).trans hj
theorem frlX8_goesOn_h2 {r : Unit} {z : XS} {j : Nat} (j0 : j ≠ 100) (j1 : j ≠ 111) (j2 : j ≠ 110) (n : Nat) : ∀ (u1 : Int32) (u2 : Int32) (x : XS), lX8_goesOn_h2 n u1 u2 x = some (r, z) → z j = x j := by
  induction n with
  | zero => intro u1 u2 x hf; exact absurd hf (by intro q; cases q)
  | succ n ih => exact frbX8_goesOn_h2 j0 j1 j2 ih
theorem frX8_goesOn_h2 {r : Unit} {z : XS} {j : Nat} (j0 : j ≠ 100) (j1 : j ≠ 111) (j2 : j ≠ 110) : ∀ (u1 : Int32) (u2 : Int32) (x : XS), fX8_goesOn_h2 u1 u2 x = some (r, z) → z j = x j := frlX8_goesOn_h2 j0 j1 j2 FU
theorem frX8_goesOn {v1 : Int32} {j : Nat} (j0 : j ≠ 100) (j1 : j ≠ 111) (j2 : j ≠ 110) {x z : XS} {r : Unit} (hf : fX8_goesOn v1 x = some (r, z)) : z j = x j := by
  obtain ⟨x0, hx0⟩ : ∃ y, y = x := ⟨_, rfl⟩
  have hj : x j = x0 j := by rw [hx0]
  rw [← hx0]
  unfold fX8_goesOn at hf
  exact (frX8_goesOn_h2 j0 j1 j2 v1 0 x hf).trans hj
theorem frbX8_sumOf_h4 {r : Int32} {z : XS} {j : Nat}  {k4 : Int32 → Int32 → Int32 → XS → Option (Int32 × XS)} (hk4 : ∀ (u1 : Int32) (u2 : Int32) (u3 : Int32) (x : XS), k4 u1 u2 u3 x = some (r, z) → z j = x j) : ∀ (u1 : Int32) (u2 : Int32) (u3 : Int32) (x : XS), bX8_sumOf_h4 k4 u1 u2 u3 x = some (r, z) → z j = x j := by
  intro u1 u2 u3 x hf
  obtain ⟨x0, hx0⟩ : ∃ y, y = x := ⟨_, rfl⟩
  have hj : x j = x0 j := by rw [hx0]
  rw [← hx0]
  unfold bX8_sumOf_h4 at hf
  obtain ⟨gg_1, hf⟩ := gd_out hf
  have ngg_1 := inb_lt gg_1
  rcases if_out hf with ⟨c_2, hf⟩ | ⟨c_2, hf⟩
  · skip
    rw [so_out hf]
    exact hj
  · skip
    obtain ⟨r_3, x_4, qr_3, hf⟩ := bd_out hf
    replace hj : x_4 j = x0 j := (frX8_of  qr_3).trans hj
    obtain ⟨v_5, ev_5, hf⟩ := st_out hf
    obtain ⟨v_6, ev_6, hf⟩ := st_out hf
    exact (hk4 u1 v_5 v_6 x_4 hf).trans hj
theorem frlX8_sumOf_h4 {r : Int32} {z : XS} {j : Nat}  (n : Nat) : ∀ (u1 : Int32) (u2 : Int32) (u3 : Int32) (x : XS), lX8_sumOf_h4 n u1 u2 u3 x = some (r, z) → z j = x j := by
  induction n with
  | zero => intro u1 u2 u3 x hf; exact absurd hf (by intro q; cases q)
  | succ n ih => exact frbX8_sumOf_h4  ih
theorem frX8_sumOf_h4 {r : Int32} {z : XS} {j : Nat}  : ∀ (u1 : Int32) (u2 : Int32) (u3 : Int32) (x : XS), fX8_sumOf_h4 u1 u2 u3 x = some (r, z) → z j = x j := frlX8_sumOf_h4  FU
theorem frX8_sumOf {v1 : Int32} {j : Nat}  {x z : XS} {r : Int32} (hf : fX8_sumOf v1 x = some (r, z)) : z j = x j := by
  obtain ⟨x0, hx0⟩ : ∃ y, y = x := ⟨_, rfl⟩
  have hj : x j = x0 j := by rw [hx0]
  rw [← hx0]
  unfold fX8_sumOf at hf
  exact (frX8_sumOf_h4 v1 0 0 x hf).trans hj
theorem roX8_sumOf {v1 : Int32} {x z : XS} {r : Int32} (hf : fX8_sumOf v1 x = some (r, z)) : z = x := funext fun j => frX8_sumOf (j := j) hf
theorem frX8_minutes {v1 : Int32} {j : Nat} (j0 : j ≠ 100) (j1 : j ≠ 111) (j2 : j ≠ 110) {x z : XS} {r : Int32} (hf : fX8_minutes v1 x = some (r, z)) : z j = x j := by
  obtain ⟨x0, hx0⟩ : ∃ y, y = x := ⟨_, rfl⟩
  have hj : x j = x0 j := by rw [hx0]
  rw [← hx0]
  unfold fX8_minutes at hf
  obtain ⟨r_1, x_2, qr_1, hf⟩ := bd_out hf
  replace hj : x_2 j = x0 j := (frX8_in  qr_1).trans hj
  rcases if_outN hf with ⟨c_3, hf⟩ | ⟨c_3, hf⟩
  · skip
    obtain ⟨r_4, x_5, qr_4, hf⟩ := bd_out hf
    replace hj : x_5 j = x0 j := (frX8_sumOf  qr_4).trans hj
    obtain ⟨gg_6, hf⟩ := gd_out hf
    have ngg_6 := inb_lt gg_6
    obtain ⟨r_7, x_8, qr_7, hf⟩ := bd_out hf
    replace hj : x_8 j = x0 j := (frX8_within  qr_7).trans hj
    obtain ⟨r_9, x_10, qr_9, hf⟩ := bd_out hf
    replace hj : x_10 j = x0 j := (frX8_goesOn (by omega) (by omega) (by omega) qr_9).trans hj
    obtain ⟨r_11, x_12, qr_11, hf⟩ := bd_out hf
    replace hj : x_12 j = x0 j := (frX8_sumOf  qr_11).trans hj
    rw [so_out hf]
    exact hj
  · skip
    rw [so_out hf]
    exact hj
theorem frbX8_busy_h4 {r : Int32} {z : XS} {j : Nat}  {k4 : Int32 → Int32 → XS → Option (Int32 × XS)} (hk4 : ∀ (u1 : Int32) (u2 : Int32) (x : XS), k4 u1 u2 x = some (r, z) → z j = x j) : ∀ (u1 : Int32) (u2 : Int32) (x : XS), bX8_busy_h4 k4 u1 u2 x = some (r, z) → z j = x j := by
  intro u1 u2 x hf
  obtain ⟨x0, hx0⟩ : ∃ y, y = x := ⟨_, rfl⟩
  have hj : x j = x0 j := by rw [hx0]
  rw [← hx0]
  unfold bX8_busy_h4 at hf
  obtain ⟨gg_1, hf⟩ := gd_out hf
  have ngg_1 := inb_lt gg_1
  rcases if_out hf with ⟨c_2, hf⟩ | ⟨c_2, hf⟩
  · skip
    rw [so_out hf]
    exact hj
  · skip
    obtain ⟨r_3, x_4, qr_3, hf⟩ := bd_out hf
    replace hj : x_4 j = x0 j := (frX8_of  qr_3).trans hj
    rcases if_out hf with ⟨c_5, hf⟩ | ⟨c_5, hf⟩
    · skip
      obtain ⟨v_6, ev_6, hf⟩ := st_out hf
      obtain ⟨v_7, ev_7, hf⟩ := st_out hf
      exact (hk4 v_6 v_7 x_4 hf).trans hj
    · skip
      obtain ⟨v_8, ev_8, hf⟩ := st_out hf
      obtain ⟨v_9, ev_9, hf⟩ := st_out hf
      obtain ⟨v_10, ev_10, hf⟩ := st_out hf
      exact (hk4 v_9 v_10 x_4 hf).trans hj
theorem frlX8_busy_h4 {r : Int32} {z : XS} {j : Nat}  (n : Nat) : ∀ (u1 : Int32) (u2 : Int32) (x : XS), lX8_busy_h4 n u1 u2 x = some (r, z) → z j = x j := by
  induction n with
  | zero => intro u1 u2 x hf; exact absurd hf (by intro q; cases q)
  | succ n ih => exact frbX8_busy_h4  ih
theorem frX8_busy_h4 {r : Int32} {z : XS} {j : Nat}  : ∀ (u1 : Int32) (u2 : Int32) (x : XS), fX8_busy_h4 u1 u2 x = some (r, z) → z j = x j := frlX8_busy_h4  FU
theorem frX8_busy {j : Nat}  {x z : XS} {r : Int32} (hf : fX8_busy x = some (r, z)) : z j = x j := by
  obtain ⟨x0, hx0⟩ : ∃ y, y = x := ⟨_, rfl⟩
  have hj : x j = x0 j := by rw [hx0]
  rw [← hx0]
  unfold fX8_busy at hf
  exact (frX8_busy_h4 0 0 x hf).trans hj
theorem roX8_busy {x z : XS} {r : Int32} (hf : fX8_busy x = some (r, z)) : z = x := funext fun j => frX8_busy (j := j) hf
theorem frX8_street {v1 : Int32} {j : Nat}  {x z : XS} {r : Int32} (hf : fX8_street v1 x = some (r, z)) : z j = x j := by
  obtain ⟨x0, hx0⟩ : ∃ y, y = x := ⟨_, rfl⟩
  have hj : x j = x0 j := by rw [hx0]
  rw [← hx0]
  unfold fX8_street at hf
  by_cases c_1 : v1 = 0
  · replace hf := if_p c_1 hf
    obtain ⟨r_2, x_3, qr_2, hf⟩ := bd_out hf
    replace hj : x_3 j = x0 j := (frX8_sumOf  qr_2).trans hj
    rw [so_out hf]
    exact hj
  · replace hf := if_n c_1 hf
    by_cases c_4 : v1 = 1
    · replace hf := if_p c_4 hf
      obtain ⟨gg_5, hf⟩ := gd_out hf
      have ngg_5 := inb_lt gg_5
      rw [so_out hf]
      exact hj
    · replace hf := if_n c_4 hf
      by_cases c_6 : v1 = 2
      · replace hf := if_p c_6 hf
        obtain ⟨gg_7, hf⟩ := gd_out hf
        have ngg_7 := inb_lt gg_7
        rw [so_out hf]
        exact hj
      · replace hf := if_n c_6 hf
        by_cases c_8 : v1 = 3
        · replace hf := if_p c_8 hf
          obtain ⟨r_9, x_10, qr_9, hf⟩ := bd_out hf
          replace hj : x_10 j = x0 j := (frX8_sumOf  qr_9).trans hj
          rw [so_out hf]
          exact hj
        · replace hf := if_n c_8 hf
          by_cases c_11 : v1 = 4
          · replace hf := if_p c_11 hf
            obtain ⟨r_12, x_13, qr_12, hf⟩ := bd_out hf
            replace hj : x_13 j = x0 j := (frX8_busy  qr_12).trans hj
            rw [so_out hf]
            exact hj
          · replace hf := if_n c_11 hf
            rw [so_out hf]
            exact hj
theorem roX8_street {v1 : Int32} {x z : XS} {r : Int32} (hf : fX8_street v1 x = some (r, z)) : z = x := funext fun j => frX8_street (j := j) hf
theorem frX8_goesTo {v1 : Int32} {v2 : Int32} {j : Nat}  {x z : XS} {r : Int32} (hf : fX8_goesTo v1 v2 x = some (r, z)) : z j = x j := by
  obtain ⟨x0, hx0⟩ : ∃ y, y = x := ⟨_, rfl⟩
  have hj : x j = x0 j := by rw [hx0]
  rw [← hx0]
  unfold fX8_goesTo at hf
  obtain ⟨r_1, x_2, qr_1, hf⟩ := bd_out hf
  replace hj : x_2 j = x0 j := (frX8_in  qr_1).trans hj
  rcases if_out hf with ⟨c_3, hf⟩ | ⟨c_3, hf⟩
  · skip
    rw [so_out hf]
    exact hj
  · skip
    obtain ⟨r_4, x_5, qr_4, hf⟩ := bd_out hf
    replace hj : x_5 j = x0 j := (frX8_in  qr_4).trans hj
    rcases if_out hf with ⟨c_6, hf⟩ | ⟨c_6, hf⟩
    · skip
      rw [so_out hf]
      exact hj
    · skip
      obtain ⟨r_7, x_8, qr_7, hf⟩ := bd_out hf
      replace hj : x_8 j = x0 j := (frX8_boyFor  qr_7).trans hj
      obtain ⟨r_9, x_10, qr_9, hf⟩ := bd_out hf
      replace hj : x_10 j = x0 j := (frX8_told0  qr_9).trans hj
      rw [so_out hf]
      exact hj
theorem roX8_goesTo {v1 : Int32} {v2 : Int32} {x z : XS} {r : Int32} (hf : fX8_goesTo v1 v2 x = some (r, z)) : z = x := funext fun j => frX8_goesTo (j := j) hf
theorem frbX8_thinks_h2 {r : Unit} {z : XS} {j : Nat} (j0 : j ≠ 103) {k2 : Int32 → XS → Option (Unit × XS)} (hk2 : ∀ (u1 : Int32) (x : XS), k2 u1 x = some (r, z) → z j = x j) : ∀ (u1 : Int32) (x : XS), bX8_thinks_h2 k2 u1 x = some (r, z) → z j = x j := by
  intro u1 x hf
  obtain ⟨x0, hx0⟩ : ∃ y, y = x := ⟨_, rfl⟩
  have hj : x j = x0 j := by rw [hx0]
  rw [← hx0]
  unfold bX8_thinks_h2 at hf
  rcases if_out hf with ⟨c_1, hf⟩ | ⟨c_1, hf⟩
  · skip
    rw [so_out hf]
    exact hj
  · skip
    obtain ⟨gg_2, hf⟩ := gd_out hf
    have ngg_2 := inb_lt gg_2
    obtain ⟨gg_3, hf⟩ := gd_out hf
    have ngg_3 := inb_lt gg_3
    obtain ⟨x_4, ex_4, hf⟩ := st_out hf
    replace hj : x_4 j = x0 j := (show x_4 j = x j by rw [ex_4]; exact wr_ne (by omega)).trans hj
    obtain ⟨v_5, ev_5, hf⟩ := st_out hf
    exact (hk2 v_5 x_4 hf).trans hj
theorem frlX8_thinks_h2 {r : Unit} {z : XS} {j : Nat} (j0 : j ≠ 103) (n : Nat) : ∀ (u1 : Int32) (x : XS), lX8_thinks_h2 n u1 x = some (r, z) → z j = x j := by
  induction n with
  | zero => intro u1 x hf; exact absurd hf (by intro q; cases q)
  | succ n ih => exact frbX8_thinks_h2 j0 ih
theorem frX8_thinks_h2 {r : Unit} {z : XS} {j : Nat} (j0 : j ≠ 103) : ∀ (u1 : Int32) (x : XS), fX8_thinks_h2 u1 x = some (r, z) → z j = x j := frlX8_thinks_h2 j0 FU
theorem frX8_thinks {j : Nat} (j0 : j ≠ 103) {x z : XS} {r : Unit} (hf : fX8_thinks x = some (r, z)) : z j = x j := by
  obtain ⟨x0, hx0⟩ : ∃ y, y = x := ⟨_, rfl⟩
  have hj : x j = x0 j := by rw [hx0]
  rw [← hx0]
  unfold fX8_thinks at hf
  exact (frX8_thinks_h2 j0 0 x hf).trans hj
theorem frbX8_putsBack_h2 {r : Unit} {z : XS} {j : Nat} (j0 : j ≠ 99) (j1 : j ≠ 100) {k2 : Int32 → XS → Option (Unit × XS)} (hk2 : ∀ (u1 : Int32) (x : XS), k2 u1 x = some (r, z) → z j = x j) : ∀ (u1 : Int32) (x : XS), bX8_putsBack_h2 k2 u1 x = some (r, z) → z j = x j := by
  intro u1 x hf
  obtain ⟨x0, hx0⟩ : ∃ y, y = x := ⟨_, rfl⟩
  have hj : x j = x0 j := by rw [hx0]
  rw [← hx0]
  unfold bX8_putsBack_h2 at hf
  rcases if_out hf with ⟨c_1, hf⟩ | ⟨c_1, hf⟩
  · skip
    obtain ⟨x_2, ex_2, hf⟩ := st_out hf
    replace hj : x_2 j = x0 j := (show x_2 j = x j by rw [ex_2]; exact wr_ne (by omega)).trans hj
    rw [so_out hf]
    exact hj
  · skip
    obtain ⟨gg_3, hf⟩ := gd_out hf
    have ngg_3 := inb_lt gg_3
    obtain ⟨gg_4, hf⟩ := gd_out hf
    have ngg_4 := inb_lt gg_4
    obtain ⟨x_5, ex_5, hf⟩ := st_out hf
    replace hj : x_5 j = x0 j := (show x_5 j = x j by rw [ex_5]; exact wr_ne (by omega)).trans hj
    obtain ⟨v_6, ev_6, hf⟩ := st_out hf
    exact (hk2 v_6 x_5 hf).trans hj
theorem frlX8_putsBack_h2 {r : Unit} {z : XS} {j : Nat} (j0 : j ≠ 99) (j1 : j ≠ 100) (n : Nat) : ∀ (u1 : Int32) (x : XS), lX8_putsBack_h2 n u1 x = some (r, z) → z j = x j := by
  induction n with
  | zero => intro u1 x hf; exact absurd hf (by intro q; cases q)
  | succ n ih => exact frbX8_putsBack_h2 j0 j1 ih
theorem frX8_putsBack_h2 {r : Unit} {z : XS} {j : Nat} (j0 : j ≠ 99) (j1 : j ≠ 100) : ∀ (u1 : Int32) (x : XS), fX8_putsBack_h2 u1 x = some (r, z) → z j = x j := frlX8_putsBack_h2 j0 j1 FU
theorem frX8_putsBack {j : Nat} (j0 : j ≠ 99) (j1 : j ≠ 100) {x z : XS} {r : Unit} (hf : fX8_putsBack x = some (r, z)) : z j = x j := by
  obtain ⟨x0, hx0⟩ : ∃ y, y = x := ⟨_, rfl⟩
  have hj : x j = x0 j := by rw [hx0]
  rw [← hx0]
  unfold fX8_putsBack at hf
  exact (frX8_putsBack_h2 j0 j1 0 x hf).trans hj
theorem frX8_behind_h33 {r : Int32} {z : XS} {j : Nat} (j0 : j ≠ 103) (j1 : j ≠ 100) (j2 : j ≠ 111) (j3 : j ≠ 110) (j4 : j ≠ 99) : ∀ (u1 : Int32) (u2 : Int32) (x : XS), fX8_behind_h33 u1 u2 x = some (r, z) → z j = x j := by
  intro u1 u2 x hf
  obtain ⟨x0, hx0⟩ : ∃ y, y = x := ⟨_, rfl⟩
  have hj : x j = x0 j := by rw [hx0]
  rw [← hx0]
  unfold fX8_behind_h33 at hf
  obtain ⟨r_9, x_10, qr_9, hf⟩ := bd_out hf
  replace hj : x_10 j = x0 j := (frX8_thinks (by omega) qr_9).trans hj
  obtain ⟨r_11, x_12, qr_11, hf⟩ := bd_out hf
  replace hj : x_12 j = x0 j := (frX8_goesOn (by omega) (by omega) (by omega) qr_11).trans hj
  rcases if_out hf with ⟨c_13, hf⟩ | ⟨c_13, hf⟩
  · skip
    obtain ⟨r_14, x_15, qr_14, hf⟩ := bd_out hf
    replace hj : x_15 j = x0 j := (frX8_street  qr_14).trans hj
    obtain ⟨r_16, x_17, qr_16, hf⟩ := bd_out hf
    replace hj : x_17 j = x0 j := (frX8_putsBack (by omega) (by omega) qr_16).trans hj
    rw [so_out hf]
    exact hj
  · skip
    obtain ⟨r_18, x_19, qr_18, hf⟩ := bd_out hf
    replace hj : x_19 j = x0 j := (frX8_of  qr_18).trans hj
    obtain ⟨r_20, x_21, qr_20, hf⟩ := bd_out hf
    replace hj : x_21 j = x0 j := (frX8_putsBack (by omega) (by omega) qr_20).trans hj
    rw [so_out hf]
    exact hj
theorem frX8_behind {v1 : Int32} {v2 : Int32} {j : Nat} (j0 : j ≠ 103) (j1 : j ≠ 100) (j2 : j ≠ 111) (j3 : j ≠ 110) (j4 : j ≠ 99) {x z : XS} {r : Int32} (hf : fX8_behind v1 v2 x = some (r, z)) : z j = x j := by
  obtain ⟨x0, hx0⟩ : ∃ y, y = x := ⟨_, rfl⟩
  have hj : x j = x0 j := by rw [hx0]
  rw [← hx0]
  unfold fX8_behind at hf
  obtain ⟨r_1, x_2, qr_1, hf⟩ := bd_out hf
  replace hj : x_2 j = x0 j := (frX8_in  qr_1).trans hj
  rcases if_out hf with ⟨c_3, hf⟩ | ⟨c_3, hf⟩
  · skip
    rw [so_out hf]
    exact hj
  · skip
    rcases if_out hf with ⟨c_4, hf⟩ | ⟨c_4, hf⟩
    · skip
      rw [so_out hf]
      exact hj
    · skip
      rcases if_out hf with ⟨c_5, hf⟩ | ⟨c_5, hf⟩
      · skip
        exact (frX8_behind_h33 j0 j1 j2 j3 j4 v1 v2 x_2 hf).trans hj
      · skip
        obtain ⟨r_6, x_7, qr_6, hf⟩ := bd_out hf
        replace hj : x_7 j = x0 j := (frX8_isBoy  qr_6).trans hj
        rcases if_outN hf with ⟨c_8, hf⟩ | ⟨c_8, hf⟩
        · skip
          exact (frX8_behind_h33 j0 j1 j2 j3 j4 v1 v2 x_7 hf).trans hj
        · skip
          rw [so_out hf]
          exact hj
theorem frbX8_best_h105 {r : Int32} {z : XS} {j : Nat} (j0 : j ≠ 103) (j1 : j ≠ 100) (j2 : j ≠ 111) (j3 : j ≠ 110) (j4 : j ≠ 99) {k105 : Int32 → Int32 → Int32 → Int32 → Int32 → Int32 → Int32 → Int32 → XS → Option (Int32 × XS)} (hk105 : ∀ (u1 : Int32) (u3 : Int32) (u4 : Int32) (u5 : Int32) (u6 : Int32) (u7 : Int32) (u8 : Int32) (u9 : Int32) (x : XS), k105 u1 u3 u4 u5 u6 u7 u8 u9 x = some (r, z) → z j = x j) : ∀ (u1 : Int32) (u3 : Int32) (u4 : Int32) (u5 : Int32) (u6 : Int32) (u7 : Int32) (u8 : Int32) (u9 : Int32) (x : XS), bX8_best_h105 k105 u1 u3 u4 u5 u6 u7 u8 u9 x = some (r, z) → z j = x j := by
  intro u1 u3 u4 u5 u6 u7 u8 u9 x hf
  obtain ⟨x0, hx0⟩ : ∃ y, y = x := ⟨_, rfl⟩
  have hj : x j = x0 j := by rw [hx0]
  rw [← hx0]
  unfold bX8_best_h105 at hf
  rcases if_out hf with ⟨c_20, hf⟩ | ⟨c_20, hf⟩
  · skip
    rcases if_outN hf with ⟨c_21, hf⟩ | ⟨c_21, hf⟩
    · skip
      rw [so_out hf]
      exact hj
    · skip
      rw [so_out hf]
      exact hj
  · skip
    obtain ⟨r_22, x_23, qr_22, hf⟩ := bd_out hf
    replace hj : x_23 j = x0 j := (frX8_put (by omega) qr_22).trans hj
    obtain ⟨r_24, x_25, qr_24, hf⟩ := bd_out hf
    replace hj : x_25 j = x0 j := (frX8_goesOn (by omega) (by omega) (by omega) qr_24).trans hj
    obtain ⟨r_26, x_27, qr_26, hf⟩ := bd_out hf
    replace hj : x_27 j = x0 j := (frX8_of  qr_26).trans hj
    obtain ⟨r_28, x_29, qr_28, hf⟩ := bd_out hf
    replace hj : x_29 j = x0 j := (frX8_putsBack (by omega) (by omega) qr_28).trans hj
    rcases if_out hf with ⟨c_30, hf⟩ | ⟨c_30, hf⟩
    · skip
      obtain ⟨v_31, ev_31, hf⟩ := st_out hf
      exact (hk105 u1 u3 u4 u5 u6 u9 r_26 v_31 x_29 hf).trans hj
    · skip
      rcases if_out hf with ⟨c_32, hf⟩ | ⟨c_32, hf⟩
      · skip
        obtain ⟨v_33, ev_33, hf⟩ := st_out hf
        exact (hk105 u1 u3 u4 u5 u6 u7 u8 v_33 x_29 hf).trans hj
      · skip
        obtain ⟨v_34, ev_34, hf⟩ := st_out hf
        exact (hk105 u1 u3 u4 u5 u6 u9 r_26 v_34 x_29 hf).trans hj
theorem frlX8_best_h105 {r : Int32} {z : XS} {j : Nat} (j0 : j ≠ 103) (j1 : j ≠ 100) (j2 : j ≠ 111) (j3 : j ≠ 110) (j4 : j ≠ 99) (n : Nat) : ∀ (u1 : Int32) (u3 : Int32) (u4 : Int32) (u5 : Int32) (u6 : Int32) (u7 : Int32) (u8 : Int32) (u9 : Int32) (x : XS), lX8_best_h105 n u1 u3 u4 u5 u6 u7 u8 u9 x = some (r, z) → z j = x j := by
  induction n with
  | zero => intro u1 u3 u4 u5 u6 u7 u8 u9 x hf; exact absurd hf (by intro q; cases q)
  | succ n ih => exact frbX8_best_h105 j0 j1 j2 j3 j4 ih
theorem frX8_best_h105 {r : Int32} {z : XS} {j : Nat} (j0 : j ≠ 103) (j1 : j ≠ 100) (j2 : j ≠ 111) (j3 : j ≠ 110) (j4 : j ≠ 99) : ∀ (u1 : Int32) (u3 : Int32) (u4 : Int32) (u5 : Int32) (u6 : Int32) (u7 : Int32) (u8 : Int32) (u9 : Int32) (x : XS), fX8_best_h105 u1 u3 u4 u5 u6 u7 u8 u9 x = some (r, z) → z j = x j := frlX8_best_h105 j0 j1 j2 j3 j4 FU
theorem frX8_best_h85 {r : Int32} {z : XS} {j : Nat} (j0 : j ≠ 103) (j1 : j ≠ 100) (j2 : j ≠ 111) (j3 : j ≠ 110) (j4 : j ≠ 99) : ∀ (u1 : Int32) (u2 : Int32) (u3 : Int32) (u4 : Int32) (u5 : Int32) (s0 : Int32) (x : XS), fX8_best_h85 u1 u2 u3 u4 u5 s0 x = some (r, z) → z j = x j := by
  intro u1 u2 u3 u4 u5 s0 x hf
  obtain ⟨x0, hx0⟩ : ∃ y, y = x := ⟨_, rfl⟩
  have hj : x j = x0 j := by rw [hx0]
  rw [← hx0]
  unfold fX8_best_h85 at hf
  rcases if_outN hf with ⟨c_19, hf⟩ | ⟨c_19, hf⟩
  · skip
    exact (frX8_best_h105 j0 j1 j2 j3 j4 u1 u3 u4 u5 s0 (-1) 0 1 x hf).trans hj
  · skip
    exact (frX8_best_h105 j0 j1 j2 j3 j4 u1 u3 u4 u5 s0 (-1) 0 0 x hf).trans hj
theorem frX8_best_h62 {r : Int32} {z : XS} {j : Nat} (j0 : j ≠ 103) (j1 : j ≠ 100) (j2 : j ≠ 111) (j3 : j ≠ 110) (j4 : j ≠ 99) : ∀ (u1 : Int32) (u2 : Int32) (u3 : Int32) (u4 : Int32) (s0 : Int32) (x : XS), fX8_best_h62 u1 u2 u3 u4 s0 x = some (r, z) → z j = x j := by
  intro u1 u2 u3 u4 s0 x hf
  obtain ⟨x0, hx0⟩ : ∃ y, y = x := ⟨_, rfl⟩
  have hj : x j = x0 j := by rw [hx0]
  rw [← hx0]
  unfold fX8_best_h62 at hf
  rcases if_outN hf with ⟨c_17, hf⟩ | ⟨c_17, hf⟩
  · skip
    rcases if_outN hf with ⟨c_18, hf⟩ | ⟨c_18, hf⟩
    · skip
      exact (frX8_best_h85 j0 j1 j2 j3 j4 u1 u2 u3 u4 s0 40 x hf).trans hj
    · skip
      exact (frX8_best_h85 j0 j1 j2 j3 j4 u1 u2 u3 u4 s0 9 x hf).trans hj
  · skip
    exact (frX8_best_h85 j0 j1 j2 j3 j4 u1 u2 u3 u4 s0 20 x hf).trans hj
theorem frX8_best {v1 : Int32} {v2 : Int32} {v3 : Int32} {v4 : Int32} {j : Nat} (j0 : j ≠ 103) (j1 : j ≠ 100) (j2 : j ≠ 111) (j3 : j ≠ 110) (j4 : j ≠ 99) {x z : XS} {r : Int32} (hf : fX8_best v1 v2 v3 v4 x = some (r, z)) : z j = x j := by
  obtain ⟨x0, hx0⟩ : ∃ y, y = x := ⟨_, rfl⟩
  have hj : x j = x0 j := by rw [hx0]
  rw [← hx0]
  unfold fX8_best at hf
  obtain ⟨r_1, x_2, qr_1, hf⟩ := bd_out hf
  replace hj : x_2 j = x0 j := (frX8_isBoy  qr_1).trans hj
  rcases if_out hf with ⟨c_3, hf⟩ | ⟨c_3, hf⟩
  · skip
    rw [so_out hf]
    exact hj
  · skip
    obtain ⟨r_4, x_5, qr_4, hf⟩ := bd_out hf
    replace hj : x_5 j = x0 j := (frX8_in  qr_4).trans hj
    rcases if_out hf with ⟨c_6, hf⟩ | ⟨c_6, hf⟩
    · skip
      rw [so_out hf]
      exact hj
    · skip
      obtain ⟨r_7, x_8, qr_7, hf⟩ := bd_out hf
      replace hj : x_8 j = x0 j := (frX8_in  qr_7).trans hj
      rcases if_out hf with ⟨c_9, hf⟩ | ⟨c_9, hf⟩
      · skip
        rw [so_out hf]
        exact hj
      · skip
        obtain ⟨r_10, x_11, qr_10, hf⟩ := bd_out hf
        replace hj : x_11 j = x0 j := (frX8_in  qr_10).trans hj
        rcases if_outN hf with ⟨c_12, hf⟩ | ⟨c_12, hf⟩
        · skip
          obtain ⟨r_13, x_14, qr_13, hf⟩ := bd_out hf
          replace hj : x_14 j = x0 j := (frX8_thinks (by omega) qr_13).trans hj
          rcases if_outN hf with ⟨c_15, hf⟩ | ⟨c_15, hf⟩
          · skip
            rcases if_outN hf with ⟨c_16, hf⟩ | ⟨c_16, hf⟩
            · skip
              exact (frX8_best_h62 j0 j1 j2 j3 j4 v1 v2 v3 v4 2 x_14 hf).trans hj
            · skip
              exact (frX8_best_h62 j0 j1 j2 j3 j4 v1 v2 v3 v4 1 x_14 hf).trans hj
          · skip
            exact (frX8_best_h62 j0 j1 j2 j3 j4 v1 v2 v3 v4 3 x_14 hf).trans hj
        · skip
          rw [so_out hf]
          exact hj
theorem frbX8_bestShare_h34 {r : Int32} {z : XS} {j : Nat} (j0 : j ≠ 100) (j1 : j ≠ 103) (j2 : j ≠ 111) (j3 : j ≠ 110) (j4 : j ≠ 99) {k34 : Int32 → Int32 → Int32 → Int32 → Int32 → XS → Option (Int32 × XS)} (hk34 : ∀ (u1 : Int32) (u2 : Int32) (u3 : Int32) (u4 : Int32) (u5 : Int32) (x : XS), k34 u1 u2 u3 u4 u5 x = some (r, z) → z j = x j) : ∀ (u1 : Int32) (u2 : Int32) (u3 : Int32) (u4 : Int32) (u5 : Int32) (x : XS), bX8_bestShare_h34 k34 u1 u2 u3 u4 u5 x = some (r, z) → z j = x j := by
  intro u1 u2 u3 u4 u5 x hf
  obtain ⟨x0, hx0⟩ : ∃ y, y = x := ⟨_, rfl⟩
  have hj : x j = x0 j := by rw [hx0]
  rw [← hx0]
  unfold bX8_bestShare_h34 at hf
  rcases if_out hf with ⟨c_9, hf⟩ | ⟨c_9, hf⟩
  · skip
    rcases if_outN hf with ⟨c_10, hf⟩ | ⟨c_10, hf⟩
    · skip
      rw [so_out hf]
      exact hj
    · skip
      rw [so_out hf]
      exact hj
  · skip
    obtain ⟨gg_11, hf⟩ := gd_out hf
    have ngg_11 := inb_lt gg_11
    obtain ⟨x_12, ex_12, hf⟩ := st_out hf
    replace hj : x_12 j = x0 j := (show x_12 j = x j by rw [ex_12]; exact wr_ne (by omega)).trans hj
    obtain ⟨r_13, x_14, qr_13, hf⟩ := bd_out hf
    replace hj : x_14 j = x0 j := (frX8_goesOn (by omega) (by omega) (by omega) qr_13).trans hj
    obtain ⟨gg_15, hf⟩ := gd_out hf
    have ngg_15 := inb_lt gg_15
    obtain ⟨v_16, ev_16, hf⟩ := st_out hf
    obtain ⟨r_17, x_18, qr_17, hf⟩ := bd_out hf
    replace hj : x_18 j = x0 j := (frX8_putsBack (by omega) (by omega) qr_17).trans hj
    rcases if_out hf with ⟨c_19, hf⟩ | ⟨c_19, hf⟩
    · skip
      obtain ⟨v_20, ev_20, hf⟩ := st_out hf
      exact (hk34 u1 u2 u5 v_16 v_20 x_18 hf).trans hj
    · skip
      rcases if_out hf with ⟨c_21, hf⟩ | ⟨c_21, hf⟩
      · skip
        obtain ⟨v_22, ev_22, hf⟩ := st_out hf
        exact (hk34 u1 u2 u3 u4 v_22 x_18 hf).trans hj
      · skip
        obtain ⟨v_23, ev_23, hf⟩ := st_out hf
        exact (hk34 u1 u2 u5 v_16 v_23 x_18 hf).trans hj
theorem frlX8_bestShare_h34 {r : Int32} {z : XS} {j : Nat} (j0 : j ≠ 100) (j1 : j ≠ 103) (j2 : j ≠ 111) (j3 : j ≠ 110) (j4 : j ≠ 99) (n : Nat) : ∀ (u1 : Int32) (u2 : Int32) (u3 : Int32) (u4 : Int32) (u5 : Int32) (x : XS), lX8_bestShare_h34 n u1 u2 u3 u4 u5 x = some (r, z) → z j = x j := by
  induction n with
  | zero => intro u1 u2 u3 u4 u5 x hf; exact absurd hf (by intro q; cases q)
  | succ n ih => exact frbX8_bestShare_h34 j0 j1 j2 j3 j4 ih
theorem frX8_bestShare_h34 {r : Int32} {z : XS} {j : Nat} (j0 : j ≠ 100) (j1 : j ≠ 103) (j2 : j ≠ 111) (j3 : j ≠ 110) (j4 : j ≠ 99) : ∀ (u1 : Int32) (u2 : Int32) (u3 : Int32) (u4 : Int32) (u5 : Int32) (x : XS), fX8_bestShare_h34 u1 u2 u3 u4 u5 x = some (r, z) → z j = x j := frlX8_bestShare_h34 j0 j1 j2 j3 j4 FU
theorem frX8_bestShare {v1 : Int32} {v2 : Int32} {j : Nat} (j0 : j ≠ 100) (j1 : j ≠ 103) (j2 : j ≠ 111) (j3 : j ≠ 110) (j4 : j ≠ 99) {x z : XS} {r : Int32} (hf : fX8_bestShare v1 v2 x = some (r, z)) : z j = x j := by
  obtain ⟨x0, hx0⟩ : ∃ y, y = x := ⟨_, rfl⟩
  have hj : x j = x0 j := by rw [hx0]
  rw [← hx0]
  unfold fX8_bestShare at hf
  obtain ⟨r_1, x_2, qr_1, hf⟩ := bd_out hf
  replace hj : x_2 j = x0 j := (frX8_in  qr_1).trans hj
  rcases if_out hf with ⟨c_3, hf⟩ | ⟨c_3, hf⟩
  · skip
    rw [so_out hf]
    exact hj
  · skip
    obtain ⟨r_4, x_5, qr_4, hf⟩ := bd_out hf
    replace hj : x_5 j = x0 j := (frX8_in  qr_4).trans hj
    rcases if_outN hf with ⟨c_6, hf⟩ | ⟨c_6, hf⟩
    · skip
      obtain ⟨r_7, x_8, qr_7, hf⟩ := bd_out hf
      replace hj : x_8 j = x0 j := (frX8_thinks (by omega) qr_7).trans hj
      exact (frX8_bestShare_h34 j0 j1 j2 j3 j4 v1 v2 (-1) 0 0 x_8 hf).trans hj
    · skip
      rw [so_out hf]
      exact hj
theorem frbX8_sentAway_h34 {r : Int32} {z : XS} {j : Nat} (j0 : j ≠ 99) (j1 : j ≠ 103) (j2 : j ≠ 100) (j3 : j ≠ 111) (j4 : j ≠ 110) {k34 : Int32 → Int32 → Int32 → Int32 → Int32 → XS → Option (Int32 × XS)} (hk34 : ∀ (u1 : Int32) (u2 : Int32) (u3 : Int32) (u4 : Int32) (u5 : Int32) (x : XS), k34 u1 u2 u3 u4 u5 x = some (r, z) → z j = x j) : ∀ (u1 : Int32) (u2 : Int32) (u3 : Int32) (u4 : Int32) (u5 : Int32) (x : XS), bX8_sentAway_h34 k34 u1 u2 u3 u4 u5 x = some (r, z) → z j = x j := by
  intro u1 u2 u3 u4 u5 x hf
  obtain ⟨x0, hx0⟩ : ∃ y, y = x := ⟨_, rfl⟩
  have hj : x j = x0 j := by rw [hx0]
  rw [← hx0]
  unfold bX8_sentAway_h34 at hf
  obtain ⟨gg_9, hf⟩ := gd_out hf
  have ngg_9 := inb_lt gg_9
  rcases if_out hf with ⟨c_10, hf⟩ | ⟨c_10, hf⟩
  · skip
    rcases if_out hf with ⟨c_11, hf⟩ | ⟨c_11, hf⟩
    · skip
      rcases if_outN hf with ⟨c_12, hf⟩ | ⟨c_12, hf⟩
      · skip
        rw [so_out hf]
        exact hj
      · skip
        rw [so_out hf]
        exact hj
    · skip
      rw [so_out hf]
      exact hj
  · skip
    obtain ⟨x_13, ex_13, hf⟩ := st_out hf
    replace hj : x_13 j = x0 j := (show x_13 j = x j by rw [ex_13]; exact wr_ne (by omega)).trans hj
    obtain ⟨r_14, x_15, qr_14, hf⟩ := bd_out hf
    replace hj : x_15 j = x0 j := (frX8_goesOn (by omega) (by omega) (by omega) qr_14).trans hj
    obtain ⟨r_16, x_17, qr_16, hf⟩ := bd_out hf
    replace hj : x_17 j = x0 j := (frX8_sumOf  qr_16).trans hj
    obtain ⟨r_18, x_19, qr_18, hf⟩ := bd_out hf
    replace hj : x_19 j = x0 j := (frX8_putsBack (by omega) (by omega) qr_18).trans hj
    rcases if_out hf with ⟨c_20, hf⟩ | ⟨c_20, hf⟩
    · skip
      obtain ⟨v_21, ev_21, hf⟩ := st_out hf
      exact (hk34 u1 u2 u5 r_16 v_21 x_19 hf).trans hj
    · skip
      rcases if_out hf with ⟨c_22, hf⟩ | ⟨c_22, hf⟩
      · skip
        obtain ⟨v_23, ev_23, hf⟩ := st_out hf
        exact (hk34 u1 u2 u3 u4 v_23 x_19 hf).trans hj
      · skip
        obtain ⟨v_24, ev_24, hf⟩ := st_out hf
        exact (hk34 u1 u2 u5 r_16 v_24 x_19 hf).trans hj
theorem frlX8_sentAway_h34 {r : Int32} {z : XS} {j : Nat} (j0 : j ≠ 99) (j1 : j ≠ 103) (j2 : j ≠ 100) (j3 : j ≠ 111) (j4 : j ≠ 110) (n : Nat) : ∀ (u1 : Int32) (u2 : Int32) (u3 : Int32) (u4 : Int32) (u5 : Int32) (x : XS), lX8_sentAway_h34 n u1 u2 u3 u4 u5 x = some (r, z) → z j = x j := by
  induction n with
  | zero => intro u1 u2 u3 u4 u5 x hf; exact absurd hf (by intro q; cases q)
  | succ n ih => exact frbX8_sentAway_h34 j0 j1 j2 j3 j4 ih
theorem frX8_sentAway_h34 {r : Int32} {z : XS} {j : Nat} (j0 : j ≠ 99) (j1 : j ≠ 103) (j2 : j ≠ 100) (j3 : j ≠ 111) (j4 : j ≠ 110) : ∀ (u1 : Int32) (u2 : Int32) (u3 : Int32) (u4 : Int32) (u5 : Int32) (x : XS), fX8_sentAway_h34 u1 u2 u3 u4 u5 x = some (r, z) → z j = x j := frlX8_sentAway_h34 j0 j1 j2 j3 j4 FU
theorem frX8_sentAway {v1 : Int32} {v2 : Int32} {j : Nat} (j0 : j ≠ 99) (j1 : j ≠ 103) (j2 : j ≠ 100) (j3 : j ≠ 111) (j4 : j ≠ 110) {x z : XS} {r : Int32} (hf : fX8_sentAway v1 v2 x = some (r, z)) : z j = x j := by
  obtain ⟨x0, hx0⟩ : ∃ y, y = x := ⟨_, rfl⟩
  have hj : x j = x0 j := by rw [hx0]
  rw [← hx0]
  unfold fX8_sentAway at hf
  obtain ⟨r_1, x_2, qr_1, hf⟩ := bd_out hf
  replace hj : x_2 j = x0 j := (frX8_in  qr_1).trans hj
  rcases if_out hf with ⟨c_3, hf⟩ | ⟨c_3, hf⟩
  · skip
    rw [so_out hf]
    exact hj
  · skip
    obtain ⟨r_4, x_5, qr_4, hf⟩ := bd_out hf
    replace hj : x_5 j = x0 j := (frX8_in  qr_4).trans hj
    rcases if_outN hf with ⟨c_6, hf⟩ | ⟨c_6, hf⟩
    · skip
      obtain ⟨r_7, x_8, qr_7, hf⟩ := bd_out hf
      replace hj : x_8 j = x0 j := (frX8_thinks (by omega) qr_7).trans hj
      exact (frX8_sentAway_h34 j0 j1 j2 j3 j4 v1 v2 (-1) 0 0 x_8 hf).trans hj
    · skip
      rw [so_out hf]
      exact hj
theorem frX8_dry {v1 : Int32} {j : Nat} (j0 : j ≠ 100) (j1 : j ≠ 103) (j2 : j ≠ 111) (j3 : j ≠ 110) (j4 : j ≠ 99) {x z : XS} {r : Int32} (hf : fX8_dry v1 x = some (r, z)) : z j = x j := by
  obtain ⟨x0, hx0⟩ : ∃ y, y = x := ⟨_, rfl⟩
  have hj : x j = x0 j := by rw [hx0]
  rw [← hx0]
  unfold fX8_dry at hf
  obtain ⟨r_1, x_2, qr_1, hf⟩ := bd_out hf
  replace hj : x_2 j = x0 j := (frX8_in  qr_1).trans hj
  rcases if_outN hf with ⟨c_3, hf⟩ | ⟨c_3, hf⟩
  · skip
    obtain ⟨r_4, x_5, qr_4, hf⟩ := bd_out hf
    replace hj : x_5 j = x0 j := (frX8_thinks (by omega) qr_4).trans hj
    obtain ⟨r_6, x_7, qr_6, hf⟩ := bd_out hf
    replace hj : x_7 j = x0 j := (frX8_goesOn (by omega) (by omega) (by omega) qr_6).trans hj
    obtain ⟨r_8, x_9, qr_8, hf⟩ := bd_out hf
    replace hj : x_9 j = x0 j := (frX8_sumOf  qr_8).trans hj
    obtain ⟨r_10, x_11, qr_10, hf⟩ := bd_out hf
    replace hj : x_11 j = x0 j := (frX8_putsBack (by omega) (by omega) qr_10).trans hj
    obtain ⟨gg_12, hf⟩ := gd_out hf
    have ngg_12 := inb_lt gg_12
    obtain ⟨x_13, ex_13, hf⟩ := st_out hf
    replace hj : x_13 j = x0 j := (show x_13 j = x_11 j by rw [ex_13]; exact wr_ne (by omega)).trans hj
    obtain ⟨gg_14, hf⟩ := gd_out hf
    have ngg_14 := inb_lt gg_14
    obtain ⟨x_15, ex_15, hf⟩ := st_out hf
    replace hj : x_15 j = x0 j := (show x_15 j = x_13 j by rw [ex_15]; exact wr_ne (by omega)).trans hj
    obtain ⟨r_16, x_17, qr_16, hf⟩ := bd_out hf
    replace hj : x_17 j = x0 j := (frX8_goesOn (by omega) (by omega) (by omega) qr_16).trans hj
    obtain ⟨r_18, x_19, qr_18, hf⟩ := bd_out hf
    replace hj : x_19 j = x0 j := (frX8_sumOf  qr_18).trans hj
    obtain ⟨r_20, x_21, qr_20, hf⟩ := bd_out hf
    replace hj : x_21 j = x0 j := (frX8_putsBack (by omega) (by omega) qr_20).trans hj
    rw [so_out hf]
    exact hj
  · skip
    rw [so_out hf]
    exact hj
theorem frX8_offBy_h72 {r : Int64} {z : XS} {j : Nat} (j0 : j ≠ 111) (j1 : j ≠ 110) {k5 : Int32 → Int32 → Int64 → Int32 → XS → Option (Int64 × XS)} (hk5 : ∀ (u1 : Int32) (u2 : Int32) (u3 : Int64) (u5 : Int32) (x : XS), k5 u1 u2 u3 u5 x = some (r, z) → z j = x j) : ∀ (u1 : Int32) (u2 : Int32) (u5 : Int32) (s0 : Int64) (s1 : Int64) (x : XS), fX8_offBy_h72 k5 u1 u2 u5 s0 s1 x = some (r, z) → z j = x j := by
  intro u1 u2 u5 s0 s1 x hf
  obtain ⟨x0, hx0⟩ : ∃ y, y = x := ⟨_, rfl⟩
  have hj : x j = x0 j := by rw [hx0]
  rw [← hx0]
  unfold fX8_offBy_h72 at hf
  obtain ⟨v_13, ev_13, hf⟩ := st_out hf
  obtain ⟨v_14, ev_14, hf⟩ := st_out hf
  exact (hk5 u1 u2 v_13 v_14 x hf).trans hj
theorem frbX8_offBy_h5 {r : Int64} {z : XS} {j : Nat} (j0 : j ≠ 111) (j1 : j ≠ 110) {k5 : Int32 → Int32 → Int64 → Int32 → XS → Option (Int64 × XS)} (hk5 : ∀ (u1 : Int32) (u2 : Int32) (u3 : Int64) (u5 : Int32) (x : XS), k5 u1 u2 u3 u5 x = some (r, z) → z j = x j) : ∀ (u1 : Int32) (u2 : Int32) (u3 : Int64) (u5 : Int32) (x : XS), bX8_offBy_h5 k5 u1 u2 u3 u5 x = some (r, z) → z j = x j := by
  intro u1 u2 u3 u5 x hf
  obtain ⟨x0, hx0⟩ : ∃ y, y = x := ⟨_, rfl⟩
  have hj : x j = x0 j := by rw [hx0]
  rw [← hx0]
  unfold bX8_offBy_h5 at hf
  obtain ⟨gg_1, hf⟩ := gd_out hf
  have ngg_1 := inb_lt gg_1
  rcases if_out hf with ⟨c_2, hf⟩ | ⟨c_2, hf⟩
  · skip
    rw [so_out hf]
    exact hj
  · skip
    obtain ⟨gg_3, hf⟩ := gd_out hf
    have ngg_3 := inb_lt gg_3
    obtain ⟨v_4, ev_4, hf⟩ := st_out hf
    obtain ⟨v_5, ev_5, hf⟩ := st_out hf
    obtain ⟨r_6, x_7, qr_6, hf⟩ := bd_out hf
    replace hj : x_7 j = x0 j := (frX8_shineOf (by omega) (by omega) qr_6).trans hj
    obtain ⟨v_8, ev_8, hf⟩ := st_out hf
    obtain ⟨v_9, ev_9, hf⟩ := st_out hf
    rcases if_outN hf with ⟨c_10, hf⟩ | ⟨c_10, hf⟩
    · skip
      obtain ⟨v_11, ev_11, hf⟩ := st_out hf
      rcases if_out hf with ⟨c_12, hf⟩ | ⟨c_12, hf⟩
      · skip
        exact (frX8_offBy_h72 j0 j1 hk5 u1 u2 u5 u3 v_9 x_7 hf).trans hj
      · skip
        exact (frX8_offBy_h72 j0 j1 hk5 u1 u2 u5 u3 (-v_9) x_7 hf).trans hj
    · skip
      exact (frX8_offBy_h72 j0 j1 hk5 u1 u2 u5 u3 0 x_7 hf).trans hj
theorem frlX8_offBy_h5 {r : Int64} {z : XS} {j : Nat} (j0 : j ≠ 111) (j1 : j ≠ 110) (n : Nat) : ∀ (u1 : Int32) (u2 : Int32) (u3 : Int64) (u5 : Int32) (x : XS), lX8_offBy_h5 n u1 u2 u3 u5 x = some (r, z) → z j = x j := by
  induction n with
  | zero => intro u1 u2 u3 u5 x hf; exact absurd hf (by intro q; cases q)
  | succ n ih => exact frbX8_offBy_h5 j0 j1 ih
theorem frX8_offBy_h5 {r : Int64} {z : XS} {j : Nat} (j0 : j ≠ 111) (j1 : j ≠ 110) : ∀ (u1 : Int32) (u2 : Int32) (u3 : Int64) (u5 : Int32) (x : XS), fX8_offBy_h5 u1 u2 u3 u5 x = some (r, z) → z j = x j := frlX8_offBy_h5 j0 j1 FU
theorem frX8_offBy {v1 : Int32} {v2 : Int32} {j : Nat} (j0 : j ≠ 111) (j1 : j ≠ 110) {x z : XS} {r : Int64} (hf : fX8_offBy v1 v2 x = some (r, z)) : z j = x j := by
  obtain ⟨x0, hx0⟩ : ∃ y, y = x := ⟨_, rfl⟩
  have hj : x j = x0 j := by rw [hx0]
  rw [← hx0]
  unfold fX8_offBy at hf
  exact (frX8_offBy_h5 j0 j1 v1 v2 0 0 x hf).trans hj
theorem frX8_isSheet {v0 : Int32} {j : Nat}  {x z : XS} {r : Int32} (hf : fX8_isSheet v0 x = some (r, z)) : z j = x j := by
  obtain ⟨x0, hx0⟩ : ∃ y, y = x := ⟨_, rfl⟩
  have hj : x j = x0 j := by rw [hx0]
  rw [← hx0]
  unfold fX8_isSheet at hf
  obtain ⟨r_1, x_2, qr_1, hf⟩ := bd_out hf
  replace hj : x_2 j = x0 j := (frX8_in  qr_1).trans hj
  obtain ⟨gg_3, hf⟩ := gd_out hf
  rw [so_out hf]
  exact hj
theorem roX8_isSheet {v0 : Int32} {x z : XS} {r : Int32} (hf : fX8_isSheet v0 x = some (r, z)) : z = x := funext fun j => frX8_isSheet (j := j) hf
theorem frbX8_shone_h39 {r : Int32} {z : XS} {j : Nat} (j0 : j ≠ 111) (j1 : j ≠ 110) {k39 : Int32 → Int32 → Int32 → Int64 → Int32 → XS → Option (Int32 × XS)} (hk39 : ∀ (u1 : Int32) (u2 : Int32) (u3 : Int32) (u4 : Int64) (u6 : Int32) (x : XS), k39 u1 u2 u3 u4 u6 x = some (r, z) → z j = x j) : ∀ (u1 : Int32) (u2 : Int32) (u3 : Int32) (u4 : Int64) (u6 : Int32) (x : XS), bX8_shone_h39 k39 u1 u2 u3 u4 u6 x = some (r, z) → z j = x j := by
  intro u1 u2 u3 u4 u6 x hf
  obtain ⟨x0, hx0⟩ : ∃ y, y = x := ⟨_, rfl⟩
  have hj : x j = x0 j := by rw [hx0]
  rw [← hx0]
  unfold bX8_shone_h39 at hf
  obtain ⟨gg_9, hf⟩ := gd_out hf
  have ngg_9 := inb_lt gg_9
  rcases if_out hf with ⟨c_10, hf⟩ | ⟨c_10, hf⟩
  · skip
    rcases if_out hf with ⟨c_11, hf⟩ | ⟨c_11, hf⟩
    · skip
      rcases if_outN hf with ⟨c_12, hf⟩ | ⟨c_12, hf⟩
      · skip
        obtain ⟨v_13, ev_13, hf⟩ := st_out hf
        rw [so_out hf]
        exact hj
      · skip
        rw [so_out hf]
        exact hj
    · skip
      rw [so_out hf]
      exact hj
  · skip
    obtain ⟨r_14, x_15, qr_14, hf⟩ := bd_out hf
    replace hj : x_15 j = x0 j := (frX8_offBy (by omega) (by omega) qr_14).trans hj
    rcases if_out hf with ⟨c_16, hf⟩ | ⟨c_16, hf⟩
    · skip
      obtain ⟨v_17, ev_17, hf⟩ := st_out hf
      exact (hk39 u1 u2 u6 r_14 v_17 x_15 hf).trans hj
    · skip
      obtain ⟨v_18, ev_18, hf⟩ := st_out hf
      rcases if_out hf with ⟨c_19, hf⟩ | ⟨c_19, hf⟩
      · skip
        obtain ⟨v_20, ev_20, hf⟩ := st_out hf
        exact (hk39 u1 u2 u3 u4 v_20 x_15 hf).trans hj
      · skip
        obtain ⟨v_21, ev_21, hf⟩ := st_out hf
        exact (hk39 u1 u2 u6 r_14 v_21 x_15 hf).trans hj
theorem frlX8_shone_h39 {r : Int32} {z : XS} {j : Nat} (j0 : j ≠ 111) (j1 : j ≠ 110) (n : Nat) : ∀ (u1 : Int32) (u2 : Int32) (u3 : Int32) (u4 : Int64) (u6 : Int32) (x : XS), lX8_shone_h39 n u1 u2 u3 u4 u6 x = some (r, z) → z j = x j := by
  induction n with
  | zero => intro u1 u2 u3 u4 u6 x hf; exact absurd hf (by intro q; cases q)
  | succ n ih => exact frbX8_shone_h39 j0 j1 ih
theorem frX8_shone_h39 {r : Int32} {z : XS} {j : Nat} (j0 : j ≠ 111) (j1 : j ≠ 110) : ∀ (u1 : Int32) (u2 : Int32) (u3 : Int32) (u4 : Int64) (u6 : Int32) (x : XS), fX8_shone_h39 u1 u2 u3 u4 u6 x = some (r, z) → z j = x j := frlX8_shone_h39 j0 j1 FU
theorem frX8_shone {v1 : Int32} {v2 : Int32} {j : Nat} (j0 : j ≠ 111) (j1 : j ≠ 110) {x z : XS} {r : Int32} (hf : fX8_shone v1 v2 x = some (r, z)) : z j = x j := by
  obtain ⟨x0, hx0⟩ : ∃ y, y = x := ⟨_, rfl⟩
  have hj : x j = x0 j := by rw [hx0]
  rw [← hx0]
  unfold fX8_shone at hf
  obtain ⟨r_1, x_2, qr_1, hf⟩ := bd_out hf
  replace hj : x_2 j = x0 j := (frX8_isSheet  qr_1).trans hj
  rcases if_out hf with ⟨c_3, hf⟩ | ⟨c_3, hf⟩
  · skip
    rw [so_out hf]
    exact hj
  · skip
    obtain ⟨r_4, x_5, qr_4, hf⟩ := bd_out hf
    replace hj : x_5 j = x0 j := (frX8_in  qr_4).trans hj
    rcases if_outN hf with ⟨c_6, hf⟩ | ⟨c_6, hf⟩
    · skip
      obtain ⟨gg_7, hf⟩ := gd_out hf
      have ngg_7 := inb_lt gg_7
      rcases if_out hf with ⟨c_8, hf⟩ | ⟨c_8, hf⟩
      · skip
        exact (frX8_shone_h39 j0 j1 v1 v2 (-1) 0 0 x_5 hf).trans hj
      · skip
        rw [so_out hf]
        exact hj
    · skip
      rw [so_out hf]
      exact hj
theorem frX8_fee {j : Nat} (j0 : j ≠ 111) (j1 : j ≠ 110) {x z : XS} {r : Int32} (hf : fX8_fee x = some (r, z)) : z j = x j := by
  obtain ⟨x0, hx0⟩ : ∃ y, y = x := ⟨_, rfl⟩
  have hj : x j = x0 j := by rw [hx0]
  rw [← hx0]
  unfold fX8_fee at hf
  obtain ⟨r_1, x_2, qr_1, hf⟩ := bd_out hf
  replace hj : x_2 j = x0 j := (frX8_counts  qr_1).trans hj
  obtain ⟨gg_3, hf⟩ := gd_out hf
  have ngg_3 := inb_lt gg_3
  obtain ⟨gg_4, hf⟩ := gd_out hf
  have ngg_4 := inb_lt gg_4
  obtain ⟨x_5, ex_5, hf⟩ := st_out hf
  replace hj : x_5 j = x0 j := (show x_5 j = x_2 j by rw [ex_5]; exact wr_ne (by omega)).trans hj
  obtain ⟨gg_6, hf⟩ := gd_out hf
  have ngg_6 := inb_lt gg_6
  obtain ⟨gg_7, hf⟩ := gd_out hf
  have ngg_7 := inb_lt gg_7
  obtain ⟨x_8, ex_8, hf⟩ := st_out hf
  replace hj : x_8 j = x0 j := (show x_8 j = x_5 j by rw [ex_8]; exact wr_ne (by omega)).trans hj
  rcases if_out hf with ⟨c_9, hf⟩ | ⟨c_9, hf⟩
  · skip
    obtain ⟨r_10, x_11, qr_10, hf⟩ := bd_out hf
    replace hj : x_11 j = x0 j := (frX8_worksOut (by omega) qr_10).trans hj
    rw [so_out hf]
    exact hj
  · skip
    obtain ⟨gg_12, hf⟩ := gd_out hf
    have ngg_12 := inb_lt gg_12
    rw [so_out hf]
    exact hj
theorem frX8_fine {v1 : Int32} {j : Nat} (j0 : j ≠ 111) (j1 : j ≠ 110) {x z : XS} {r : Int32} (hf : fX8_fine v1 x = some (r, z)) : z j = x j := by
  obtain ⟨x0, hx0⟩ : ∃ y, y = x := ⟨_, rfl⟩
  have hj : x j = x0 j := by rw [hx0]
  rw [← hx0]
  unfold fX8_fine at hf
  obtain ⟨r_1, x_2, qr_1, hf⟩ := bd_out hf
  replace hj : x_2 j = x0 j := (frX8_isBoy  qr_1).trans hj
  rcases if_outN hf with ⟨c_3, hf⟩ | ⟨c_3, hf⟩
  · skip
    obtain ⟨r_4, x_5, qr_4, hf⟩ := bd_out hf
    replace hj : x_5 j = x0 j := (frX8_counts  qr_4).trans hj
    obtain ⟨r_6, x_7, qr_6, hf⟩ := bd_out hf
    replace hj : x_7 j = x0 j := (frX8_of  qr_6).trans hj
    obtain ⟨gg_8, hf⟩ := gd_out hf
    have ngg_8 := inb_lt gg_8
    obtain ⟨x_9, ex_9, hf⟩ := st_out hf
    replace hj : x_9 j = x0 j := (show x_9 j = x_7 j by rw [ex_9]; exact wr_ne (by omega)).trans hj
    obtain ⟨r_10, x_11, qr_10, hf⟩ := bd_out hf
    replace hj : x_11 j = x0 j := (frX8_of  qr_10).trans hj
    obtain ⟨gg_12, hf⟩ := gd_out hf
    have ngg_12 := inb_lt gg_12
    obtain ⟨x_13, ex_13, hf⟩ := st_out hf
    replace hj : x_13 j = x0 j := (show x_13 j = x_11 j by rw [ex_13]; exact wr_ne (by omega)).trans hj
    rcases if_out hf with ⟨c_14, hf⟩ | ⟨c_14, hf⟩
    · skip
      obtain ⟨r_15, x_16, qr_15, hf⟩ := bd_out hf
      replace hj : x_16 j = x0 j := (frX8_worksOut (by omega) qr_15).trans hj
      rw [so_out hf]
      exact hj
    · skip
      obtain ⟨r_17, x_18, qr_17, hf⟩ := bd_out hf
      replace hj : x_18 j = x0 j := (frX8_of  qr_17).trans hj
      rw [so_out hf]
      exact hj
  · skip
    rw [so_out hf]
    exact hj
theorem frX8_feed_h47 {r : Int32} {z : XS} {j : Nat} (j0 : j ≠ 99) (j1 : j ≠ 104) {k18 : Int32 → Int32 → Int32 → Int32 → XS → Option (Int32 × XS)} (hk18 : ∀ (u1 : Int32) (u2 : Int32) (u3 : Int32) (u4 : Int32) (x : XS), k18 u1 u2 u3 u4 x = some (r, z) → z j = x j) : ∀ (u1 : Int32) (u2 : Int32) (u3 : Int32) (u4 : Int32) (s0 : Int32) (x : XS), fX8_feed_h47 k18 u1 u2 u3 u4 s0 x = some (r, z) → z j = x j := by
  intro u1 u2 u3 u4 s0 x hf
  obtain ⟨x0, hx0⟩ : ∃ y, y = x := ⟨_, rfl⟩
  have hj : x j = x0 j := by rw [hx0]
  rw [← hx0]
  unfold fX8_feed_h47 at hf
  obtain ⟨v_6, ev_6, hf⟩ := st_out hf
  obtain ⟨v_7, ev_7, hf⟩ := st_out hf
  obtain ⟨gg_8, hf⟩ := gd_out hf
  have ngg_8 := inb_lt gg_8
  obtain ⟨x_9, ex_9, hf⟩ := st_out hf
  replace hj : x_9 j = x0 j := (show x_9 j = x j by rw [ex_9]; exact wr_ne (by omega)).trans hj
  obtain ⟨v_10, ev_10, hf⟩ := st_out hf
  exact (hk18 u1 u2 u3 v_10 x_9 hf).trans hj
theorem frbX8_feed_h18 {r : Int32} {z : XS} {j : Nat} (j0 : j ≠ 99) (j1 : j ≠ 104) {k18 : Int32 → Int32 → Int32 → Int32 → XS → Option (Int32 × XS)} (hk18 : ∀ (u1 : Int32) (u2 : Int32) (u3 : Int32) (u4 : Int32) (x : XS), k18 u1 u2 u3 u4 x = some (r, z) → z j = x j) : ∀ (u1 : Int32) (u2 : Int32) (u3 : Int32) (u4 : Int32) (x : XS), bX8_feed_h18 k18 u1 u2 u3 u4 x = some (r, z) → z j = x j := by
  intro u1 u2 u3 u4 x hf
  obtain ⟨x0, hx0⟩ : ∃ y, y = x := ⟨_, rfl⟩
  have hj : x j = x0 j := by rw [hx0]
  rw [← hx0]
  unfold bX8_feed_h18 at hf
  rcases if_out hf with ⟨c_2, hf⟩ | ⟨c_2, hf⟩
  · skip
    obtain ⟨x_3, ex_3, hf⟩ := st_out hf
    replace hj : x_3 j = x0 j := (show x_3 j = x j by rw [ex_3]; exact wr_ne (by omega)).trans hj
    rw [so_out hf]
    exact hj
  · skip
    rcases if_out hf with ⟨c_4, hf⟩ | ⟨c_4, hf⟩
    · skip
      rcases if_out hf with ⟨c_5, hf⟩ | ⟨c_5, hf⟩
      · skip
        exact (frX8_feed_h47 j0 j1 hk18 u1 u2 u3 u4 u3 x hf).trans hj
      · skip
        exact (frX8_feed_h47 j0 j1 hk18 u1 u2 u3 u4 u2 x hf).trans hj
    · skip
      exact (frX8_feed_h47 j0 j1 hk18 u1 u2 u3 u4 u1 x hf).trans hj
theorem frlX8_feed_h18 {r : Int32} {z : XS} {j : Nat} (j0 : j ≠ 99) (j1 : j ≠ 104) (n : Nat) : ∀ (u1 : Int32) (u2 : Int32) (u3 : Int32) (u4 : Int32) (x : XS), lX8_feed_h18 n u1 u2 u3 u4 x = some (r, z) → z j = x j := by
  induction n with
  | zero => intro u1 u2 u3 u4 x hf; exact absurd hf (by intro q; cases q)
  | succ n ih => exact frbX8_feed_h18 j0 j1 ih
theorem frX8_feed_h18 {r : Int32} {z : XS} {j : Nat} (j0 : j ≠ 99) (j1 : j ≠ 104) : ∀ (u1 : Int32) (u2 : Int32) (u3 : Int32) (u4 : Int32) (x : XS), fX8_feed_h18 u1 u2 u3 u4 x = some (r, z) → z j = x j := frlX8_feed_h18 j0 j1 FU
theorem frX8_feed {v1 : Int32} {v2 : Int32} {v3 : Int32} {j : Nat} (j0 : j ≠ 99) (j1 : j ≠ 104) {x z : XS} {r : Int32} (hf : fX8_feed v1 v2 v3 x = some (r, z)) : z j = x j := by
  obtain ⟨x0, hx0⟩ : ∃ y, y = x := ⟨_, rfl⟩
  have hj : x j = x0 j := by rw [hx0]
  rw [← hx0]
  unfold fX8_feed at hf
  rcases if_out hf with ⟨c_1, hf⟩ | ⟨c_1, hf⟩
  · skip
    exact (frX8_feed_h18 j0 j1 v1 v2 v3 0 x hf).trans hj
  · skip
    rw [so_out hf]
    exact hj
theorem frX8_trim {v1 : Int32} {j : Nat} (j0 : j ≠ 99) {x z : XS} {r : Int32} (hf : fX8_trim v1 x = some (r, z)) : z j = x j := by
  obtain ⟨x0, hx0⟩ : ∃ y, y = x := ⟨_, rfl⟩
  have hj : x j = x0 j := by rw [hx0]
  rw [← hx0]
  unfold fX8_trim at hf
  obtain ⟨r_1, x_2, qr_1, hf⟩ := bd_out hf
  replace hj : x_2 j = x0 j := (frX8_in  qr_1).trans hj
  rcases if_outN hf with ⟨c_3, hf⟩ | ⟨c_3, hf⟩
  · skip
    obtain ⟨x_4, ex_4, hf⟩ := st_out hf
    replace hj : x_4 j = x0 j := (show x_4 j = x_2 j by rw [ex_4]; exact wr_ne (by omega)).trans hj
    rw [so_out hf]
    exact hj
  · skip
    rw [so_out hf]
    exact hj
theorem frX8_isLetter {v1 : Int32} {j : Nat}  {x z : XS} {r : Int32} (hf : fX8_isLetter v1 x = some (r, z)) : z j = x j := by
  obtain ⟨x0, hx0⟩ : ∃ y, y = x := ⟨_, rfl⟩
  have hj : x j = x0 j := by rw [hx0]
  rw [← hx0]
  unfold fX8_isLetter at hf
  rcases if_out hf with ⟨c_1, hf⟩ | ⟨c_1, hf⟩
  · skip
    rw [so_out hf]
    exact hj
  · skip
    obtain ⟨gg_2, hf⟩ := gd_out hf
    have ngg_2 := inb_lt gg_2
    rcases if_out hf with ⟨c_3, hf⟩ | ⟨c_3, hf⟩
    · skip
      rw [so_out hf]
      exact hj
    · skip
      obtain ⟨gg_4, hf⟩ := gd_out hf
      have ngg_4 := inb_lt gg_4
      rcases if_out hf with ⟨c_5, hf⟩ | ⟨c_5, hf⟩
      · skip
        rw [so_out hf]
        exact hj
      · skip
        rw [so_out hf]
        exact hj
theorem roX8_isLetter {v1 : Int32} {x z : XS} {r : Int32} (hf : fX8_isLetter v1 x = some (r, z)) : z = x := funext fun j => frX8_isLetter (j := j) hf
theorem frX8_isFigure {v1 : Int32} {j : Nat}  {x z : XS} {r : Int32} (hf : fX8_isFigure v1 x = some (r, z)) : z j = x j := by
  obtain ⟨x0, hx0⟩ : ∃ y, y = x := ⟨_, rfl⟩
  have hj : x j = x0 j := by rw [hx0]
  rw [← hx0]
  unfold fX8_isFigure at hf
  rcases if_out hf with ⟨c_1, hf⟩ | ⟨c_1, hf⟩
  · skip
    rw [so_out hf]
    exact hj
  · skip
    obtain ⟨gg_2, hf⟩ := gd_out hf
    have ngg_2 := inb_lt gg_2
    rcases if_out hf with ⟨c_3, hf⟩ | ⟨c_3, hf⟩
    · skip
      rw [so_out hf]
      exact hj
    · skip
      obtain ⟨gg_4, hf⟩ := gd_out hf
      have ngg_4 := inb_lt gg_4
      rcases if_out hf with ⟨c_5, hf⟩ | ⟨c_5, hf⟩
      · skip
        rw [so_out hf]
        exact hj
      · skip
        rw [so_out hf]
        exact hj
theorem roX8_isFigure {v1 : Int32} {x z : XS} {r : Int32} (hf : fX8_isFigure v1 x = some (r, z)) : z = x := funext fun j => frX8_isFigure (j := j) hf
theorem frX8_go_h127 {r : Unit} {z : XS} {j : Nat} (j0 : j ≠ 99) : ∀ (s1 : Int32) (x : XS), fX8_go_h127 s1 x = some (r, z) → z j = x j := by
  intro s1 x hf
  obtain ⟨x0, hx0⟩ : ∃ y, y = x := ⟨_, rfl⟩
  have hj : x j = x0 j := by rw [hx0]
  rw [← hx0]
  unfold fX8_go_h127 at hf
  obtain ⟨x_42, ex_42, hf⟩ := st_out hf
  replace hj : x_42 j = x0 j := (show x_42 j = x j by rw [ex_42]; exact wr_ne (by omega)).trans hj
  obtain ⟨gg_43, hf⟩ := gd_out hf
  have ngg_43 := inb_lt gg_43
  obtain ⟨x_44, ex_44, hf⟩ := st_out hf
  replace hj : x_44 j = x0 j := (show x_44 j = x_42 j by rw [ex_44]; exact wr_ne (by omega)).trans hj
  obtain ⟨x_45, ex_45, hf⟩ := st_out hf
  replace hj : x_45 j = x0 j := (show x_45 j = x_44 j by rw [ex_45]; exact wr_ne (by omega)).trans hj
  rw [so_out hf]
  exact hj
theorem frbX8_go_h93 {r : Unit} {z : XS} {j : Nat} (j0 : j ≠ 99) {k93 : Int32 → XS → Option (Unit × XS)} (hk93 : ∀ (u1 : Int32) (x : XS), k93 u1 x = some (r, z) → z j = x j) : ∀ (u1 : Int32) (x : XS), bX8_go_h93 k93 u1 x = some (r, z) → z j = x j := by
  intro u1 x hf
  obtain ⟨x0, hx0⟩ : ∃ y, y = x := ⟨_, rfl⟩
  have hj : x j = x0 j := by rw [hx0]
  rw [← hx0]
  unfold bX8_go_h93 at hf
  obtain ⟨r_37, x_38, qr_37, hf⟩ := bd_out hf
  replace hj : x_38 j = x0 j := (frX8_isLetter  qr_37).trans hj
  rcases if_out hf with ⟨c_39, hf⟩ | ⟨c_39, hf⟩
  · skip
    rcases if_out hf with ⟨c_40, hf⟩ | ⟨c_40, hf⟩
    · skip
      exact (frX8_go_h127 j0 1 x_38 hf).trans hj
    · skip
      exact (frX8_go_h127 j0 4 x_38 hf).trans hj
  · skip
    obtain ⟨x_41, ex_41, hf⟩ := st_out hf
    replace hj : x_41 j = x0 j := (show x_41 j = x_38 j by rw [ex_41]; exact wr_ne (by omega)).trans hj
    exact (hk93 u1 x_41 hf).trans hj
theorem frlX8_go_h93 {r : Unit} {z : XS} {j : Nat} (j0 : j ≠ 99) (n : Nat) : ∀ (u1 : Int32) (x : XS), lX8_go_h93 n u1 x = some (r, z) → z j = x j := by
  induction n with
  | zero => intro u1 x hf; exact absurd hf (by intro q; cases q)
  | succ n ih => exact frbX8_go_h93 j0 ih
theorem frX8_go_h93 {r : Unit} {z : XS} {j : Nat} (j0 : j ≠ 99) : ∀ (u1 : Int32) (x : XS), fX8_go_h93 u1 x = some (r, z) → z j = x j := frlX8_go_h93 j0 FU
theorem frbX8_go_h170 {r : Unit} {z : XS} {j : Nat} (j0 : j ≠ 99) {k170 : Int32 → XS → Option (Unit × XS)} (hk170 : ∀ (u1 : Int32) (x : XS), k170 u1 x = some (r, z) → z j = x j) : ∀ (u1 : Int32) (x : XS), bX8_go_h170 k170 u1 x = some (r, z) → z j = x j := by
  intro u1 x hf
  obtain ⟨x0, hx0⟩ : ∃ y, y = x := ⟨_, rfl⟩
  have hj : x j = x0 j := by rw [hx0]
  rw [← hx0]
  unfold bX8_go_h170 at hf
  obtain ⟨r_20, x_21, qr_20, hf⟩ := bd_out hf
  replace hj : x_21 j = x0 j := (frX8_isFigure  qr_20).trans hj
  rcases if_out hf with ⟨c_22, hf⟩ | ⟨c_22, hf⟩
  · skip
    rcases if_outN hf with ⟨c_23, hf⟩ | ⟨c_23, hf⟩
    · skip
      obtain ⟨x_24, ex_24, hf⟩ := st_out hf
      replace hj : x_24 j = x0 j := (show x_24 j = x_21 j by rw [ex_24]; exact wr_ne (by omega)).trans hj
      obtain ⟨x_25, ex_25, hf⟩ := st_out hf
      replace hj : x_25 j = x0 j := (show x_25 j = x_24 j by rw [ex_25]; exact wr_ne (by omega)).trans hj
      rw [so_out hf]
      exact hj
    · skip
      rcases if_out hf with ⟨c_26, hf⟩ | ⟨c_26, hf⟩
      · skip
        obtain ⟨x_27, ex_27, hf⟩ := st_out hf
        replace hj : x_27 j = x0 j := (show x_27 j = x_21 j by rw [ex_27]; exact wr_ne (by omega)).trans hj
        obtain ⟨x_28, ex_28, hf⟩ := st_out hf
        replace hj : x_28 j = x0 j := (show x_28 j = x_27 j by rw [ex_28]; exact wr_ne (by omega)).trans hj
        rw [so_out hf]
        exact hj
      · skip
        obtain ⟨x_29, ex_29, hf⟩ := st_out hf
        replace hj : x_29 j = x0 j := (show x_29 j = x_21 j by rw [ex_29]; exact wr_ne (by omega)).trans hj
        obtain ⟨x_30, ex_30, hf⟩ := st_out hf
        replace hj : x_30 j = x0 j := (show x_30 j = x_29 j by rw [ex_30]; exact wr_ne (by omega)).trans hj
        rw [so_out hf]
        exact hj
  · skip
    rcases if_out hf with ⟨c_31, hf⟩ | ⟨c_31, hf⟩
    · skip
      obtain ⟨x_32, ex_32, hf⟩ := st_out hf
      replace hj : x_32 j = x0 j := (show x_32 j = x_21 j by rw [ex_32]; exact wr_ne (by omega)).trans hj
      obtain ⟨x_33, ex_33, hf⟩ := st_out hf
      replace hj : x_33 j = x0 j := (show x_33 j = x_32 j by rw [ex_33]; exact wr_ne (by omega)).trans hj
      exact (hk170 u1 x_33 hf).trans hj
    · skip
      obtain ⟨gg_34, hf⟩ := gd_out hf
      have ngg_34 := inb_lt gg_34
      obtain ⟨x_35, ex_35, hf⟩ := st_out hf
      replace hj : x_35 j = x0 j := (show x_35 j = x_21 j by rw [ex_35]; exact wr_ne (by omega)).trans hj
      obtain ⟨x_36, ex_36, hf⟩ := st_out hf
      replace hj : x_36 j = x0 j := (show x_36 j = x_35 j by rw [ex_36]; exact wr_ne (by omega)).trans hj
      exact (hk170 u1 x_36 hf).trans hj
theorem frlX8_go_h170 {r : Unit} {z : XS} {j : Nat} (j0 : j ≠ 99) (n : Nat) : ∀ (u1 : Int32) (x : XS), lX8_go_h170 n u1 x = some (r, z) → z j = x j := by
  induction n with
  | zero => intro u1 x hf; exact absurd hf (by intro q; cases q)
  | succ n ih => exact frbX8_go_h170 j0 ih
theorem frX8_go_h170 {r : Unit} {z : XS} {j : Nat} (j0 : j ≠ 99) : ∀ (u1 : Int32) (x : XS), fX8_go_h170 u1 x = some (r, z) → z j = x j := frlX8_go_h170 j0 FU
theorem frX8_go_h62 {r : Unit} {z : XS} {j : Nat} (j0 : j ≠ 99) : ∀ (s0 : Int32) (x : XS), fX8_go_h62 s0 x = some (r, z) → z j = x j := by
  intro s0 x hf
  obtain ⟨x0, hx0⟩ : ∃ y, y = x := ⟨_, rfl⟩
  have hj : x j = x0 j := by rw [hx0]
  rw [← hx0]
  unfold fX8_go_h62 at hf
  rcases if_outN hf with ⟨c_7, hf⟩ | ⟨c_7, hf⟩
  · skip
    obtain ⟨r_8, x_9, qr_8, hf⟩ := bd_out hf
    replace hj : x_9 j = x0 j := (frX8_isLetter  qr_8).trans hj
    rcases if_out hf with ⟨c_10, hf⟩ | ⟨c_10, hf⟩
    · skip
      obtain ⟨r_11, x_12, qr_11, hf⟩ := bd_out hf
      replace hj : x_12 j = x0 j := (frX8_isFigure  qr_11).trans hj
      rcases if_out hf with ⟨c_13, hf⟩ | ⟨c_13, hf⟩
      · skip
        obtain ⟨x_14, ex_14, hf⟩ := st_out hf
        replace hj : x_14 j = x0 j := (show x_14 j = x_12 j by rw [ex_14]; exact wr_ne (by omega)).trans hj
        obtain ⟨gg_15, hf⟩ := gd_out hf
        have ngg_15 := inb_lt gg_15
        obtain ⟨x_16, ex_16, hf⟩ := st_out hf
        replace hj : x_16 j = x0 j := (show x_16 j = x_14 j by rw [ex_16]; exact wr_ne (by omega)).trans hj
        obtain ⟨x_17, ex_17, hf⟩ := st_out hf
        replace hj : x_17 j = x0 j := (show x_17 j = x_16 j by rw [ex_17]; exact wr_ne (by omega)).trans hj
        rw [so_out hf]
        exact hj
      · skip
        obtain ⟨x_18, ex_18, hf⟩ := st_out hf
        replace hj : x_18 j = x0 j := (show x_18 j = x_12 j by rw [ex_18]; exact wr_ne (by omega)).trans hj
        exact (frX8_go_h170 j0 s0 x_18 hf).trans hj
    · skip
      exact (frX8_go_h93 j0 s0 x_9 hf).trans hj
  · skip
    obtain ⟨x_19, ex_19, hf⟩ := st_out hf
    replace hj : x_19 j = x0 j := (show x_19 j = x j by rw [ex_19]; exact wr_ne (by omega)).trans hj
    rw [so_out hf]
    exact hj
theorem frX8_go_h38 {r : Unit} {z : XS} {j : Nat} (j0 : j ≠ 99) : ∀ (x : XS), fX8_go_h38 x = some (r, z) → z j = x j := by
  intro x hf
  obtain ⟨x0, hx0⟩ : ∃ y, y = x := ⟨_, rfl⟩
  have hj : x j = x0 j := by rw [hx0]
  rw [← hx0]
  unfold fX8_go_h38 at hf
  obtain ⟨x_5, ex_5, hf⟩ := st_out hf
  replace hj : x_5 j = x0 j := (show x_5 j = x j by rw [ex_5]; exact wr_ne (by omega)).trans hj
  rcases if_outN hf with ⟨c_6, hf⟩ | ⟨c_6, hf⟩
  · skip
    exact (frX8_go_h62 j0 0 x_5 hf).trans hj
  · skip
    exact (frX8_go_h62 j0 1 x_5 hf).trans hj
theorem frbX8_go_h0 {r : Unit} {z : XS} {j : Nat} (j0 : j ≠ 99) {k0 : XS → Option (Unit × XS)} (hk0 : ∀ (x : XS), k0 x = some (r, z) → z j = x j) : ∀ (x : XS), bX8_go_h0 k0 x = some (r, z) → z j = x j := by
  intro x hf
  obtain ⟨x0, hx0⟩ : ∃ y, y = x := ⟨_, rfl⟩
  have hj : x j = x0 j := by rw [hx0]
  rw [← hx0]
  unfold bX8_go_h0 at hf
  rcases if_out hf with ⟨c_1, hf⟩ | ⟨c_1, hf⟩
  · skip
    exact (frX8_go_h38 j0 x hf).trans hj
  · skip
    obtain ⟨gg_2, hf⟩ := gd_out hf
    have ngg_2 := inb_lt gg_2
    rcases if_outN hf with ⟨c_3, hf⟩ | ⟨c_3, hf⟩
    · skip
      exact (frX8_go_h38 j0 x hf).trans hj
    · skip
      obtain ⟨x_4, ex_4, hf⟩ := st_out hf
      replace hj : x_4 j = x0 j := (show x_4 j = x j by rw [ex_4]; exact wr_ne (by omega)).trans hj
      exact (hk0 x_4 hf).trans hj
theorem frlX8_go_h0 {r : Unit} {z : XS} {j : Nat} (j0 : j ≠ 99) (n : Nat) : ∀ (x : XS), lX8_go_h0 n x = some (r, z) → z j = x j := by
  induction n with
  | zero => intro x hf; exact absurd hf (by intro q; cases q)
  | succ n ih => exact frbX8_go_h0 j0 ih
theorem frX8_go_h0 {r : Unit} {z : XS} {j : Nat} (j0 : j ≠ 99) : ∀ (x : XS), fX8_go_h0 x = some (r, z) → z j = x j := frlX8_go_h0 j0 FU
theorem frX8_go {j : Nat} (j0 : j ≠ 99) {x z : XS} {r : Unit} (hf : fX8_go x = some (r, z)) : z j = x j := by
  obtain ⟨x0, hx0⟩ : ∃ y, y = x := ⟨_, rfl⟩
  have hj : x j = x0 j := by rw [hx0]
  rw [← hx0]
  unfold fX8_go at hf
  exact (frX8_go_h0 j0 x hf).trans hj
theorem frX8_takesKey_h106 {r : Int32} {z : XS} {j : Nat} (j0 : j ≠ 99) {k12 : Int32 → XS → Option (Int32 × XS)} (hk12 : ∀ (u1 : Int32) (x : XS), k12 u1 x = some (r, z) → z j = x j) : ∀ (u1 : Int32) (u3 : Int32) (x : XS), fX8_takesKey_h106 k12 u1 u3 x = some (r, z) → z j = x j := by
  intro u1 u3 x hf
  obtain ⟨x0, hx0⟩ : ∃ y, y = x := ⟨_, rfl⟩
  have hj : x j = x0 j := by rw [hx0]
  rw [← hx0]
  unfold fX8_takesKey_h106 at hf
  rcases if_out hf with ⟨c_15, hf⟩ | ⟨c_15, hf⟩
  · skip
    obtain ⟨v_16, ev_16, hf⟩ := st_out hf
    exact (hk12 v_16 x hf).trans hj
  · skip
    obtain ⟨x_17, ex_17, hf⟩ := st_out hf
    replace hj : x_17 j = x0 j := (show x_17 j = x j by rw [ex_17]; exact wr_ne (by omega)).trans hj
    obtain ⟨r_18, x_19, qr_18, hf⟩ := bd_out hf
    replace hj : x_19 j = x0 j := (frX8_go (by omega) qr_18).trans hj
    rw [so_out hf]
    exact hj
theorem frbX8_takesKey_h55 {r : Int32} {z : XS} {j : Nat} (j0 : j ≠ 99) {k12 : Int32 → XS → Option (Int32 × XS)} {k55 : Int32 → Int32 → Int32 → Int32 → XS → Option (Int32 × XS)} (hk12 : ∀ (u1 : Int32) (x : XS), k12 u1 x = some (r, z) → z j = x j) (hk55 : ∀ (u1 : Int32) (u2 : Int32) (u3 : Int32) (u4 : Int32) (x : XS), k55 u1 u2 u3 u4 x = some (r, z) → z j = x j) : ∀ (u1 : Int32) (u2 : Int32) (u3 : Int32) (u4 : Int32) (x : XS), bX8_takesKey_h55 k12 k55 u1 u2 u3 u4 x = some (r, z) → z j = x j := by
  intro u1 u2 u3 u4 x hf
  obtain ⟨x0, hx0⟩ : ∃ y, y = x := ⟨_, rfl⟩
  have hj : x j = x0 j := by rw [hx0]
  rw [← hx0]
  unfold bX8_takesKey_h55 at hf
  rcases if_out hf with ⟨c_7, hf⟩ | ⟨c_7, hf⟩
  · skip
    exact (frX8_takesKey_h106 j0 hk12 u1 u3 x hf).trans hj
  · skip
    rcases if_out hf with ⟨c_8, hf⟩ | ⟨c_8, hf⟩
    · skip
      exact (frX8_takesKey_h106 j0 hk12 u1 u3 x hf).trans hj
    · skip
      obtain ⟨gg_9, hf⟩ := gd_out hf
      have ngg_9 := inb_lt gg_9
      obtain ⟨gg_10, hf⟩ := gd_out hf
      have ngg_10 := inb_lt gg_10
      obtain ⟨gg_11, hf⟩ := gd_out hf
      have ngg_11 := inb_lt gg_11
      rcases if_outN hf with ⟨c_12, hf⟩ | ⟨c_12, hf⟩
      · skip
        obtain ⟨v_13, ev_13, hf⟩ := st_out hf
        exact (hk55 u1 u2 0 v_13 x hf).trans hj
      · skip
        obtain ⟨v_14, ev_14, hf⟩ := st_out hf
        exact (hk55 u1 u2 1 v_14 x hf).trans hj
theorem frlX8_takesKey_h55 {r : Int32} {z : XS} {j : Nat} (j0 : j ≠ 99) {k12 : Int32 → XS → Option (Int32 × XS)} (hk12 : ∀ (u1 : Int32) (x : XS), k12 u1 x = some (r, z) → z j = x j) (n : Nat) : ∀ (u1 : Int32) (u2 : Int32) (u3 : Int32) (u4 : Int32) (x : XS), lX8_takesKey_h55 k12 n u1 u2 u3 u4 x = some (r, z) → z j = x j := by
  induction n with
  | zero => intro u1 u2 u3 u4 x hf; exact absurd hf (by intro q; cases q)
  | succ n ih => exact frbX8_takesKey_h55 j0 hk12 ih
theorem frX8_takesKey_h55 {r : Int32} {z : XS} {j : Nat} (j0 : j ≠ 99) {k12 : Int32 → XS → Option (Int32 × XS)} (hk12 : ∀ (u1 : Int32) (x : XS), k12 u1 x = some (r, z) → z j = x j) : ∀ (u1 : Int32) (u2 : Int32) (u3 : Int32) (u4 : Int32) (x : XS), fX8_takesKey_h55 k12 u1 u2 u3 u4 x = some (r, z) → z j = x j := frlX8_takesKey_h55 j0 hk12 FU
theorem frbX8_takesKey_h12 {r : Int32} {z : XS} {j : Nat} (j0 : j ≠ 99) {k12 : Int32 → XS → Option (Int32 × XS)} (hk12 : ∀ (u1 : Int32) (x : XS), k12 u1 x = some (r, z) → z j = x j) : ∀ (u1 : Int32) (x : XS), bX8_takesKey_h12 k12 u1 x = some (r, z) → z j = x j := by
  intro u1 x hf
  obtain ⟨x0, hx0⟩ : ∃ y, y = x := ⟨_, rfl⟩
  have hj : x j = x0 j := by rw [hx0]
  rw [← hx0]
  unfold bX8_takesKey_h12 at hf
  rcases if_out hf with ⟨c_2, hf⟩ | ⟨c_2, hf⟩
  · skip
    rw [so_out hf]
    exact hj
  · skip
    obtain ⟨gg_3, hf⟩ := gd_out hf
    have ngg_3 := inb_lt gg_3
    obtain ⟨gg_4, hf⟩ := gd_out hf
    have ngg_4 := inb_lt gg_4
    obtain ⟨v_5, ev_5, hf⟩ := st_out hf
    rcases if_outN hf with ⟨c_6, hf⟩ | ⟨c_6, hf⟩
    · skip
      exact (frX8_takesKey_h55 j0 hk12 u1 v_5 0 0 x hf).trans hj
    · skip
      exact (frX8_takesKey_h55 j0 hk12 u1 v_5 1 0 x hf).trans hj
theorem frlX8_takesKey_h12 {r : Int32} {z : XS} {j : Nat} (j0 : j ≠ 99) (n : Nat) : ∀ (u1 : Int32) (x : XS), lX8_takesKey_h12 n u1 x = some (r, z) → z j = x j := by
  induction n with
  | zero => intro u1 x hf; exact absurd hf (by intro q; cases q)
  | succ n ih => exact frbX8_takesKey_h12 j0 ih
theorem frX8_takesKey_h12 {r : Int32} {z : XS} {j : Nat} (j0 : j ≠ 99) : ∀ (u1 : Int32) (x : XS), fX8_takesKey_h12 u1 x = some (r, z) → z j = x j := frlX8_takesKey_h12 j0 FU
theorem frX8_takesKey {j : Nat} (j0 : j ≠ 99) {x z : XS} {r : Int32} (hf : fX8_takesKey x = some (r, z)) : z j = x j := by
  obtain ⟨x0, hx0⟩ : ∃ y, y = x := ⟨_, rfl⟩
  have hj : x j = x0 j := by rw [hx0]
  rw [← hx0]
  unfold fX8_takesKey at hf
  rcases if_out hf with ⟨c_1, hf⟩ | ⟨c_1, hf⟩
  · skip
    exact (frX8_takesKey_h12 j0 0 x hf).trans hj
  · skip
    rw [so_out hf]
    exact hj
theorem frX8_nameOf {v1 : Int32} {j : Nat}  {x z : XS} {r : Int32} (hf : fX8_nameOf v1 x = some (r, z)) : z j = x j := by
  obtain ⟨x0, hx0⟩ : ∃ y, y = x := ⟨_, rfl⟩
  have hj : x j = x0 j := by rw [hx0]
  rw [← hx0]
  unfold fX8_nameOf at hf
  obtain ⟨v_1, ev_1, hf⟩ := st_out hf
  by_cases c_2 : v_1 = 0
  · replace hf := if_p c_2 hf
    rcases if_outN hf with ⟨c_3, hf⟩ | ⟨c_3, hf⟩
    · skip
      rcases if_outN hf with ⟨c_4, hf⟩ | ⟨c_4, hf⟩
      · skip
        rcases if_outN hf with ⟨c_5, hf⟩ | ⟨c_5, hf⟩
        · skip
          rw [so_out hf]
          exact hj
        · skip
          rw [so_out hf]
          exact hj
      · skip
        rw [so_out hf]
        exact hj
    · skip
      rw [so_out hf]
      exact hj
  · replace hf := if_n c_2 hf
    by_cases c_6 : v_1 = 1
    · replace hf := if_p c_6 hf
      rcases if_outN hf with ⟨c_7, hf⟩ | ⟨c_7, hf⟩
      · skip
        rcases if_outN hf with ⟨c_8, hf⟩ | ⟨c_8, hf⟩
        · skip
          rw [so_out hf]
          exact hj
        · skip
          rw [so_out hf]
          exact hj
      · skip
        rw [so_out hf]
        exact hj
    · replace hf := if_n c_6 hf
      rcases if_outN hf with ⟨c_9, hf⟩ | ⟨c_9, hf⟩
      · skip
        rcases if_outN hf with ⟨c_10, hf⟩ | ⟨c_10, hf⟩
        · skip
          rw [so_out hf]
          exact hj
        · skip
          rw [so_out hf]
          exact hj
      · skip
        rw [so_out hf]
        exact hj
theorem roX8_nameOf {v1 : Int32} {x z : XS} {r : Int32} (hf : fX8_nameOf v1 x = some (r, z)) : z = x := funext fun j => frX8_nameOf (j := j) hf
theorem frX8_rank {v0 : Int32} {j : Nat}  {x z : XS} {r : Int32} (hf : fX8_rank v0 x = some (r, z)) : z j = x j := by
  obtain ⟨x0, hx0⟩ : ∃ y, y = x := ⟨_, rfl⟩
  have hj : x j = x0 j := by rw [hx0]
  rw [← hx0]
  unfold fX8_rank at hf
  rcases if_outN hf with ⟨c_1, hf⟩ | ⟨c_1, hf⟩
  · skip
    rcases if_outN hf with ⟨c_2, hf⟩ | ⟨c_2, hf⟩
    · skip
      rcases if_out hf with ⟨c_3, hf⟩ | ⟨c_3, hf⟩
      · skip
        rcases if_out hf with ⟨c_4, hf⟩ | ⟨c_4, hf⟩
        · skip
          rcases if_out hf with ⟨c_5, hf⟩ | ⟨c_5, hf⟩
          · skip
            rw [so_out hf]
            exact hj
          · skip
            rw [so_out hf]
            exact hj
        · skip
          rw [so_out hf]
          exact hj
      · skip
        rw [so_out hf]
        exact hj
    · skip
      rw [so_out hf]
      exact hj
  · skip
    rw [so_out hf]
    exact hj
theorem roX8_rank {v0 : Int32} {x z : XS} {r : Int32} (hf : fX8_rank v0 x = some (r, z)) : z = x := funext fun j => frX8_rank (j := j) hf
theorem frbX8_settle_h0 {r : Unit} {z : XS} {j : Nat} (j0 : j ≠ 99) (j1 : j ≠ 107) {k0 : Int32 → XS → Option (Unit × XS)} (hk0 : ∀ (u1 : Int32) (x : XS), k0 u1 x = some (r, z) → z j = x j) : ∀ (u1 : Int32) (x : XS), bX8_settle_h0 k0 u1 x = some (r, z) → z j = x j := by
  intro u1 x hf
  obtain ⟨x0, hx0⟩ : ∃ y, y = x := ⟨_, rfl⟩
  have hj : x j = x0 j := by rw [hx0]
  rw [← hx0]
  unfold bX8_settle_h0 at hf
  rcases if_out hf with ⟨c_1, hf⟩ | ⟨c_1, hf⟩
  · skip
    rw [so_out hf]
    exact hj
  · skip
    obtain ⟨gg_2, hf⟩ := gd_out hf
    have ngg_2 := inb_lt gg_2
    rcases if_out hf with ⟨c_3, hf⟩ | ⟨c_3, hf⟩
    · skip
      rw [so_out hf]
      exact hj
    · skip
      obtain ⟨gg_4, hf⟩ := gd_out hf
      have ngg_4 := inb_lt gg_4
      obtain ⟨r_5, x_6, qr_5, hf⟩ := bd_out hf
      replace hj : x_6 j = x0 j := (frX8_rank  qr_5).trans hj
      rcases if_out hf with ⟨c_7, hf⟩ | ⟨c_7, hf⟩
      · skip
        rw [so_out hf]
        exact hj
      · skip
        obtain ⟨x_8, ex_8, hf⟩ := st_out hf
        replace hj : x_8 j = x0 j := (show x_8 j = x_6 j by rw [ex_8]; exact wr_ne (by omega)).trans hj
        obtain ⟨gg_9, hf⟩ := gd_out hf
        have ngg_9 := inb_lt gg_9
        obtain ⟨gg_10, hf⟩ := gd_out hf
        have ngg_10 := inb_lt gg_10
        obtain ⟨x_11, ex_11, hf⟩ := st_out hf
        replace hj : x_11 j = x0 j := (show x_11 j = x_8 j by rw [ex_11]; exact wr_ne (by omega)).trans hj
        obtain ⟨x_12, ex_12, hf⟩ := st_out hf
        replace hj : x_12 j = x0 j := (show x_12 j = x_11 j by rw [ex_12]; exact wr_ne (by omega)).trans hj
        exact (hk0 u1 x_12 hf).trans hj
theorem frlX8_settle_h0 {r : Unit} {z : XS} {j : Nat} (j0 : j ≠ 99) (j1 : j ≠ 107) (n : Nat) : ∀ (u1 : Int32) (x : XS), lX8_settle_h0 n u1 x = some (r, z) → z j = x j := by
  induction n with
  | zero => intro u1 x hf; exact absurd hf (by intro q; cases q)
  | succ n ih => exact frbX8_settle_h0 j0 j1 ih
theorem frX8_settle_h0 {r : Unit} {z : XS} {j : Nat} (j0 : j ≠ 99) (j1 : j ≠ 107) : ∀ (u1 : Int32) (x : XS), fX8_settle_h0 u1 x = some (r, z) → z j = x j := frlX8_settle_h0 j0 j1 FU
theorem frX8_settle {v1 : Int32} {j : Nat} (j0 : j ≠ 99) (j1 : j ≠ 107) {x z : XS} {r : Unit} (hf : fX8_settle v1 x = some (r, z)) : z j = x j := by
  obtain ⟨x0, hx0⟩ : ∃ y, y = x := ⟨_, rfl⟩
  have hj : x j = x0 j := by rw [hx0]
  rw [← hx0]
  unfold fX8_settle at hf
  exact (frX8_settle_h0 j0 j1 v1 x hf).trans hj
theorem frX8_signHere {j : Nat}  {x z : XS} {r : Int32} (hf : fX8_signHere x = some (r, z)) : z j = x j := by
  obtain ⟨x0, hx0⟩ : ∃ y, y = x := ⟨_, rfl⟩
  have hj : x j = x0 j := by rw [hx0]
  rw [← hx0]
  unfold fX8_signHere at hf
  rcases if_out hf with ⟨c_1, hf⟩ | ⟨c_1, hf⟩
  · skip
    obtain ⟨v_2, ev_2, hf⟩ := st_out hf
    by_cases c_3 : v_2 = 38
    · replace hf := if_p c_3 hf
      rw [so_out hf]
      exact hj
    · replace hf := if_n c_3 hf
      by_cases c_4 : v_2 = 42
      · replace hf := if_p c_4 hf
        rw [so_out hf]
        exact hj
      · replace hf := if_n c_4 hf
        by_cases c_5 : v_2 = 43
        · replace hf := if_p c_5 hf
          rw [so_out hf]
          exact hj
        · replace hf := if_n c_5 hf
          by_cases c_6 : v_2 = 45
          · replace hf := if_p c_6 hf
            rw [so_out hf]
            exact hj
          · replace hf := if_n c_6 hf
            by_cases c_7 : v_2 = 47
            · replace hf := if_p c_7 hf
              rw [so_out hf]
              exact hj
            · replace hf := if_n c_7 hf
              by_cases c_8 : v_2 = 60
              · replace hf := if_p c_8 hf
                rw [so_out hf]
                exact hj
              · replace hf := if_n c_8 hf
                by_cases c_9 : v_2 = 61
                · replace hf := if_p c_9 hf
                  rw [so_out hf]
                  exact hj
                · replace hf := if_n c_9 hf
                  by_cases c_10 : v_2 = 62
                  · replace hf := if_p c_10 hf
                    rw [so_out hf]
                    exact hj
                  · replace hf := if_n c_10 hf
                    by_cases c_11 : v_2 = 124
                    · replace hf := if_p c_11 hf
                      rw [so_out hf]
                      exact hj
                    · replace hf := if_n c_11 hf
                      rw [so_out hf]
                      exact hj
  · skip
    rw [so_out hf]
    exact hj
theorem roX8_signHere {x z : XS} {r : Int32} (hf : fX8_signHere x = some (r, z)) : z = x := funext fun j => frX8_signHere (j := j) hf
theorem frX8_takesPart_h87 {r : Int32} {z : XS} {j : Nat} (j0 : j ≠ 107) (j1 : j ≠ 99) : ∀ (s1 : Int32) (s2 : Int32) (x : XS), fX8_takesPart_h87 s1 s2 x = some (r, z) → z j = x j := by
  intro s1 s2 x hf
  obtain ⟨x0, hx0⟩ : ∃ y, y = x := ⟨_, rfl⟩
  have hj : x j = x0 j := by rw [hx0]
  rw [← hx0]
  unfold fX8_takesPart_h87 at hf
  obtain ⟨gg_11, hf⟩ := gd_out hf
  have ngg_11 := inb_lt gg_11
  obtain ⟨x_12, ex_12, hf⟩ := st_out hf
  replace hj : x_12 j = x0 j := (show x_12 j = x j by rw [ex_12]; exact wr_ne (by omega)).trans hj
  obtain ⟨x_13, ex_13, hf⟩ := st_out hf
  replace hj : x_13 j = x0 j := (show x_13 j = x_12 j by rw [ex_13]; exact wr_ne (by omega)).trans hj
  obtain ⟨x_14, ex_14, hf⟩ := st_out hf
  replace hj : x_14 j = x0 j := (show x_14 j = x_13 j by rw [ex_14]; exact wr_ne (by omega)).trans hj
  obtain ⟨r_15, x_16, qr_15, hf⟩ := bd_out hf
  replace hj : x_16 j = x0 j := (frX8_settle (by omega) (by omega) qr_15).trans hj
  obtain ⟨r_17, x_18, qr_17, hf⟩ := bd_out hf
  replace hj : x_18 j = x0 j := (frX8_go (by omega) qr_17).trans hj
  rw [so_out hf]
  exact hj
theorem frX8_takesPart_h52 {r : Int32} {z : XS} {j : Nat} (j0 : j ≠ 107) (j1 : j ≠ 99) : ∀ (x : XS), fX8_takesPart_h52 x = some (r, z) → z j = x j := by
  intro x hf
  obtain ⟨x0, hx0⟩ : ∃ y, y = x := ⟨_, rfl⟩
  have hj : x j = x0 j := by rw [hx0]
  rw [← hx0]
  unfold fX8_takesPart_h52 at hf
  rcases if_outN hf with ⟨c_8, hf⟩ | ⟨c_8, hf⟩
  · skip
    obtain ⟨r_9, x_10, qr_9, hf⟩ := bd_out hf
    replace hj : x_10 j = x0 j := (frX8_nameOf  qr_9).trans hj
    exact (frX8_takesPart_h87 j0 j1 (x 99 17) (10000 + r_9) x_10 hf).trans hj
  · skip
    exact (frX8_takesPart_h87 j0 j1 (x 99 17) (x 99 11) x hf).trans hj
theorem frX8_takesPart_h37 {r : Int32} {z : XS} {j : Nat} (j0 : j ≠ 107) (j1 : j ≠ 99) : ∀ (s0 : Int32) (x : XS), fX8_takesPart_h37 s0 x = some (r, z) → z j = x j := by
  intro s0 x hf
  obtain ⟨x0, hx0⟩ : ∃ y, y = x := ⟨_, rfl⟩
  have hj : x j = x0 j := by rw [hx0]
  rw [← hx0]
  unfold fX8_takesPart_h37 at hf
  rcases if_out hf with ⟨c_6, hf⟩ | ⟨c_6, hf⟩
  · skip
    exact (frX8_takesPart_h52 j0 j1 x hf).trans hj
  · skip
    rcases if_outN hf with ⟨c_7, hf⟩ | ⟨c_7, hf⟩
    · skip
      exact (frX8_takesPart_h52 j0 j1 x hf).trans hj
    · skip
      rw [so_out hf]
      exact hj
theorem frX8_takesPart {j : Nat} (j0 : j ≠ 107) (j1 : j ≠ 99) {x z : XS} {r : Int32} (hf : fX8_takesPart x = some (r, z)) : z j = x j := by
  obtain ⟨x0, hx0⟩ : ∃ y, y = x := ⟨_, rfl⟩
  have hj : x j = x0 j := by rw [hx0]
  rw [← hx0]
  unfold fX8_takesPart at hf
  rcases if_outN hf with ⟨c_1, hf⟩ | ⟨c_1, hf⟩
  · skip
    exact (frX8_takesPart_h37 j0 j1 0 x hf).trans hj
  · skip
    rcases if_outN hf with ⟨c_2, hf⟩ | ⟨c_2, hf⟩
    · skip
      exact (frX8_takesPart_h37 j0 j1 0 x hf).trans hj
    · skip
      obtain ⟨r_3, x_4, qr_3, hf⟩ := bd_out hf
      replace hj : x_4 j = x0 j := (frX8_nameOf  qr_3).trans hj
      rcases if_out hf with ⟨c_5, hf⟩ | ⟨c_5, hf⟩
      · skip
        exact (frX8_takesPart_h37 j0 j1 0 x_4 hf).trans hj
      · skip
        exact (frX8_takesPart_h37 j0 j1 1 x_4 hf).trans hj
theorem frbX8_notsOpen_h4 {r : Int32} {z : XS} {j : Nat}  {k4 : Int32 → Int32 → XS → Option (Int32 × XS)} (hk4 : ∀ (u1 : Int32) (u2 : Int32) (x : XS), k4 u1 u2 x = some (r, z) → z j = x j) : ∀ (u1 : Int32) (u2 : Int32) (x : XS), bX8_notsOpen_h4 k4 u1 u2 x = some (r, z) → z j = x j := by
  intro u1 u2 x hf
  obtain ⟨x0, hx0⟩ : ∃ y, y = x := ⟨_, rfl⟩
  have hj : x j = x0 j := by rw [hx0]
  rw [← hx0]
  unfold bX8_notsOpen_h4 at hf
  rcases if_out hf with ⟨c_1, hf⟩ | ⟨c_1, hf⟩
  · skip
    rw [so_out hf]
    exact hj
  · skip
    obtain ⟨gg_2, hf⟩ := gd_out hf
    have ngg_2 := inb_lt gg_2
    rcases if_outN hf with ⟨c_3, hf⟩ | ⟨c_3, hf⟩
    · skip
      obtain ⟨v_4, ev_4, hf⟩ := st_out hf
      obtain ⟨v_5, ev_5, hf⟩ := st_out hf
      exact (hk4 v_4 v_5 x hf).trans hj
    · skip
      obtain ⟨v_6, ev_6, hf⟩ := st_out hf
      obtain ⟨v_7, ev_7, hf⟩ := st_out hf
      exact (hk4 v_6 v_7 x hf).trans hj
theorem frlX8_notsOpen_h4 {r : Int32} {z : XS} {j : Nat}  (n : Nat) : ∀ (u1 : Int32) (u2 : Int32) (x : XS), lX8_notsOpen_h4 n u1 u2 x = some (r, z) → z j = x j := by
  induction n with
  | zero => intro u1 u2 x hf; exact absurd hf (by intro q; cases q)
  | succ n ih => exact frbX8_notsOpen_h4  ih
theorem frX8_notsOpen_h4 {r : Int32} {z : XS} {j : Nat}  : ∀ (u1 : Int32) (u2 : Int32) (x : XS), fX8_notsOpen_h4 u1 u2 x = some (r, z) → z j = x j := frlX8_notsOpen_h4  FU
theorem frX8_notsOpen {j : Nat}  {x z : XS} {r : Int32} (hf : fX8_notsOpen x = some (r, z)) : z j = x j := by
  obtain ⟨x0, hx0⟩ : ∃ y, y = x := ⟨_, rfl⟩
  have hj : x j = x0 j := by rw [hx0]
  rw [← hx0]
  unfold fX8_notsOpen at hf
  exact (frX8_notsOpen_h4 0 0 x hf).trans hj
theorem roX8_notsOpen {x z : XS} {r : Int32} (hf : fX8_notsOpen x = some (r, z)) : z = x := funext fun j => frX8_notsOpen (j := j) hf
theorem frX8_takesE_h172 {r : Int32} {z : XS} {j : Nat} (j0 : j ≠ 99) (j1 : j ≠ 109) (j2 : j ≠ 108) (j3 : j ≠ 107) {k28 : Int32 → Int32 → Int32 → XS → Option (Int32 × XS)} (hk28 : ∀ (u1 : Int32) (u2 : Int32) (u3 : Int32) (x : XS), k28 u1 u2 u3 x = some (r, z) → z j = x j) : ∀ (u1 : Int32) (u3 : Int32) (x : XS), fX8_takesE_h172 k28 u1 u3 x = some (r, z) → z j = x j := by
  intro u1 u3 x hf
  obtain ⟨x0, hx0⟩ : ∃ y, y = x := ⟨_, rfl⟩
  have hj : x j = x0 j := by rw [hx0]
  rw [← hx0]
  unfold fX8_takesE_h172 at hf
  obtain ⟨r_53, x_54, qr_53, hf⟩ := bd_out hf
  replace hj : x_54 j = x0 j := (frX8_notsOpen  qr_53).trans hj
  exact (hk28 u1 r_53 u3 x_54 hf).trans hj
theorem frX8_takesE_h158 {r : Int32} {z : XS} {j : Nat} (j0 : j ≠ 99) (j1 : j ≠ 109) (j2 : j ≠ 108) (j3 : j ≠ 107) {k28 : Int32 → Int32 → Int32 → XS → Option (Int32 × XS)} (hk28 : ∀ (u1 : Int32) (u2 : Int32) (u3 : Int32) (x : XS), k28 u1 u2 u3 x = some (r, z) → z j = x j) : ∀ (u1 : Int32) (x : XS), fX8_takesE_h158 k28 u1 x = some (r, z) → z j = x j := by
  intro u1 x hf
  obtain ⟨x0, hx0⟩ : ∃ y, y = x := ⟨_, rfl⟩
  have hj : x j = x0 j := by rw [hx0]
  rw [← hx0]
  unfold fX8_takesE_h158 at hf
  obtain ⟨r_63, x_64, qr_63, hf⟩ := bd_out hf
  replace hj : x_64 j = x0 j := (frX8_takesPart (by omega) (by omega) qr_63).trans hj
  rcases if_out hf with ⟨c_65, hf⟩ | ⟨c_65, hf⟩
  · skip
    rw [so_out hf]
    exact hj
  · skip
    exact (frX8_takesE_h172 j0 j1 j2 j3 hk28 u1 0 x_64 hf).trans hj
theorem frX8_takesE_h97 {r : Int32} {z : XS} {j : Nat} (j0 : j ≠ 99) (j1 : j ≠ 109) (j2 : j ≠ 108) (j3 : j ≠ 107) {k28 : Int32 → Int32 → Int32 → XS → Option (Int32 × XS)} (hk28 : ∀ (u1 : Int32) (u2 : Int32) (u3 : Int32) (x : XS), k28 u1 u2 u3 x = some (r, z) → z j = x j) : ∀ (u1 : Int32) (u3 : Int32) (x : XS), fX8_takesE_h97 k28 u1 u3 x = some (r, z) → z j = x j := by
  intro u1 u3 x hf
  obtain ⟨x0, hx0⟩ : ∃ y, y = x := ⟨_, rfl⟩
  have hj : x j = x0 j := by rw [hx0]
  rw [← hx0]
  unfold fX8_takesE_h97 at hf
  rcases if_outN hf with ⟨c_42, hf⟩ | ⟨c_42, hf⟩
  · skip
    exact (frX8_takesE_h158 j0 j1 j2 j3 hk28 u1 x hf).trans hj
  · skip
    rcases if_outN hf with ⟨c_43, hf⟩ | ⟨c_43, hf⟩
    · skip
      exact (frX8_takesE_h158 j0 j1 j2 j3 hk28 u1 x hf).trans hj
    · skip
      rcases if_out hf with ⟨c_44, hf⟩ | ⟨c_44, hf⟩
      · skip
        exact (frX8_takesE_h158 j0 j1 j2 j3 hk28 u1 x hf).trans hj
      · skip
        obtain ⟨gg_45, hf⟩ := gd_out hf
        have ngg_45 := inb_lt gg_45
        obtain ⟨x_46, ex_46, hf⟩ := st_out hf
        replace hj : x_46 j = x0 j := (show x_46 j = x j by rw [ex_46]; exact wr_ne (by omega)).trans hj
        obtain ⟨x_47, ex_47, hf⟩ := st_out hf
        replace hj : x_47 j = x0 j := (show x_47 j = x_46 j by rw [ex_47]; exact wr_ne (by omega)).trans hj
        obtain ⟨v_48, ev_48, hf⟩ := st_out hf
        obtain ⟨gg_49, hf⟩ := gd_out hf
        have ngg_49 := inb_lt gg_49
        obtain ⟨x_50, ex_50, hf⟩ := st_out hf
        replace hj : x_50 j = x0 j := (show x_50 j = x_47 j by rw [ex_50]; exact wr_ne (by omega)).trans hj
        obtain ⟨r_51, x_52, qr_51, hf⟩ := bd_out hf
        replace hj : x_52 j = x0 j := (frX8_go (by omega) qr_51).trans hj
        exact (frX8_takesE_h172 j0 j1 j2 j3 hk28 v_48 u3 x_52 hf).trans hj
theorem frX8_takesE_h305 {r : Int32} {z : XS} {j : Nat} (j0 : j ≠ 99) (j1 : j ≠ 109) (j2 : j ≠ 108) (j3 : j ≠ 107) {k28 : Int32 → Int32 → Int32 → XS → Option (Int32 × XS)} (hk28 : ∀ (u1 : Int32) (u2 : Int32) (u3 : Int32) (x : XS), k28 u1 u2 u3 x = some (r, z) → z j = x j) : ∀ (u1 : Int32) (u2 : Int32) (u4 : Int32) (s1 : Int32) (s2 : Int32) (x : XS), fX8_takesE_h305 k28 u1 u2 u4 s1 s2 x = some (r, z) → z j = x j := by
  intro u1 u2 u4 s1 s2 x hf
  obtain ⟨x0, hx0⟩ : ∃ y, y = x := ⟨_, rfl⟩
  have hj : x j = x0 j := by rw [hx0]
  rw [← hx0]
  unfold fX8_takesE_h305 at hf
  obtain ⟨gg_66, hf⟩ := gd_out hf
  have ngg_66 := inb_lt gg_66
  obtain ⟨x_67, ex_67, hf⟩ := st_out hf
  replace hj : x_67 j = x0 j := (show x_67 j = x j by rw [ex_67]; exact wr_ne (by omega)).trans hj
  obtain ⟨r_68, x_69, qr_68, hf⟩ := bd_out hf
  replace hj : x_69 j = x0 j := (frX8_rank  qr_68).trans hj
  obtain ⟨r_70, x_71, qr_70, hf⟩ := bd_out hf
  replace hj : x_71 j = x0 j := (frX8_settle (by omega) (by omega) qr_70).trans hj
  obtain ⟨gg_72, hf⟩ := gd_out hf
  have ngg_72 := inb_lt gg_72
  obtain ⟨x_73, ex_73, hf⟩ := st_out hf
  replace hj : x_73 j = x0 j := (show x_73 j = x_71 j by rw [ex_73]; exact wr_ne (by omega)).trans hj
  obtain ⟨x_74, ex_74, hf⟩ := st_out hf
  replace hj : x_74 j = x0 j := (show x_74 j = x_73 j by rw [ex_74]; exact wr_ne (by omega)).trans hj
  obtain ⟨r_75, x_76, qr_75, hf⟩ := bd_out hf
  replace hj : x_76 j = x0 j := (frX8_go (by omega) qr_75).trans hj
  exact (hk28 u1 u2 1 x_76 hf).trans hj
theorem frX8_takesE_h268 {r : Int32} {z : XS} {j : Nat} (j0 : j ≠ 99) (j1 : j ≠ 109) (j2 : j ≠ 108) (j3 : j ≠ 107) {k28 : Int32 → Int32 → Int32 → XS → Option (Int32 × XS)} (hk28 : ∀ (u1 : Int32) (u2 : Int32) (u3 : Int32) (x : XS), k28 u1 u2 u3 x = some (r, z) → z j = x j) : ∀ (u1 : Int32) (u2 : Int32) (u4 : Int32) (x : XS), fX8_takesE_h268 k28 u1 u2 u4 x = some (r, z) → z j = x j := by
  intro u1 u2 u4 x hf
  obtain ⟨x0, hx0⟩ : ∃ y, y = x := ⟨_, rfl⟩
  have hj : x j = x0 j := by rw [hx0]
  rw [← hx0]
  unfold fX8_takesE_h268 at hf
  obtain ⟨r_55, x_56, qr_55, hf⟩ := bd_out hf
  replace hj : x_56 j = x0 j := (frX8_rank  qr_55).trans hj
  rcases if_out hf with ⟨c_57, hf⟩ | ⟨c_57, hf⟩
  · skip
    exact (frX8_takesE_h305 j0 j1 j2 j3 hk28 u1 u2 u4 u1 1 x_56 hf).trans hj
  · skip
    obtain ⟨r_58, x_59, qr_58, hf⟩ := bd_out hf
    replace hj : x_59 j = x0 j := (frX8_rank  qr_58).trans hj
    rcases if_out hf with ⟨c_60, hf⟩ | ⟨c_60, hf⟩
    · skip
      exact (frX8_takesE_h305 j0 j1 j2 j3 hk28 u1 u2 u4 u1 0 x_59 hf).trans hj
    · skip
      obtain ⟨gg_61, hf⟩ := gd_out hf
      have ngg_61 := inb_lt gg_61
      rcases if_out hf with ⟨c_62, hf⟩ | ⟨c_62, hf⟩
      · skip
        exact (frX8_takesE_h305 j0 j1 j2 j3 hk28 u1 u2 u4 u1 0 x_59 hf).trans hj
      · skip
        exact (frX8_takesE_h305 j0 j1 j2 j3 hk28 u1 u2 u4 u1 1 x_59 hf).trans hj
theorem frX8_takesE_h237 {r : Int32} {z : XS} {j : Nat} (j0 : j ≠ 99) (j1 : j ≠ 109) (j2 : j ≠ 108) (j3 : j ≠ 107) {k28 : Int32 → Int32 → Int32 → XS → Option (Int32 × XS)} (hk28 : ∀ (u1 : Int32) (u2 : Int32) (u3 : Int32) (x : XS), k28 u1 u2 u3 x = some (r, z) → z j = x j) : ∀ (u1 : Int32) (u2 : Int32) (x : XS), fX8_takesE_h237 k28 u1 u2 x = some (r, z) → z j = x j := by
  intro u1 u2 x hf
  obtain ⟨x0, hx0⟩ : ∃ y, y = x := ⟨_, rfl⟩
  have hj : x j = x0 j := by rw [hx0]
  rw [← hx0]
  unfold fX8_takesE_h237 at hf
  obtain ⟨r_34, x_35, qr_34, hf⟩ := bd_out hf
  replace hj : x_35 j = x0 j := (frX8_signHere  qr_34).trans hj
  rcases if_out hf with ⟨c_36, hf⟩ | ⟨c_36, hf⟩
  · skip
    rw [so_out hf]
    exact hj
  · skip
    obtain ⟨r_37, x_38, qr_37, hf⟩ := bd_out hf
    replace hj : x_38 j = x0 j := (frX8_rank  qr_37).trans hj
    rcases if_outN hf with ⟨c_39, hf⟩ | ⟨c_39, hf⟩
    · skip
      exact (frX8_takesE_h268 j0 j1 j2 j3 hk28 u1 u2 r_34 x_38 hf).trans hj
    · skip
      obtain ⟨gg_40, hf⟩ := gd_out hf
      have ngg_40 := inb_lt gg_40
      rcases if_out hf with ⟨c_41, hf⟩ | ⟨c_41, hf⟩
      · skip
        exact (frX8_takesE_h268 j0 j1 j2 j3 hk28 u1 u2 r_34 x_38 hf).trans hj
      · skip
        rw [so_out hf]
        exact hj
theorem frX8_takesE_h39 {r : Int32} {z : XS} {j : Nat} (j0 : j ≠ 99) (j1 : j ≠ 109) (j2 : j ≠ 108) (j3 : j ≠ 107) {k28 : Int32 → Int32 → Int32 → XS → Option (Int32 × XS)} (hk28 : ∀ (u1 : Int32) (u2 : Int32) (u3 : Int32) (x : XS), k28 u1 u2 u3 x = some (r, z) → z j = x j) : ∀ (u1 : Int32) (u2 : Int32) (u3 : Int32) (x : XS), fX8_takesE_h39 k28 u1 u2 u3 x = some (r, z) → z j = x j := by
  intro u1 u2 u3 x hf
  obtain ⟨x0, hx0⟩ : ∃ y, y = x := ⟨_, rfl⟩
  have hj : x j = x0 j := by rw [hx0]
  rw [← hx0]
  unfold fX8_takesE_h39 at hf
  rcases if_out hf with ⟨c_11, hf⟩ | ⟨c_11, hf⟩
  · skip
    rcases if_outN hf with ⟨c_12, hf⟩ | ⟨c_12, hf⟩
    · skip
      exact (frX8_takesE_h237 j0 j1 j2 j3 hk28 u1 u2 x hf).trans hj
    · skip
      rcases if_outN hf with ⟨c_13, hf⟩ | ⟨c_13, hf⟩
      · skip
        exact (frX8_takesE_h237 j0 j1 j2 j3 hk28 u1 u2 x hf).trans hj
      · skip
        rcases if_out hf with ⟨c_14, hf⟩ | ⟨c_14, hf⟩
        · skip
          exact (frX8_takesE_h237 j0 j1 j2 j3 hk28 u1 u2 x hf).trans hj
        · skip
          obtain ⟨r_15, x_16, qr_15, hf⟩ := bd_out hf
          replace hj : x_16 j = x0 j := (frX8_settle (by omega) (by omega) qr_15).trans hj
          obtain ⟨x_17, ex_17, hf⟩ := st_out hf
          replace hj : x_17 j = x0 j := (show x_17 j = x_16 j by rw [ex_17]; exact wr_ne (by omega)).trans hj
          obtain ⟨v_18, ev_18, hf⟩ := st_out hf
          obtain ⟨r_19, x_20, qr_19, hf⟩ := bd_out hf
          replace hj : x_20 j = x0 j := (frX8_settle (by omega) (by omega) qr_19).trans hj
          obtain ⟨r_21, x_22, qr_21, hf⟩ := bd_out hf
          replace hj : x_22 j = x0 j := (frX8_notsOpen  qr_21).trans hj
          obtain ⟨r_23, x_24, qr_23, hf⟩ := bd_out hf
          replace hj : x_24 j = x0 j := (frX8_go (by omega) qr_23).trans hj
          exact (hk28 v_18 r_21 u3 x_24 hf).trans hj
  · skip
    rcases if_outN hf with ⟨c_25, hf⟩ | ⟨c_25, hf⟩
    · skip
      exact (frX8_takesE_h97 j0 j1 j2 j3 hk28 u1 u3 x hf).trans hj
    · skip
      rcases if_outN hf with ⟨c_26, hf⟩ | ⟨c_26, hf⟩
      · skip
        exact (frX8_takesE_h97 j0 j1 j2 j3 hk28 u1 u3 x hf).trans hj
      · skip
        rcases if_out hf with ⟨c_27, hf⟩ | ⟨c_27, hf⟩
        · skip
          exact (frX8_takesE_h97 j0 j1 j2 j3 hk28 u1 u3 x hf).trans hj
        · skip
          obtain ⟨gg_28, hf⟩ := gd_out hf
          have ngg_28 := inb_lt gg_28
          obtain ⟨x_29, ex_29, hf⟩ := st_out hf
          replace hj : x_29 j = x0 j := (show x_29 j = x j by rw [ex_29]; exact wr_ne (by omega)).trans hj
          obtain ⟨x_30, ex_30, hf⟩ := st_out hf
          replace hj : x_30 j = x0 j := (show x_30 j = x_29 j by rw [ex_30]; exact wr_ne (by omega)).trans hj
          obtain ⟨v_31, ev_31, hf⟩ := st_out hf
          obtain ⟨r_32, x_33, qr_32, hf⟩ := bd_out hf
          replace hj : x_33 j = x0 j := (frX8_go (by omega) qr_32).trans hj
          exact (frX8_takesE_h172 j0 j1 j2 j3 hk28 u1 u3 x_33 hf).trans hj
theorem frbX8_takesE_h28 {r : Int32} {z : XS} {j : Nat} (j0 : j ≠ 99) (j1 : j ≠ 109) (j2 : j ≠ 108) (j3 : j ≠ 107) {k28 : Int32 → Int32 → Int32 → XS → Option (Int32 × XS)} (hk28 : ∀ (u1 : Int32) (u2 : Int32) (u3 : Int32) (x : XS), k28 u1 u2 u3 x = some (r, z) → z j = x j) : ∀ (u1 : Int32) (u2 : Int32) (u3 : Int32) (x : XS), bX8_takesE_h28 k28 u1 u2 u3 x = some (r, z) → z j = x j := by
  intro u1 u2 u3 x hf
  obtain ⟨x0, hx0⟩ : ∃ y, y = x := ⟨_, rfl⟩
  have hj : x j = x0 j := by rw [hx0]
  rw [← hx0]
  unfold bX8_takesE_h28 at hf
  rcases if_outN hf with ⟨c_6, hf⟩ | ⟨c_6, hf⟩
  · skip
    exact (frX8_takesE_h39 j0 j1 j2 j3 hk28 u1 u2 u3 x hf).trans hj
  · skip
    rcases if_out hf with ⟨c_7, hf⟩ | ⟨c_7, hf⟩
    · skip
      obtain ⟨r_8, x_9, qr_8, hf⟩ := bd_out hf
      replace hj : x_9 j = x0 j := (frX8_settle (by omega) (by omega) qr_8).trans hj
      rcases if_outN hf with ⟨c_10, hf⟩ | ⟨c_10, hf⟩
      · skip
        rw [so_out hf]
        exact hj
      · skip
        rw [so_out hf]
        exact hj
    · skip
      exact (frX8_takesE_h39 j0 j1 j2 j3 hk28 u1 u2 u3 x hf).trans hj
theorem frlX8_takesE_h28 {r : Int32} {z : XS} {j : Nat} (j0 : j ≠ 99) (j1 : j ≠ 109) (j2 : j ≠ 108) (j3 : j ≠ 107) (n : Nat) : ∀ (u1 : Int32) (u2 : Int32) (u3 : Int32) (x : XS), lX8_takesE_h28 n u1 u2 u3 x = some (r, z) → z j = x j := by
  induction n with
  | zero => intro u1 u2 u3 x hf; exact absurd hf (by intro q; cases q)
  | succ n ih => exact frbX8_takesE_h28 j0 j1 j2 j3 ih
theorem frX8_takesE_h28 {r : Int32} {z : XS} {j : Nat} (j0 : j ≠ 99) (j1 : j ≠ 109) (j2 : j ≠ 108) (j3 : j ≠ 107) : ∀ (u1 : Int32) (u2 : Int32) (u3 : Int32) (x : XS), fX8_takesE_h28 u1 u2 u3 x = some (r, z) → z j = x j := frlX8_takesE_h28 j0 j1 j2 j3 FU
theorem frX8_takesE {j : Nat} (j0 : j ≠ 99) (j1 : j ≠ 109) (j2 : j ≠ 108) (j3 : j ≠ 107) {x z : XS} {r : Int32} (hf : fX8_takesE x = some (r, z)) : z j = x j := by
  obtain ⟨x0, hx0⟩ : ∃ y, y = x := ⟨_, rfl⟩
  have hj : x j = x0 j := by rw [hx0]
  rw [← hx0]
  unfold fX8_takesE at hf
  obtain ⟨x_1, ex_1, hf⟩ := st_out hf
  replace hj : x_1 j = x0 j := (show x_1 j = x j by rw [ex_1]; exact wr_ne (by omega)).trans hj
  obtain ⟨x_2, ex_2, hf⟩ := st_out hf
  replace hj : x_2 j = x0 j := (show x_2 j = x_1 j by rw [ex_2]; exact wr_ne (by omega)).trans hj
  obtain ⟨x_3, ex_3, hf⟩ := st_out hf
  replace hj : x_3 j = x0 j := (show x_3 j = x_2 j by rw [ex_3]; exact wr_ne (by omega)).trans hj
  obtain ⟨gg_4, hf⟩ := gd_out hf
  have ngg_4 := inb_lt gg_4
  obtain ⟨x_5, ex_5, hf⟩ := st_out hf
  replace hj : x_5 j = x0 j := (show x_5 j = x_3 j by rw [ex_5]; exact wr_ne (by omega)).trans hj
  exact (frX8_takesE_h28 j0 j1 j2 j3 0 0 1 x_5 hf).trans hj
theorem frbX8_text_h117 {r : Int32} {z : XS} {j : Nat} (j0 : j ≠ 99) (j1 : j ≠ 100) (j2 : j ≠ 109) (j3 : j ≠ 108) (j4 : j ≠ 107) {k117 : Int32 → Int32 → XS → Option (Int32 × XS)} (hk117 : ∀ (u2 : Int32) (u3 : Int32) (x : XS), k117 u2 u3 x = some (r, z) → z j = x j) : ∀ (u2 : Int32) (u3 : Int32) (x : XS), bX8_text_h117 k117 u2 u3 x = some (r, z) → z j = x j := by
  intro u2 u3 x hf
  obtain ⟨x0, hx0⟩ : ∃ y, y = x := ⟨_, rfl⟩
  have hj : x j = x0 j := by rw [hx0]
  rw [← hx0]
  unfold bX8_text_h117 at hf
  rcases if_out hf with ⟨c_21, hf⟩ | ⟨c_21, hf⟩
  · skip
    obtain ⟨gg_22, hf⟩ := gd_out hf
    have ngg_22 := inb_lt gg_22
    obtain ⟨gg_23, hf⟩ := gd_out hf
    have ngg_23 := inb_lt gg_23
    obtain ⟨x_24, ex_24, hf⟩ := st_out hf
    replace hj : x_24 j = x0 j := (show x_24 j = x j by rw [ex_24]; exact wr_ne (by omega)).trans hj
    rw [so_out hf]
    exact hj
  · skip
    obtain ⟨gg_25, hf⟩ := gd_out hf
    have ngg_25 := inb_lt gg_25
    obtain ⟨gg_26, hf⟩ := gd_out hf
    have ngg_26 := inb_lt gg_26
    obtain ⟨x_27, ex_27, hf⟩ := st_out hf
    replace hj : x_27 j = x0 j := (show x_27 j = x j by rw [ex_27]; exact wr_ne (by omega)).trans hj
    obtain ⟨v_28, ev_28, hf⟩ := st_out hf
    exact (hk117 u2 v_28 x_27 hf).trans hj
theorem frlX8_text_h117 {r : Int32} {z : XS} {j : Nat} (j0 : j ≠ 99) (j1 : j ≠ 100) (j2 : j ≠ 109) (j3 : j ≠ 108) (j4 : j ≠ 107) (n : Nat) : ∀ (u2 : Int32) (u3 : Int32) (x : XS), lX8_text_h117 n u2 u3 x = some (r, z) → z j = x j := by
  induction n with
  | zero => intro u2 u3 x hf; exact absurd hf (by intro q; cases q)
  | succ n ih => exact frbX8_text_h117 j0 j1 j2 j3 j4 ih
theorem frX8_text_h117 {r : Int32} {z : XS} {j : Nat} (j0 : j ≠ 99) (j1 : j ≠ 100) (j2 : j ≠ 109) (j3 : j ≠ 108) (j4 : j ≠ 107) : ∀ (u2 : Int32) (u3 : Int32) (x : XS), fX8_text_h117 u2 u3 x = some (r, z) → z j = x j := frlX8_text_h117 j0 j1 j2 j3 j4 FU
theorem frX8_text_h33 {r : Int32} {z : XS} {j : Nat} (j0 : j ≠ 99) (j1 : j ≠ 100) (j2 : j ≠ 109) (j3 : j ≠ 108) (j4 : j ≠ 107) : ∀ (s0 : Int32) (x : XS), fX8_text_h33 s0 x = some (r, z) → z j = x j := by
  intro s0 x hf
  obtain ⟨x0, hx0⟩ : ∃ y, y = x := ⟨_, rfl⟩
  have hj : x j = x0 j := by rw [hx0]
  rw [← hx0]
  unfold fX8_text_h33 at hf
  obtain ⟨x_11, ex_11, hf⟩ := st_out hf
  replace hj : x_11 j = x0 j := (show x_11 j = x j by rw [ex_11]; exact wr_ne (by omega)).trans hj
  rcases if_outN hf with ⟨c_12, hf⟩ | ⟨c_12, hf⟩
  · skip
    obtain ⟨gg_13, hf⟩ := gd_out hf
    have ngg_13 := inb_lt gg_13
    rcases if_outN hf with ⟨c_14, hf⟩ | ⟨c_14, hf⟩
    · skip
      obtain ⟨gg_15, hf⟩ := gd_out hf
      have ngg_15 := inb_lt gg_15
      obtain ⟨v_16, ev_16, hf⟩ := st_out hf
      obtain ⟨gg_17, hf⟩ := gd_out hf
      have ngg_17 := inb_lt gg_17
      obtain ⟨x_18, ex_18, hf⟩ := st_out hf
      replace hj : x_18 j = x0 j := (show x_18 j = x_11 j by rw [ex_18]; exact wr_ne (by omega)).trans hj
      obtain ⟨gg_19, hf⟩ := gd_out hf
      have ngg_19 := inb_lt gg_19
      obtain ⟨x_20, ex_20, hf⟩ := st_out hf
      replace hj : x_20 j = x0 j := (show x_20 j = x_18 j by rw [ex_20]; exact wr_ne (by omega)).trans hj
      exact (frX8_text_h117 j0 j1 j2 j3 j4 v_16 0 x_20 hf).trans hj
    · skip
      rw [so_out hf]
      exact hj
  · skip
    rw [so_out hf]
    exact hj
theorem frX8_text {j : Nat} (j0 : j ≠ 99) (j1 : j ≠ 100) (j2 : j ≠ 109) (j3 : j ≠ 108) (j4 : j ≠ 107) {x z : XS} {r : Int32} (hf : fX8_text x = some (r, z)) : z j = x j := by
  obtain ⟨x0, hx0⟩ : ∃ y, y = x := ⟨_, rfl⟩
  have hj : x j = x0 j := by rw [hx0]
  rw [← hx0]
  unfold fX8_text at hf
  obtain ⟨x_1, ex_1, hf⟩ := st_out hf
  replace hj : x_1 j = x0 j := (show x_1 j = x j by rw [ex_1]; exact wr_ne (by omega)).trans hj
  obtain ⟨x_2, ex_2, hf⟩ := st_out hf
  replace hj : x_2 j = x0 j := (show x_2 j = x_1 j by rw [ex_2]; exact wr_ne (by omega)).trans hj
  obtain ⟨r_3, x_4, qr_3, hf⟩ := bd_out hf
  replace hj : x_4 j = x0 j := (frX8_go (by omega) qr_3).trans hj
  obtain ⟨r_5, x_6, qr_5, hf⟩ := bd_out hf
  replace hj : x_6 j = x0 j := (frX8_takesKey (by omega) qr_5).trans hj
  rcases if_out hf with ⟨c_7, hf⟩ | ⟨c_7, hf⟩
  · skip
    exact (frX8_text_h33 j0 j1 j2 j3 j4 0 x_6 hf).trans hj
  · skip
    obtain ⟨r_8, x_9, qr_8, hf⟩ := bd_out hf
    replace hj : x_9 j = x0 j := (frX8_takesE (by omega) (by omega) (by omega) (by omega) qr_8).trans hj
    rcases if_out hf with ⟨c_10, hf⟩ | ⟨c_10, hf⟩
    · skip
      exact (frX8_text_h33 j0 j1 j2 j3 j4 0 x_9 hf).trans hj
    · skip
      exact (frX8_text_h33 j0 j1 j2 j3 j4 1 x_9 hf).trans hj
theorem frX8_textTold {v1 : Int32} {v2 : Int32} {j : Nat}  {x z : XS} {r : Int32} (hf : fX8_textTold v1 v2 x = some (r, z)) : z j = x j := by
  obtain ⟨x0, hx0⟩ : ∃ y, y = x := ⟨_, rfl⟩
  have hj : x j = x0 j := by rw [hx0]
  rw [← hx0]
  unfold fX8_textTold at hf
  obtain ⟨gg_1, hf⟩ := gd_out hf
  have ngg_1 := inb_lt gg_1
  obtain ⟨r_2, x_3, qr_2, hf⟩ := bd_out hf
  replace hj : x_3 j = x0 j := (frX8_in  qr_2).trans hj
  rcases if_out hf with ⟨c_4, hf⟩ | ⟨c_4, hf⟩
  · skip
    rw [so_out hf]
    exact hj
  · skip
    obtain ⟨r_5, x_6, qr_5, hf⟩ := bd_out hf
    replace hj : x_6 j = x0 j := (frX8_in  qr_5).trans hj
    rcases if_outN hf with ⟨c_7, hf⟩ | ⟨c_7, hf⟩
    · skip
      rcases if_outN hf with ⟨c_8, hf⟩ | ⟨c_8, hf⟩
      · skip
        obtain ⟨gg_9, hf⟩ := gd_out hf
        have ngg_9 := inb_lt gg_9
        rw [so_out hf]
        exact hj
      · skip
        obtain ⟨gg_10, hf⟩ := gd_out hf
        have ngg_10 := inb_lt gg_10
        obtain ⟨v_11, ev_11, hf⟩ := st_out hf
        rw [so_out hf]
        exact hj
    · skip
      rw [so_out hf]
      exact hj
theorem roX8_textTold {v1 : Int32} {v2 : Int32} {x z : XS} {r : Int32} (hf : fX8_textTold v1 v2 x = some (r, z)) : z = x := funext fun j => frX8_textTold (j := j) hf
theorem frX8_why {v1 : Int32} {j : Nat}  {x z : XS} {r : Int32} (hf : fX8_why v1 x = some (r, z)) : z j = x j := by
  obtain ⟨x0, hx0⟩ : ∃ y, y = x := ⟨_, rfl⟩
  have hj : x j = x0 j := by rw [hx0]
  rw [← hx0]
  unfold fX8_why at hf
  obtain ⟨r_1, x_2, qr_1, hf⟩ := bd_out hf
  replace hj : x_2 j = x0 j := (frX8_in  qr_1).trans hj
  rcases if_outN hf with ⟨c_3, hf⟩ | ⟨c_3, hf⟩
  · skip
    obtain ⟨r_4, x_5, qr_4, hf⟩ := bd_out hf
    replace hj : x_5 j = x0 j := (frX8_counts  qr_4).trans hj
    rcases if_out hf with ⟨c_6, hf⟩ | ⟨c_6, hf⟩
    · skip
      rw [so_out hf]
      exact hj
    · skip
      rw [so_out hf]
      exact hj
  · skip
    rw [so_out hf]
    exact hj
theorem roX8_why {v1 : Int32} {x z : XS} {r : Int32} (hf : fX8_why v1 x = some (r, z)) : z = x := funext fun j => frX8_why (j := j) hf
theorem frX8_isSlot {v0 : Int32} {j : Nat}  {x z : XS} {r : Int32} (hf : fX8_isSlot v0 x = some (r, z)) : z j = x j := by
  obtain ⟨x0, hx0⟩ : ∃ y, y = x := ⟨_, rfl⟩
  have hj : x j = x0 j := by rw [hx0]
  rw [← hx0]
  unfold fX8_isSlot at hf
  obtain ⟨r_1, x_2, qr_1, hf⟩ := bd_out hf
  replace hj : x_2 j = x0 j := (frX8_in  qr_1).trans hj
  obtain ⟨gg_3, hf⟩ := gd_out hf
  rw [so_out hf]
  exact hj
theorem roX8_isSlot {v0 : Int32} {x z : XS} {r : Int32} (hf : fX8_isSlot v0 x = some (r, z)) : z = x := funext fun j => frX8_isSlot (j := j) hf
theorem frbX8_sheet_h66 {r : Int32} {z : XS} {j : Nat} (j0 : j ≠ 112) (j1 : j ≠ 113) (j2 : j ≠ 114) {k66 : Int32 → Int32 → XS → Option (Int32 × XS)} (hk66 : ∀ (u1 : Int32) (u4 : Int32) (x : XS), k66 u1 u4 x = some (r, z) → z j = x j) : ∀ (u1 : Int32) (u4 : Int32) (x : XS), bX8_sheet_h66 k66 u1 u4 x = some (r, z) → z j = x j := by
  intro u1 u4 x hf
  obtain ⟨x0, hx0⟩ : ∃ y, y = x := ⟨_, rfl⟩
  have hj : x j = x0 j := by rw [hx0]
  rw [← hx0]
  unfold bX8_sheet_h66 at hf
  rcases if_out hf with ⟨c_20, hf⟩ | ⟨c_20, hf⟩
  · skip
    obtain ⟨gg_21, hf⟩ := gd_out hf
    have ngg_21 := inb_lt gg_21
    rw [so_out hf]
    exact hj
  · skip
    obtain ⟨gg_22, hf⟩ := gd_out hf
    have ngg_22 := inb_lt gg_22
    obtain ⟨x_23, ex_23, hf⟩ := st_out hf
    replace hj : x_23 j = x0 j := (show x_23 j = x j by rw [ex_23]; exact wr_ne (by omega)).trans hj
    obtain ⟨v_24, ev_24, hf⟩ := st_out hf
    exact (hk66 u1 v_24 x_23 hf).trans hj
theorem frlX8_sheet_h66 {r : Int32} {z : XS} {j : Nat} (j0 : j ≠ 112) (j1 : j ≠ 113) (j2 : j ≠ 114) (n : Nat) : ∀ (u1 : Int32) (u4 : Int32) (x : XS), lX8_sheet_h66 n u1 u4 x = some (r, z) → z j = x j := by
  induction n with
  | zero => intro u1 u4 x hf; exact absurd hf (by intro q; cases q)
  | succ n ih => exact frbX8_sheet_h66 j0 j1 j2 ih
theorem frX8_sheet_h66 {r : Int32} {z : XS} {j : Nat} (j0 : j ≠ 112) (j1 : j ≠ 113) (j2 : j ≠ 114) : ∀ (u1 : Int32) (u4 : Int32) (x : XS), fX8_sheet_h66 u1 u4 x = some (r, z) → z j = x j := frlX8_sheet_h66 j0 j1 j2 FU
theorem frX8_sheet_h41 {r : Int32} {z : XS} {j : Nat} (j0 : j ≠ 112) (j1 : j ≠ 113) (j2 : j ≠ 114) : ∀ (u1 : Int32) (u2 : Int32) (u3 : Int32) (x : XS), fX8_sheet_h41 u1 u2 u3 x = some (r, z) → z j = x j := by
  intro u1 u2 u3 x hf
  obtain ⟨x0, hx0⟩ : ∃ y, y = x := ⟨_, rfl⟩
  have hj : x j = x0 j := by rw [hx0]
  rw [← hx0]
  unfold fX8_sheet_h41 at hf
  obtain ⟨gg_13, hf⟩ := gd_out hf
  have ngg_13 := inb_lt gg_13
  obtain ⟨x_14, ex_14, hf⟩ := st_out hf
  replace hj : x_14 j = x0 j := (show x_14 j = x j by rw [ex_14]; exact wr_ne (by omega)).trans hj
  rcases if_out hf with ⟨c_15, hf⟩ | ⟨c_15, hf⟩
  · skip
    obtain ⟨gg_16, hf⟩ := gd_out hf
    have ngg_16 := inb_lt gg_16
    obtain ⟨x_17, ex_17, hf⟩ := st_out hf
    replace hj : x_17 j = x0 j := (show x_17 j = x_14 j by rw [ex_17]; exact wr_ne (by omega)).trans hj
    exact (frX8_sheet_h66 j0 j1 j2 u1 0 x_17 hf).trans hj
  · skip
    obtain ⟨gg_18, hf⟩ := gd_out hf
    have ngg_18 := inb_lt gg_18
    obtain ⟨x_19, ex_19, hf⟩ := st_out hf
    replace hj : x_19 j = x0 j := (show x_19 j = x_14 j by rw [ex_19]; exact wr_ne (by omega)).trans hj
    exact (frX8_sheet_h66 j0 j1 j2 u1 0 x_19 hf).trans hj
theorem frX8_sheet {v1 : Int32} {v2 : Int32} {v3 : Int32} {j : Nat} (j0 : j ≠ 112) (j1 : j ≠ 113) (j2 : j ≠ 114) {x z : XS} {r : Int32} (hf : fX8_sheet v1 v2 v3 x = some (r, z)) : z j = x j := by
  obtain ⟨x0, hx0⟩ : ∃ y, y = x := ⟨_, rfl⟩
  have hj : x j = x0 j := by rw [hx0]
  rw [← hx0]
  unfold fX8_sheet at hf
  obtain ⟨r_1, x_2, qr_1, hf⟩ := bd_out hf
  replace hj : x_2 j = x0 j := (frX8_isSheet  qr_1).trans hj
  rcases if_out hf with ⟨c_3, hf⟩ | ⟨c_3, hf⟩
  · skip
    rw [so_out hf]
    exact hj
  · skip
    obtain ⟨r_4, x_5, qr_4, hf⟩ := bd_out hf
    replace hj : x_5 j = x0 j := (frX8_in  qr_4).trans hj
    rcases if_out hf with ⟨c_6, hf⟩ | ⟨c_6, hf⟩
    · skip
      rw [so_out hf]
      exact hj
    · skip
      rcases if_out hf with ⟨c_7, hf⟩ | ⟨c_7, hf⟩
      · skip
        rcases if_out hf with ⟨c_8, hf⟩ | ⟨c_8, hf⟩
        · skip
          exact (frX8_sheet_h41 j0 j1 j2 v1 v2 v3 x_5 hf).trans hj
        · skip
          rcases if_out hf with ⟨c_9, hf⟩ | ⟨c_9, hf⟩
          · skip
            exact (frX8_sheet_h41 j0 j1 j2 v1 v2 v3 x_5 hf).trans hj
          · skip
            rw [so_out hf]
            exact hj
      · skip
        rcases if_out hf with ⟨c_10, hf⟩ | ⟨c_10, hf⟩
        · skip
          rcases if_out hf with ⟨c_11, hf⟩ | ⟨c_11, hf⟩
          · skip
            exact (frX8_sheet_h41 j0 j1 j2 v1 v2 v3 x_5 hf).trans hj
          · skip
            rcases if_out hf with ⟨c_12, hf⟩ | ⟨c_12, hf⟩
            · skip
              exact (frX8_sheet_h41 j0 j1 j2 v1 v2 v3 x_5 hf).trans hj
            · skip
              rw [so_out hf]
              exact hj
        · skip
          rw [so_out hf]
          exact hj
theorem frX8_mark_h92 {r : Int32} {z : XS} {j : Nat} (j0 : j ≠ 114) : ∀ (u1 : Int32) (u2 : Int32) (u3 : Int32) (x : XS), fX8_mark_h92 u1 u2 u3 x = some (r, z) → z j = x j := by
  intro u1 u2 u3 x hf
  obtain ⟨x0, hx0⟩ : ∃ y, y = x := ⟨_, rfl⟩
  have hj : x j = x0 j := by rw [hx0]
  rw [← hx0]
  unfold fX8_mark_h92 at hf
  obtain ⟨gg_19, hf⟩ := gd_out hf
  have ngg_19 := inb_lt gg_19
  rcases if_outN hf with ⟨c_20, hf⟩ | ⟨c_20, hf⟩
  · skip
    obtain ⟨gg_21, hf⟩ := gd_out hf
    have ngg_21 := inb_lt gg_21
    obtain ⟨x_22, ex_22, hf⟩ := st_out hf
    replace hj : x_22 j = x0 j := (show x_22 j = x j by rw [ex_22]; exact wr_ne (by omega)).trans hj
    rw [so_out hf]
    exact hj
  · skip
    obtain ⟨v_23, ev_23, hf⟩ := st_out hf
    obtain ⟨gg_24, hf⟩ := gd_out hf
    have ngg_24 := inb_lt gg_24
    obtain ⟨x_25, ex_25, hf⟩ := st_out hf
    replace hj : x_25 j = x0 j := (show x_25 j = x j by rw [ex_25]; exact wr_ne (by omega)).trans hj
    rw [so_out hf]
    exact hj
theorem frX8_mark_h60 {r : Int32} {z : XS} {j : Nat} (j0 : j ≠ 114) : ∀ (u1 : Int32) (u2 : Int32) (u3 : Int32) (x : XS), fX8_mark_h60 u1 u2 u3 x = some (r, z) → z j = x j := by
  intro u1 u2 u3 x hf
  obtain ⟨x0, hx0⟩ : ∃ y, y = x := ⟨_, rfl⟩
  have hj : x j = x0 j := by rw [hx0]
  rw [← hx0]
  unfold fX8_mark_h60 at hf
  obtain ⟨gg_13, hf⟩ := gd_out hf
  have ngg_13 := inb_lt gg_13
  rcases if_outN hf with ⟨c_14, hf⟩ | ⟨c_14, hf⟩
  · skip
    exact (frX8_mark_h92 j0 u1 u2 u3 x hf).trans hj
  · skip
    rcases if_out hf with ⟨c_15, hf⟩ | ⟨c_15, hf⟩
    · skip
      exact (frX8_mark_h92 j0 u1 u2 u3 x hf).trans hj
    · skip
      obtain ⟨r_16, x_17, qr_16, hf⟩ := bd_out hf
      replace hj : x_17 j = x0 j := (frX8_in  qr_16).trans hj
      rcases if_outN hf with ⟨c_18, hf⟩ | ⟨c_18, hf⟩
      · skip
        exact (frX8_mark_h92 j0 u1 u2 u3 x_17 hf).trans hj
      · skip
        rw [so_out hf]
        exact hj
theorem frX8_mark {v1 : Int32} {v2 : Int32} {v3 : Int32} {j : Nat} (j0 : j ≠ 114) {x z : XS} {r : Int32} (hf : fX8_mark v1 v2 v3 x = some (r, z)) : z j = x j := by
  obtain ⟨x0, hx0⟩ : ∃ y, y = x := ⟨_, rfl⟩
  have hj : x j = x0 j := by rw [hx0]
  rw [← hx0]
  unfold fX8_mark at hf
  obtain ⟨r_1, x_2, qr_1, hf⟩ := bd_out hf
  replace hj : x_2 j = x0 j := (frX8_isSheet  qr_1).trans hj
  rcases if_outN hf with ⟨c_3, hf⟩ | ⟨c_3, hf⟩
  · skip
    obtain ⟨gg_4, hf⟩ := gd_out hf
    have ngg_4 := inb_lt gg_4
    rcases if_out hf with ⟨c_5, hf⟩ | ⟨c_5, hf⟩
    · skip
      obtain ⟨gg_6, hf⟩ := gd_out hf
      have ngg_6 := inb_lt gg_6
      obtain ⟨r_7, x_8, qr_7, hf⟩ := bd_out hf
      replace hj : x_8 j = x0 j := (frX8_in  qr_7).trans hj
      rcases if_outN hf with ⟨c_9, hf⟩ | ⟨c_9, hf⟩
      · skip
        obtain ⟨gg_10, hf⟩ := gd_out hf
        have ngg_10 := inb_lt gg_10
        rcases if_outN hf with ⟨c_11, hf⟩ | ⟨c_11, hf⟩
        · skip
          exact (frX8_mark_h60 j0 v1 v2 v3 x_8 hf).trans hj
        · skip
          rcases if_outN hf with ⟨c_12, hf⟩ | ⟨c_12, hf⟩
          · skip
            exact (frX8_mark_h60 j0 v1 v2 v3 x_8 hf).trans hj
          · skip
            rw [so_out hf]
            exact hj
      · skip
        rw [so_out hf]
        exact hj
    · skip
      rw [so_out hf]
      exact hj
  · skip
    rw [so_out hf]
    exact hj
theorem frX8_pour_h83 {r : Int32} {z : XS} {j : Nat} (j0 : j ≠ 100) {k26 : Int32 → Int32 → Int32 → XS → Option (Int32 × XS)} (hk26 : ∀ (u1 : Int32) (u2 : Int32) (u3 : Int32) (x : XS), k26 u1 u2 u3 x = some (r, z) → z j = x j) : ∀ (u1 : Int32) (u2 : Int32) (u3 : Int32) (s0 : Int32) (x : XS), fX8_pour_h83 k26 u1 u2 u3 s0 x = some (r, z) → z j = x j := by
  intro u1 u2 u3 s0 x hf
  obtain ⟨x0, hx0⟩ : ∃ y, y = x := ⟨_, rfl⟩
  have hj : x j = x0 j := by rw [hx0]
  rw [← hx0]
  unfold fX8_pour_h83 at hf
  obtain ⟨r_17, x_18, qr_17, hf⟩ := bd_out hf
  replace hj : x_18 j = x0 j := (frX8_becomes (by omega) qr_17).trans hj
  rcases if_outN hf with ⟨c_19, hf⟩ | ⟨c_19, hf⟩
  · skip
    obtain ⟨v_20, ev_20, hf⟩ := st_out hf
    obtain ⟨v_21, ev_21, hf⟩ := st_out hf
    exact (hk26 u1 v_20 v_21 x_18 hf).trans hj
  · skip
    obtain ⟨v_22, ev_22, hf⟩ := st_out hf
    obtain ⟨v_23, ev_23, hf⟩ := st_out hf
    exact (hk26 u1 v_22 v_23 x_18 hf).trans hj
theorem frbX8_pour_h26 {r : Int32} {z : XS} {j : Nat} (j0 : j ≠ 100) {k26 : Int32 → Int32 → Int32 → XS → Option (Int32 × XS)} (hk26 : ∀ (u1 : Int32) (u2 : Int32) (u3 : Int32) (x : XS), k26 u1 u2 u3 x = some (r, z) → z j = x j) : ∀ (u1 : Int32) (u2 : Int32) (u3 : Int32) (x : XS), bX8_pour_h26 k26 u1 u2 u3 x = some (r, z) → z j = x j := by
  intro u1 u2 u3 x hf
  obtain ⟨x0, hx0⟩ : ∃ y, y = x := ⟨_, rfl⟩
  have hj : x j = x0 j := by rw [hx0]
  rw [← hx0]
  unfold bX8_pour_h26 at hf
  obtain ⟨gg_6, hf⟩ := gd_out hf
  have ngg_6 := inb_lt gg_6
  rcases if_out hf with ⟨c_7, hf⟩ | ⟨c_7, hf⟩
  · skip
    rw [so_out hf]
    exact hj
  · skip
    obtain ⟨gg_8, hf⟩ := gd_out hf
    have ngg_8 := inb_lt gg_8
    rcases if_out hf with ⟨c_9, hf⟩ | ⟨c_9, hf⟩
    · skip
      rw [so_out hf]
      exact hj
    · skip
      obtain ⟨gg_10, hf⟩ := gd_out hf
      have ngg_10 := inb_lt gg_10
      obtain ⟨v_11, ev_11, hf⟩ := st_out hf
      rcases if_outN hf with ⟨c_12, hf⟩ | ⟨c_12, hf⟩
      · skip
        obtain ⟨r_13, x_14, qr_13, hf⟩ := bd_out hf
        replace hj : x_14 j = x0 j := (frX8_within  qr_13).trans hj
        exact (frX8_pour_h83 j0 hk26 u1 u2 u3 r_13 x_14 hf).trans hj
      · skip
        obtain ⟨r_15, x_16, qr_15, hf⟩ := bd_out hf
        replace hj : x_16 j = x0 j := (frX8_of  qr_15).trans hj
        exact (frX8_pour_h83 j0 hk26 u1 u2 u3 r_15 x_16 hf).trans hj
theorem frlX8_pour_h26 {r : Int32} {z : XS} {j : Nat} (j0 : j ≠ 100) (n : Nat) : ∀ (u1 : Int32) (u2 : Int32) (u3 : Int32) (x : XS), lX8_pour_h26 n u1 u2 u3 x = some (r, z) → z j = x j := by
  induction n with
  | zero => intro u1 u2 u3 x hf; exact absurd hf (by intro q; cases q)
  | succ n ih => exact frbX8_pour_h26 j0 ih
theorem frX8_pour_h26 {r : Int32} {z : XS} {j : Nat} (j0 : j ≠ 100) : ∀ (u1 : Int32) (u2 : Int32) (u3 : Int32) (x : XS), fX8_pour_h26 u1 u2 u3 x = some (r, z) → z j = x j := frlX8_pour_h26 j0 FU
theorem frX8_pour {v1 : Int32} {j : Nat} (j0 : j ≠ 100) {x z : XS} {r : Int32} (hf : fX8_pour v1 x = some (r, z)) : z j = x j := by
  obtain ⟨x0, hx0⟩ : ∃ y, y = x := ⟨_, rfl⟩
  have hj : x j = x0 j := by rw [hx0]
  rw [← hx0]
  unfold fX8_pour at hf
  obtain ⟨r_1, x_2, qr_1, hf⟩ := bd_out hf
  replace hj : x_2 j = x0 j := (frX8_isSheet  qr_1).trans hj
  rcases if_outN hf with ⟨c_3, hf⟩ | ⟨c_3, hf⟩
  · skip
    obtain ⟨gg_4, hf⟩ := gd_out hf
    have ngg_4 := inb_lt gg_4
    rcases if_out hf with ⟨c_5, hf⟩ | ⟨c_5, hf⟩
    · skip
      exact (frX8_pour_h26 j0 v1 0 0 x_2 hf).trans hj
    · skip
      rw [so_out hf]
      exact hj
  · skip
    rw [so_out hf]
    exact hj
theorem frbX8_reads_h24 {r : Int32} {z : XS} {j : Nat}  {k24 : Int32 → Int32 → XS → Option (Int32 × XS)} (hk24 : ∀ (u1 : Int32) (u2 : Int32) (x : XS), k24 u1 u2 x = some (r, z) → z j = x j) : ∀ (u1 : Int32) (u2 : Int32) (x : XS), bX8_reads_h24 k24 u1 u2 x = some (r, z) → z j = x j := by
  intro u1 u2 x hf
  obtain ⟨x0, hx0⟩ : ∃ y, y = x := ⟨_, rfl⟩
  have hj : x j = x0 j := by rw [hx0]
  rw [← hx0]
  unfold bX8_reads_h24 at hf
  obtain ⟨gg_6, hf⟩ := gd_out hf
  have ngg_6 := inb_lt gg_6
  rcases if_out hf with ⟨c_7, hf⟩ | ⟨c_7, hf⟩
  · skip
    rw [so_out hf]
    exact hj
  · skip
    obtain ⟨gg_8, hf⟩ := gd_out hf
    have ngg_8 := inb_lt gg_8
    obtain ⟨v_9, ev_9, hf⟩ := st_out hf
    rcases if_out hf with ⟨c_10, hf⟩ | ⟨c_10, hf⟩
    · skip
      obtain ⟨v_11, ev_11, hf⟩ := st_out hf
      exact (hk24 u1 v_11 x hf).trans hj
    · skip
      obtain ⟨r_12, x_13, qr_12, hf⟩ := bd_out hf
      replace hj : x_13 j = x0 j := (frX8_isBoy  qr_12).trans hj
      rcases if_out hf with ⟨c_14, hf⟩ | ⟨c_14, hf⟩
      · skip
        rw [so_out hf]
        exact hj
      · skip
        obtain ⟨r_15, x_16, qr_15, hf⟩ := bd_out hf
        replace hj : x_16 j = x0 j := (frX8_of  qr_15).trans hj
        rcases if_out hf with ⟨c_17, hf⟩ | ⟨c_17, hf⟩
        · skip
          obtain ⟨v_18, ev_18, hf⟩ := st_out hf
          exact (hk24 u1 v_18 x_16 hf).trans hj
        · skip
          rw [so_out hf]
          exact hj
theorem frlX8_reads_h24 {r : Int32} {z : XS} {j : Nat}  (n : Nat) : ∀ (u1 : Int32) (u2 : Int32) (x : XS), lX8_reads_h24 n u1 u2 x = some (r, z) → z j = x j := by
  induction n with
  | zero => intro u1 u2 x hf; exact absurd hf (by intro q; cases q)
  | succ n ih => exact frbX8_reads_h24  ih
theorem frX8_reads_h24 {r : Int32} {z : XS} {j : Nat}  : ∀ (u1 : Int32) (u2 : Int32) (x : XS), fX8_reads_h24 u1 u2 x = some (r, z) → z j = x j := frlX8_reads_h24  FU
theorem frX8_reads {v1 : Int32} {j : Nat}  {x z : XS} {r : Int32} (hf : fX8_reads v1 x = some (r, z)) : z j = x j := by
  obtain ⟨x0, hx0⟩ : ∃ y, y = x := ⟨_, rfl⟩
  have hj : x j = x0 j := by rw [hx0]
  rw [← hx0]
  unfold fX8_reads at hf
  obtain ⟨r_1, x_2, qr_1, hf⟩ := bd_out hf
  replace hj : x_2 j = x0 j := (frX8_isSheet  qr_1).trans hj
  rcases if_outN hf with ⟨c_3, hf⟩ | ⟨c_3, hf⟩
  · skip
    obtain ⟨gg_4, hf⟩ := gd_out hf
    have ngg_4 := inb_lt gg_4
    rcases if_out hf with ⟨c_5, hf⟩ | ⟨c_5, hf⟩
    · skip
      exact (frX8_reads_h24 v1 0 x_2 hf).trans hj
    · skip
      rw [so_out hf]
      exact hj
  · skip
    rw [so_out hf]
    exact hj
theorem roX8_reads {v1 : Int32} {x z : XS} {r : Int32} (hf : fX8_reads v1 x = some (r, z)) : z = x := funext fun j => frX8_reads (j := j) hf
theorem frbX8_copy_h141 {r : Int32} {z : XS} {j : Nat} (j0 : j ≠ 119) (j1 : j ≠ 114) {k141 : Int32 → Int32 → Int32 → Int32 → XS → Option (Int32 × XS)} (hk141 : ∀ (u3 : Int32) (u4 : Int32) (u5 : Int32) (u6 : Int32) (x : XS), k141 u3 u4 u5 u6 x = some (r, z) → z j = x j) : ∀ (u3 : Int32) (u4 : Int32) (u5 : Int32) (u6 : Int32) (x : XS), bX8_copy_h141 k141 u3 u4 u5 u6 x = some (r, z) → z j = x j := by
  intro u3 u4 u5 u6 x hf
  obtain ⟨x0, hx0⟩ : ∃ y, y = x := ⟨_, rfl⟩
  have hj : x j = x0 j := by rw [hx0]
  rw [← hx0]
  unfold bX8_copy_h141 at hf
  rcases if_out hf with ⟨c_26, hf⟩ | ⟨c_26, hf⟩
  · skip
    rw [so_out hf]
    exact hj
  · skip
    obtain ⟨gg_27, hf⟩ := gd_out hf
    have ngg_27 := inb_lt gg_27
    obtain ⟨gg_28, hf⟩ := gd_out hf
    have ngg_28 := inb_lt gg_28
    obtain ⟨x_29, ex_29, hf⟩ := st_out hf
    replace hj : x_29 j = x0 j := (show x_29 j = x j by rw [ex_29]; exact wr_ne (by omega)).trans hj
    obtain ⟨v_30, ev_30, hf⟩ := st_out hf
    exact (hk141 u3 u4 u5 v_30 x_29 hf).trans hj
theorem frlX8_copy_h141 {r : Int32} {z : XS} {j : Nat} (j0 : j ≠ 119) (j1 : j ≠ 114) (n : Nat) : ∀ (u3 : Int32) (u4 : Int32) (u5 : Int32) (u6 : Int32) (x : XS), lX8_copy_h141 n u3 u4 u5 u6 x = some (r, z) → z j = x j := by
  induction n with
  | zero => intro u3 u4 u5 u6 x hf; exact absurd hf (by intro q; cases q)
  | succ n ih => exact frbX8_copy_h141 j0 j1 ih
theorem frX8_copy_h141 {r : Int32} {z : XS} {j : Nat} (j0 : j ≠ 119) (j1 : j ≠ 114) : ∀ (u3 : Int32) (u4 : Int32) (u5 : Int32) (u6 : Int32) (x : XS), fX8_copy_h141 u3 u4 u5 u6 x = some (r, z) → z j = x j := frlX8_copy_h141 j0 j1 FU
theorem frbX8_copy_h104 {r : Int32} {z : XS} {j : Nat} (j0 : j ≠ 119) (j1 : j ≠ 114) {k104 : Int32 → Int32 → Int32 → Int32 → Int32 → Int32 → XS → Option (Int32 × XS)} (hk104 : ∀ (u1 : Int32) (u2 : Int32) (u3 : Int32) (u4 : Int32) (u5 : Int32) (u6 : Int32) (x : XS), k104 u1 u2 u3 u4 u5 u6 x = some (r, z) → z j = x j) : ∀ (u1 : Int32) (u2 : Int32) (u3 : Int32) (u4 : Int32) (u5 : Int32) (u6 : Int32) (x : XS), bX8_copy_h104 k104 u1 u2 u3 u4 u5 u6 x = some (r, z) → z j = x j := by
  intro u1 u2 u3 u4 u5 u6 x hf
  obtain ⟨x0, hx0⟩ : ∃ y, y = x := ⟨_, rfl⟩
  have hj : x j = x0 j := by rw [hx0]
  rw [← hx0]
  unfold bX8_copy_h104 at hf
  rcases if_out hf with ⟨c_21, hf⟩ | ⟨c_21, hf⟩
  · skip
    exact (frX8_copy_h141 j0 j1 u3 u4 u5 0 x hf).trans hj
  · skip
    obtain ⟨gg_22, hf⟩ := gd_out hf
    have ngg_22 := inb_lt gg_22
    obtain ⟨gg_23, hf⟩ := gd_out hf
    have ngg_23 := inb_lt gg_23
    obtain ⟨x_24, ex_24, hf⟩ := st_out hf
    replace hj : x_24 j = x0 j := (show x_24 j = x j by rw [ex_24]; exact wr_ne (by omega)).trans hj
    obtain ⟨v_25, ev_25, hf⟩ := st_out hf
    exact (hk104 u1 u2 u3 u4 u5 v_25 x_24 hf).trans hj
theorem frlX8_copy_h104 {r : Int32} {z : XS} {j : Nat} (j0 : j ≠ 119) (j1 : j ≠ 114) (n : Nat) : ∀ (u1 : Int32) (u2 : Int32) (u3 : Int32) (u4 : Int32) (u5 : Int32) (u6 : Int32) (x : XS), lX8_copy_h104 n u1 u2 u3 u4 u5 u6 x = some (r, z) → z j = x j := by
  induction n with
  | zero => intro u1 u2 u3 u4 u5 u6 x hf; exact absurd hf (by intro q; cases q)
  | succ n ih => exact frbX8_copy_h104 j0 j1 ih
theorem frX8_copy_h104 {r : Int32} {z : XS} {j : Nat} (j0 : j ≠ 119) (j1 : j ≠ 114) : ∀ (u1 : Int32) (u2 : Int32) (u3 : Int32) (u4 : Int32) (u5 : Int32) (u6 : Int32) (x : XS), fX8_copy_h104 u1 u2 u3 u4 u5 u6 x = some (r, z) → z j = x j := frlX8_copy_h104 j0 j1 FU
theorem frX8_copy {v1 : Int32} {v2 : Int32} {v3 : Int32} {v4 : Int32} {v5 : Int32} {j : Nat} (j0 : j ≠ 119) (j1 : j ≠ 114) {x z : XS} {r : Int32} (hf : fX8_copy v1 v2 v3 v4 v5 x = some (r, z)) : z j = x j := by
  obtain ⟨x0, hx0⟩ : ∃ y, y = x := ⟨_, rfl⟩
  have hj : x j = x0 j := by rw [hx0]
  rw [← hx0]
  unfold fX8_copy at hf
  obtain ⟨r_1, x_2, qr_1, hf⟩ := bd_out hf
  replace hj : x_2 j = x0 j := (frX8_isSheet  qr_1).trans hj
  rcases if_out hf with ⟨c_3, hf⟩ | ⟨c_3, hf⟩
  · skip
    rw [so_out hf]
    exact hj
  · skip
    obtain ⟨r_4, x_5, qr_4, hf⟩ := bd_out hf
    replace hj : x_5 j = x0 j := (frX8_isSheet  qr_4).trans hj
    rcases if_outN hf with ⟨c_6, hf⟩ | ⟨c_6, hf⟩
    · skip
      obtain ⟨gg_7, hf⟩ := gd_out hf
      have ngg_7 := inb_lt gg_7
      rcases if_out hf with ⟨c_8, hf⟩ | ⟨c_8, hf⟩
      · skip
        rw [so_out hf]
        exact hj
      · skip
        obtain ⟨gg_9, hf⟩ := gd_out hf
        have ngg_9 := inb_lt gg_9
        rcases if_out hf with ⟨c_10, hf⟩ | ⟨c_10, hf⟩
        · skip
          obtain ⟨gg_11, hf⟩ := gd_out hf
          have ngg_11 := inb_lt gg_11
          obtain ⟨gg_12, hf⟩ := gd_out hf
          have ngg_12 := inb_lt gg_12
          rcases if_out hf with ⟨c_13, hf⟩ | ⟨c_13, hf⟩
          · skip
            rcases if_out hf with ⟨c_14, hf⟩ | ⟨c_14, hf⟩
            · skip
              rw [so_out hf]
              exact hj
            · skip
              rcases if_out hf with ⟨c_15, hf⟩ | ⟨c_15, hf⟩
              · skip
                rw [so_out hf]
                exact hj
              · skip
                rcases if_out hf with ⟨c_16, hf⟩ | ⟨c_16, hf⟩
                · skip
                  rw [so_out hf]
                  exact hj
                · skip
                  obtain ⟨gg_17, hf⟩ := gd_out hf
                  have ngg_17 := inb_lt gg_17
                  rcases if_out hf with ⟨c_18, hf⟩ | ⟨c_18, hf⟩
                  · skip
                    rw [so_out hf]
                    exact hj
                  · skip
                    obtain ⟨gg_19, hf⟩ := gd_out hf
                    have ngg_19 := inb_lt gg_19
                    rcases if_out hf with ⟨c_20, hf⟩ | ⟨c_20, hf⟩
                    · skip
                      exact (frX8_copy_h104 j0 j1 v1 v2 v3 v4 v5 0 x_5 hf).trans hj
                    · skip
                      rw [so_out hf]
                      exact hj
          · skip
            rw [so_out hf]
            exact hj
        · skip
          rw [so_out hf]
          exact hj
    · skip
      rw [so_out hf]
      exact hj
theorem frbX8_lay_h134 {r : Int32} {z : XS} {j : Nat} (j0 : j ≠ 115) (j1 : j ≠ 116) (j2 : j ≠ 117) (j3 : j ≠ 118) {k134 : Int32 → Int32 → Int32 → Int32 → Int32 → XS → Option (Int32 × XS)} (hk134 : ∀ (u1 : Int32) (u2 : Int32) (u3 : Int32) (u4 : Int32) (u5 : Int32) (x : XS), k134 u1 u2 u3 u4 u5 x = some (r, z) → z j = x j) : ∀ (u1 : Int32) (u2 : Int32) (u3 : Int32) (u4 : Int32) (u5 : Int32) (x : XS), bX8_lay_h134 k134 u1 u2 u3 u4 u5 x = some (r, z) → z j = x j := by
  intro u1 u2 u3 u4 u5 x hf
  obtain ⟨x0, hx0⟩ : ∃ y, y = x := ⟨_, rfl⟩
  have hj : x j = x0 j := by rw [hx0]
  rw [← hx0]
  unfold bX8_lay_h134 at hf
  rcases if_out hf with ⟨c_36, hf⟩ | ⟨c_36, hf⟩
  · skip
    rw [so_out hf]
    exact hj
  · skip
    rcases if_outN hf with ⟨c_37, hf⟩ | ⟨c_37, hf⟩
    · skip
      rw [so_out hf]
      exact hj
    · skip
      obtain ⟨gg_38, hf⟩ := gd_out hf
      have ngg_38 := inb_lt gg_38
      obtain ⟨gg_39, hf⟩ := gd_out hf
      have ngg_39 := inb_lt gg_39
      obtain ⟨x_40, ex_40, hf⟩ := st_out hf
      replace hj : x_40 j = x0 j := (show x_40 j = x j by rw [ex_40]; exact wr_ne (by omega)).trans hj
      obtain ⟨v_41, ev_41, hf⟩ := st_out hf
      exact (hk134 u1 u2 u3 u4 v_41 x_40 hf).trans hj
theorem frlX8_lay_h134 {r : Int32} {z : XS} {j : Nat} (j0 : j ≠ 115) (j1 : j ≠ 116) (j2 : j ≠ 117) (j3 : j ≠ 118) (n : Nat) : ∀ (u1 : Int32) (u2 : Int32) (u3 : Int32) (u4 : Int32) (u5 : Int32) (x : XS), lX8_lay_h134 n u1 u2 u3 u4 u5 x = some (r, z) → z j = x j := by
  induction n with
  | zero => intro u1 u2 u3 u4 u5 x hf; exact absurd hf (by intro q; cases q)
  | succ n ih => exact frbX8_lay_h134 j0 j1 j2 j3 ih
theorem frX8_lay_h134 {r : Int32} {z : XS} {j : Nat} (j0 : j ≠ 115) (j1 : j ≠ 116) (j2 : j ≠ 117) (j3 : j ≠ 118) : ∀ (u1 : Int32) (u2 : Int32) (u3 : Int32) (u4 : Int32) (u5 : Int32) (x : XS), fX8_lay_h134 u1 u2 u3 u4 u5 x = some (r, z) → z j = x j := frlX8_lay_h134 j0 j1 j2 j3 FU
theorem frX8_lay_h110 {r : Int32} {z : XS} {j : Nat} (j0 : j ≠ 115) (j1 : j ≠ 116) (j2 : j ≠ 117) (j3 : j ≠ 118) : ∀ (u1 : Int32) (u2 : Int32) (u3 : Int32) (u4 : Int32) (s1 : Int32) (s2 : Int32) (x : XS), fX8_lay_h110 u1 u2 u3 u4 s1 s2 x = some (r, z) → z j = x j := by
  intro u1 u2 u3 u4 s1 s2 x hf
  obtain ⟨x0, hx0⟩ : ∃ y, y = x := ⟨_, rfl⟩
  have hj : x j = x0 j := by rw [hx0]
  rw [← hx0]
  unfold fX8_lay_h110 at hf
  obtain ⟨gg_27, hf⟩ := gd_out hf
  have ngg_27 := inb_lt gg_27
  obtain ⟨x_28, ex_28, hf⟩ := st_out hf
  replace hj : x_28 j = x0 j := (show x_28 j = x j by rw [ex_28]; exact wr_ne (by omega)).trans hj
  rcases if_outN hf with ⟨c_29, hf⟩ | ⟨c_29, hf⟩
  · skip
    obtain ⟨gg_30, hf⟩ := gd_out hf
    have ngg_30 := inb_lt gg_30
    obtain ⟨x_31, ex_31, hf⟩ := st_out hf
    replace hj : x_31 j = x0 j := (show x_31 j = x_28 j by rw [ex_31]; exact wr_ne (by omega)).trans hj
    exact (frX8_lay_h134 j0 j1 j2 j3 u1 u2 u3 u4 0 x_31 hf).trans hj
  · skip
    obtain ⟨r_32, x_33, qr_32, hf⟩ := bd_out hf
    replace hj : x_33 j = x0 j := (frX8_worthOf  qr_32).trans hj
    obtain ⟨gg_34, hf⟩ := gd_out hf
    have ngg_34 := inb_lt gg_34
    obtain ⟨x_35, ex_35, hf⟩ := st_out hf
    replace hj : x_35 j = x0 j := (show x_35 j = x_33 j by rw [ex_35]; exact wr_ne (by omega)).trans hj
    exact (frX8_lay_h134 j0 j1 j2 j3 u1 u2 u3 u4 0 x_35 hf).trans hj
theorem frX8_lay_h61 {r : Int32} {z : XS} {j : Nat} (j0 : j ≠ 115) (j1 : j ≠ 116) (j2 : j ≠ 117) (j3 : j ≠ 118) : ∀ (u1 : Int32) (u2 : Int32) (u3 : Int32) (x : XS), fX8_lay_h61 u1 u2 u3 x = some (r, z) → z j = x j := by
  intro u1 u2 u3 x hf
  obtain ⟨x0, hx0⟩ : ∃ y, y = x := ⟨_, rfl⟩
  have hj : x j = x0 j := by rw [hx0]
  rw [← hx0]
  unfold fX8_lay_h61 at hf
  obtain ⟨gg_18, hf⟩ := gd_out hf
  have ngg_18 := inb_lt gg_18
  obtain ⟨v_19, ev_19, hf⟩ := st_out hf
  obtain ⟨gg_20, hf⟩ := gd_out hf
  have ngg_20 := inb_lt gg_20
  obtain ⟨x_21, ex_21, hf⟩ := st_out hf
  replace hj : x_21 j = x0 j := (show x_21 j = x j by rw [ex_21]; exact wr_ne (by omega)).trans hj
  rcases if_outN hf with ⟨c_22, hf⟩ | ⟨c_22, hf⟩
  · skip
    rcases if_outN hf with ⟨c_23, hf⟩ | ⟨c_23, hf⟩
    · skip
      exact (frX8_lay_h110 j0 j1 j2 j3 u1 u2 u3 v_19 u1 u3 x_21 hf).trans hj
    · skip
      obtain ⟨gg_24, hf⟩ := gd_out hf
      have ngg_24 := inb_lt gg_24
      exact (frX8_lay_h110 j0 j1 j2 j3 u1 u2 u3 v_19 u1 (x_21 113 (ix u3)) x_21 hf).trans hj
  · skip
    obtain ⟨r_25, x_26, qr_25, hf⟩ := bd_out hf
    replace hj : x_26 j = x0 j := (frX8_of  qr_25).trans hj
    exact (frX8_lay_h110 j0 j1 j2 j3 u1 u2 u3 v_19 u1 r_25 x_26 hf).trans hj
theorem frX8_lay_h44 {r : Int32} {z : XS} {j : Nat} (j0 : j ≠ 115) (j1 : j ≠ 116) (j2 : j ≠ 117) (j3 : j ≠ 118) : ∀ (u1 : Int32) (u2 : Int32) (u3 : Int32) (x : XS), fX8_lay_h44 u1 u2 u3 x = some (r, z) → z j = x j := by
  intro u1 u2 u3 x hf
  obtain ⟨x0, hx0⟩ : ∃ y, y = x := ⟨_, rfl⟩
  have hj : x j = x0 j := by rw [hx0]
  rw [← hx0]
  unfold fX8_lay_h44 at hf
  rcases if_outN hf with ⟨c_15, hf⟩ | ⟨c_15, hf⟩
  · skip
    exact (frX8_lay_h61 j0 j1 j2 j3 u1 u2 u3 x hf).trans hj
  · skip
    obtain ⟨gg_16, hf⟩ := gd_out hf
    have ngg_16 := inb_lt gg_16
    rcases if_out hf with ⟨c_17, hf⟩ | ⟨c_17, hf⟩
    · skip
      exact (frX8_lay_h61 j0 j1 j2 j3 u1 u2 u3 x hf).trans hj
    · skip
      rw [so_out hf]
      exact hj
theorem frX8_lay_h29 {r : Int32} {z : XS} {j : Nat} (j0 : j ≠ 115) (j1 : j ≠ 116) (j2 : j ≠ 117) (j3 : j ≠ 118) : ∀ (u1 : Int32) (u2 : Int32) (u3 : Int32) (x : XS), fX8_lay_h29 u1 u2 u3 x = some (r, z) → z j = x j := by
  intro u1 u2 u3 x hf
  obtain ⟨x0, hx0⟩ : ∃ y, y = x := ⟨_, rfl⟩
  have hj : x j = x0 j := by rw [hx0]
  rw [← hx0]
  unfold fX8_lay_h29 at hf
  rcases if_outN hf with ⟨c_11, hf⟩ | ⟨c_11, hf⟩
  · skip
    exact (frX8_lay_h44 j0 j1 j2 j3 u1 u2 u3 x hf).trans hj
  · skip
    obtain ⟨r_12, x_13, qr_12, hf⟩ := bd_out hf
    replace hj : x_13 j = x0 j := (frX8_isSheet  qr_12).trans hj
    rcases if_outN hf with ⟨c_14, hf⟩ | ⟨c_14, hf⟩
    · skip
      exact (frX8_lay_h44 j0 j1 j2 j3 u1 u2 u3 x_13 hf).trans hj
    · skip
      rw [so_out hf]
      exact hj
theorem frX8_lay {v1 : Int32} {v2 : Int32} {v3 : Int32} {j : Nat} (j0 : j ≠ 115) (j1 : j ≠ 116) (j2 : j ≠ 117) (j3 : j ≠ 118) {x z : XS} {r : Int32} (hf : fX8_lay v1 v2 v3 x = some (r, z)) : z j = x j := by
  obtain ⟨x0, hx0⟩ : ∃ y, y = x := ⟨_, rfl⟩
  have hj : x j = x0 j := by rw [hx0]
  rw [← hx0]
  unfold fX8_lay at hf
  obtain ⟨r_1, x_2, qr_1, hf⟩ := bd_out hf
  replace hj : x_2 j = x0 j := (frX8_isSlot  qr_1).trans hj
  rcases if_out hf with ⟨c_3, hf⟩ | ⟨c_3, hf⟩
  · skip
    rw [so_out hf]
    exact hj
  · skip
    obtain ⟨r_4, x_5, qr_4, hf⟩ := bd_out hf
    replace hj : x_5 j = x0 j := (frX8_in  qr_4).trans hj
    rcases if_out hf with ⟨c_6, hf⟩ | ⟨c_6, hf⟩
    · skip
      rw [so_out hf]
      exact hj
    · skip
      rcases if_outN hf with ⟨c_7, hf⟩ | ⟨c_7, hf⟩
      · skip
        exact (frX8_lay_h29 j0 j1 j2 j3 v1 v2 v3 x_5 hf).trans hj
      · skip
        obtain ⟨r_8, x_9, qr_8, hf⟩ := bd_out hf
        replace hj : x_9 j = x0 j := (frX8_isBoy  qr_8).trans hj
        rcases if_out hf with ⟨c_10, hf⟩ | ⟨c_10, hf⟩
        · skip
          rw [so_out hf]
          exact hj
        · skip
          exact (frX8_lay_h29 j0 j1 j2 j3 v1 v2 v3 x_9 hf).trans hj
theorem frX8_ask {v1 : Int32} {v2 : Int32} {j : Nat}  {x z : XS} {r : Int32} (hf : fX8_ask v1 v2 x = some (r, z)) : z j = x j := by
  obtain ⟨x0, hx0⟩ : ∃ y, y = x := ⟨_, rfl⟩
  have hj : x j = x0 j := by rw [hx0]
  rw [← hx0]
  unfold fX8_ask at hf
  obtain ⟨r_1, x_2, qr_1, hf⟩ := bd_out hf
  replace hj : x_2 j = x0 j := (frX8_isSlot  qr_1).trans hj
  rcases if_out hf with ⟨c_3, hf⟩ | ⟨c_3, hf⟩
  · skip
    rw [so_out hf]
    exact hj
  · skip
    obtain ⟨r_4, x_5, qr_4, hf⟩ := bd_out hf
    replace hj : x_5 j = x0 j := (frX8_in  qr_4).trans hj
    rcases if_outN hf with ⟨c_6, hf⟩ | ⟨c_6, hf⟩
    · skip
      obtain ⟨gg_7, hf⟩ := gd_out hf
      have ngg_7 := inb_lt gg_7
      rcases if_outN hf with ⟨c_8, hf⟩ | ⟨c_8, hf⟩
      · skip
        obtain ⟨gg_9, hf⟩ := gd_out hf
        have ngg_9 := inb_lt gg_9
        rcases if_outN hf with ⟨c_10, hf⟩ | ⟨c_10, hf⟩
        · skip
          rw [so_out hf]
          exact hj
        · skip
          obtain ⟨gg_11, hf⟩ := gd_out hf
          have ngg_11 := inb_lt gg_11
          obtain ⟨r_12, x_13, qr_12, hf⟩ := bd_out hf
          replace hj : x_13 j = x0 j := (frX8_isUnder  qr_12).trans hj
          rcases if_out hf with ⟨c_14, hf⟩ | ⟨c_14, hf⟩
          · skip
            rw [so_out hf]
            exact hj
          · skip
            obtain ⟨gg_15, hf⟩ := gd_out hf
            have ngg_15 := inb_lt gg_15
            rw [so_out hf]
            exact hj
      · skip
        rw [so_out hf]
        exact hj
    · skip
      rw [so_out hf]
      exact hj
theorem roX8_ask {v1 : Int32} {v2 : Int32} {x z : XS} {r : Int32} (hf : fX8_ask v1 v2 x = some (r, z)) : z = x := funext fun j => frX8_ask (j := j) hf
theorem frX8_item {v1 : Int32} {v2 : Int32} {j : Nat}  {x z : XS} {r : Int32} (hf : fX8_item v1 v2 x = some (r, z)) : z j = x j := by
  obtain ⟨x0, hx0⟩ : ∃ y, y = x := ⟨_, rfl⟩
  have hj : x j = x0 j := by rw [hx0]
  rw [← hx0]
  unfold fX8_item at hf
  obtain ⟨r_1, x_2, qr_1, hf⟩ := bd_out hf
  replace hj : x_2 j = x0 j := (frX8_isSlot  qr_1).trans hj
  rcases if_outN hf with ⟨c_3, hf⟩ | ⟨c_3, hf⟩
  · skip
    obtain ⟨gg_4, hf⟩ := gd_out hf
    have ngg_4 := inb_lt gg_4
    rcases if_outN hf with ⟨c_5, hf⟩ | ⟨c_5, hf⟩
    · skip
      obtain ⟨gg_6, hf⟩ := gd_out hf
      have ngg_6 := inb_lt gg_6
      rcases if_out hf with ⟨c_7, hf⟩ | ⟨c_7, hf⟩
      · skip
        obtain ⟨gg_8, hf⟩ := gd_out hf
        have ngg_8 := inb_lt gg_8
        obtain ⟨r_9, x_10, qr_9, hf⟩ := bd_out hf
        replace hj : x_10 j = x0 j := (frX8_in  qr_9).trans hj
        rcases if_outN hf with ⟨c_11, hf⟩ | ⟨c_11, hf⟩
        · skip
          obtain ⟨gg_12, hf⟩ := gd_out hf
          have ngg_12 := inb_lt gg_12
          obtain ⟨v_13, ev_13, hf⟩ := st_out hf
          rcases if_outN hf with ⟨c_14, hf⟩ | ⟨c_14, hf⟩
          · skip
            rw [so_out hf]
            exact hj
          · skip
            rw [so_out hf]
            exact hj
        · skip
          rw [so_out hf]
          exact hj
      · skip
        rw [so_out hf]
        exact hj
    · skip
      rw [so_out hf]
      exact hj
  · skip
    rw [so_out hf]
    exact hj
theorem roX8_item {v1 : Int32} {v2 : Int32} {x z : XS} {r : Int32} (hf : fX8_item v1 v2 x = some (r, z)) : z = x := funext fun j => frX8_item (j := j) hf
theorem frX8_rest {v1 : Int32} {v2 : Int32} {j : Nat}  {x z : XS} {r : Int32} (hf : fX8_rest v1 v2 x = some (r, z)) : z j = x j := by
  obtain ⟨x0, hx0⟩ : ∃ y, y = x := ⟨_, rfl⟩
  have hj : x j = x0 j := by rw [hx0]
  rw [← hx0]
  unfold fX8_rest at hf
  obtain ⟨r_1, x_2, qr_1, hf⟩ := bd_out hf
  replace hj : x_2 j = x0 j := (frX8_isSlot  qr_1).trans hj
  rcases if_outN hf with ⟨c_3, hf⟩ | ⟨c_3, hf⟩
  · skip
    obtain ⟨gg_4, hf⟩ := gd_out hf
    have ngg_4 := inb_lt gg_4
    rcases if_outN hf with ⟨c_5, hf⟩ | ⟨c_5, hf⟩
    · skip
      obtain ⟨gg_6, hf⟩ := gd_out hf
      have ngg_6 := inb_lt gg_6
      rcases if_out hf with ⟨c_7, hf⟩ | ⟨c_7, hf⟩
      · skip
        rcases if_outN hf with ⟨c_8, hf⟩ | ⟨c_8, hf⟩
        · skip
          rcases if_outN hf with ⟨c_9, hf⟩ | ⟨c_9, hf⟩
          · skip
            obtain ⟨gg_10, hf⟩ := gd_out hf
            have ngg_10 := inb_lt gg_10
            obtain ⟨gg_11, hf⟩ := gd_out hf
            obtain ⟨v_12, ev_12, hf⟩ := st_out hf
            rw [so_out hf]
            exact hj
          · skip
            rw [so_out hf]
            exact hj
        · skip
          rw [so_out hf]
          exact hj
      · skip
        rw [so_out hf]
        exact hj
    · skip
      rw [so_out hf]
      exact hj
  · skip
    rw [so_out hf]
    exact hj
theorem roX8_rest {v1 : Int32} {v2 : Int32} {x z : XS} {r : Int32} (hf : fX8_rest v1 v2 x = some (r, z)) : z = x := funext fun j => frX8_rest (j := j) hf
theorem frX8_tell {v1 : Int32} {j : Nat} (j0 : j ≠ 120) (j1 : j ≠ 99) {x z : XS} {r : Int32} (hf : fX8_tell v1 x = some (r, z)) : z j = x j := by
  obtain ⟨x0, hx0⟩ : ∃ y, y = x := ⟨_, rfl⟩
  have hj : x j = x0 j := by rw [hx0]
  rw [← hx0]
  unfold fX8_tell at hf
  rcases if_outN hf with ⟨c_1, hf⟩ | ⟨c_1, hf⟩
  · skip
    obtain ⟨gg_2, hf⟩ := gd_out hf
    have ngg_2 := inb_lt gg_2
    obtain ⟨x_3, ex_3, hf⟩ := st_out hf
    replace hj : x_3 j = x0 j := (show x_3 j = x j by rw [ex_3]; exact wr_ne (by omega)).trans hj
    obtain ⟨x_4, ex_4, hf⟩ := st_out hf
    replace hj : x_4 j = x0 j := (show x_4 j = x_3 j by rw [ex_4]; exact wr_ne (by omega)).trans hj
    rw [so_out hf]
    exact hj
  · skip
    rw [so_out hf]
    exact hj
theorem frX8_check_h182 {r : Int32} {z : XS} {j : Nat} (j0 : j ≠ 99) (j1 : j ≠ 102) (j2 : j ≠ 100) (j3 : j ≠ 111) (j4 : j ≠ 110) : ∀ (u2 : Int32) (u3 : Int32) (u4 : Int32) (x : XS), fX8_check_h182 u2 u3 u4 x = some (r, z) → z j = x j := by
  intro u2 u3 u4 x hf
  obtain ⟨x0, hx0⟩ : ∃ y, y = x := ⟨_, rfl⟩
  have hj : x j = x0 j := by rw [hx0]
  rw [← hx0]
  unfold fX8_check_h182 at hf
  obtain ⟨r_24, x_25, qr_24, hf⟩ := bd_out hf
  replace hj : x_25 j = x0 j := (frX8_copyAll (by omega) qr_24).trans hj
  rcases if_outN hf with ⟨c_26, hf⟩ | ⟨c_26, hf⟩
  · skip
    rw [so_out hf]
    exact hj
  · skip
    rcases if_outN hf with ⟨c_27, hf⟩ | ⟨c_27, hf⟩
    · skip
      rw [so_out hf]
      exact hj
    · skip
      rw [so_out hf]
      exact hj
theorem frX8_check_h172 {r : Int32} {z : XS} {j : Nat} (j0 : j ≠ 99) (j1 : j ≠ 102) (j2 : j ≠ 100) (j3 : j ≠ 111) (j4 : j ≠ 110) {k80 : Int32 → Int32 → Int32 → Int32 → XS → Option (Int32 × XS)} (hk80 : ∀ (u2 : Int32) (u3 : Int32) (u4 : Int32) (u5 : Int32) (x : XS), k80 u2 u3 u4 u5 x = some (r, z) → z j = x j) : ∀ (u2 : Int32) (u3 : Int32) (u5 : Int32) (s0 : Int32) (x : XS), fX8_check_h172 k80 u2 u3 u5 s0 x = some (r, z) → z j = x j := by
  intro u2 u3 u5 s0 x hf
  obtain ⟨x0, hx0⟩ : ∃ y, y = x := ⟨_, rfl⟩
  have hj : x j = x0 j := by rw [hx0]
  rw [← hx0]
  unfold fX8_check_h172 at hf
  obtain ⟨v_36, ev_36, hf⟩ := st_out hf
  obtain ⟨v_37, ev_37, hf⟩ := st_out hf
  exact (hk80 u2 u3 v_36 v_37 x hf).trans hj
theorem frX8_check_h129 {r : Int32} {z : XS} {j : Nat} (j0 : j ≠ 99) (j1 : j ≠ 102) (j2 : j ≠ 100) (j3 : j ≠ 111) (j4 : j ≠ 110) {k80 : Int32 → Int32 → Int32 → Int32 → XS → Option (Int32 × XS)} (hk80 : ∀ (u2 : Int32) (u3 : Int32) (u4 : Int32) (u5 : Int32) (x : XS), k80 u2 u3 u4 u5 x = some (r, z) → z j = x j) : ∀ (u2 : Int32) (u3 : Int32) (u5 : Int32) (s0 : Int32) (s1 : Int32) (x : XS), fX8_check_h129 k80 u2 u3 u5 s0 s1 x = some (r, z) → z j = x j := by
  intro u2 u3 u5 s0 s1 x hf
  obtain ⟨x0, hx0⟩ : ∃ y, y = x := ⟨_, rfl⟩
  have hj : x j = x0 j := by rw [hx0]
  rw [← hx0]
  unfold fX8_check_h129 at hf
  obtain ⟨v_28, ev_28, hf⟩ := st_out hf
  rcases if_outN hf with ⟨c_29, hf⟩ | ⟨c_29, hf⟩
  · skip
    exact (frX8_check_h172 j0 j1 j2 j3 j4 hk80 u2 u3 u5 v_28 x hf).trans hj
  · skip
    rcases if_out hf with ⟨c_30, hf⟩ | ⟨c_30, hf⟩
    · skip
      exact (frX8_check_h172 j0 j1 j2 j3 j4 hk80 u2 u3 u5 v_28 x hf).trans hj
    · skip
      obtain ⟨gg_31, hf⟩ := gd_out hf
      have ngg_31 := inb_lt gg_31
      obtain ⟨gg_32, hf⟩ := gd_out hf
      have ngg_32 := inb_lt gg_32
      rcases if_outN hf with ⟨c_33, hf⟩ | ⟨c_33, hf⟩
      · skip
        exact (frX8_check_h172 j0 j1 j2 j3 j4 hk80 u2 u3 u5 v_28 x hf).trans hj
      · skip
        obtain ⟨v_34, ev_34, hf⟩ := st_out hf
        obtain ⟨v_35, ev_35, hf⟩ := st_out hf
        exact (hk80 u2 u3 v_34 v_35 x hf).trans hj
theorem frbX8_check_h80 {r : Int32} {z : XS} {j : Nat} (j0 : j ≠ 99) (j1 : j ≠ 102) (j2 : j ≠ 100) (j3 : j ≠ 111) (j4 : j ≠ 110) {k80 : Int32 → Int32 → Int32 → Int32 → XS → Option (Int32 × XS)} (hk80 : ∀ (u2 : Int32) (u3 : Int32) (u4 : Int32) (u5 : Int32) (x : XS), k80 u2 u3 u4 u5 x = some (r, z) → z j = x j) : ∀ (u2 : Int32) (u3 : Int32) (u4 : Int32) (u5 : Int32) (x : XS), bX8_check_h80 k80 u2 u3 u4 u5 x = some (r, z) → z j = x j := by
  intro u2 u3 u4 u5 x hf
  obtain ⟨x0, hx0⟩ : ∃ y, y = x := ⟨_, rfl⟩
  have hj : x j = x0 j := by rw [hx0]
  rw [← hx0]
  unfold bX8_check_h80 at hf
  rcases if_out hf with ⟨c_15, hf⟩ | ⟨c_15, hf⟩
  · skip
    exact (frX8_check_h182 j0 j1 j2 j3 j4 u2 u3 u4 x hf).trans hj
  · skip
    rcases if_outN hf with ⟨c_16, hf⟩ | ⟨c_16, hf⟩
    · skip
      exact (frX8_check_h182 j0 j1 j2 j3 j4 u2 u3 u4 x hf).trans hj
    · skip
      obtain ⟨r_17, x_18, qr_17, hf⟩ := bd_out hf
      replace hj : x_18 j = x0 j := (frX8_minute (by omega) (by omega) (by omega) qr_17).trans hj
      rcases if_out hf with ⟨c_19, hf⟩ | ⟨c_19, hf⟩
      · skip
        exact (frX8_check_h129 j0 j1 j2 j3 j4 hk80 u2 u3 u5 u4 0 x_18 hf).trans hj
      · skip
        obtain ⟨gg_20, hf⟩ := gd_out hf
        have ngg_20 := inb_lt gg_20
        obtain ⟨r_21, x_22, qr_21, hf⟩ := bd_out hf
        replace hj : x_22 j = x0 j := (frX8_sumOf  qr_21).trans hj
        rcases if_outN hf with ⟨c_23, hf⟩ | ⟨c_23, hf⟩
        · skip
          exact (frX8_check_h129 j0 j1 j2 j3 j4 hk80 u2 u3 u5 u4 0 x_22 hf).trans hj
        · skip
          exact (frX8_check_h129 j0 j1 j2 j3 j4 hk80 u2 u3 u5 u4 1 x_22 hf).trans hj
theorem frlX8_check_h80 {r : Int32} {z : XS} {j : Nat} (j0 : j ≠ 99) (j1 : j ≠ 102) (j2 : j ≠ 100) (j3 : j ≠ 111) (j4 : j ≠ 110) (n : Nat) : ∀ (u2 : Int32) (u3 : Int32) (u4 : Int32) (u5 : Int32) (x : XS), lX8_check_h80 n u2 u3 u4 u5 x = some (r, z) → z j = x j := by
  induction n with
  | zero => intro u2 u3 u4 u5 x hf; exact absurd hf (by intro q; cases q)
  | succ n ih => exact frbX8_check_h80 j0 j1 j2 j3 j4 ih
theorem frX8_check_h80 {r : Int32} {z : XS} {j : Nat} (j0 : j ≠ 99) (j1 : j ≠ 102) (j2 : j ≠ 100) (j3 : j ≠ 111) (j4 : j ≠ 110) : ∀ (u2 : Int32) (u3 : Int32) (u4 : Int32) (u5 : Int32) (x : XS), fX8_check_h80 u2 u3 u4 u5 x = some (r, z) → z j = x j := frlX8_check_h80 j0 j1 j2 j3 j4 FU
theorem frX8_check {v1 : Int32} {j : Nat} (j0 : j ≠ 99) (j1 : j ≠ 102) (j2 : j ≠ 100) (j3 : j ≠ 111) (j4 : j ≠ 110) {x z : XS} {r : Int32} (hf : fX8_check v1 x = some (r, z)) : z j = x j := by
  obtain ⟨x0, hx0⟩ : ∃ y, y = x := ⟨_, rfl⟩
  have hj : x j = x0 j := by rw [hx0]
  rw [← hx0]
  unfold fX8_check at hf
  obtain ⟨v_1, ev_1, hf⟩ := st_out hf
  obtain ⟨x_2, ex_2, hf⟩ := st_out hf
  replace hj : x_2 j = x0 j := (show x_2 j = x j by rw [ex_2]; exact wr_ne (by omega)).trans hj
  obtain ⟨r_3, x_4, qr_3, hf⟩ := bd_out hf
  replace hj : x_4 j = x0 j := (frX8_in  qr_3).trans hj
  rcases if_outN hf with ⟨c_5, hf⟩ | ⟨c_5, hf⟩
  · skip
    rcases if_outN hf with ⟨c_6, hf⟩ | ⟨c_6, hf⟩
    · skip
      obtain ⟨r_7, x_8, qr_7, hf⟩ := bd_out hf
      replace hj : x_8 j = x0 j := (frX8_copyAll (by omega) qr_7).trans hj
      obtain ⟨r_9, x_10, qr_9, hf⟩ := bd_out hf
      replace hj : x_10 j = x0 j := (frX8_copyAll (by omega) qr_9).trans hj
      obtain ⟨gg_11, hf⟩ := gd_out hf
      have ngg_11 := inb_lt gg_11
      obtain ⟨r_12, x_13, qr_12, hf⟩ := bd_out hf
      replace hj : x_13 j = x0 j := (frX8_within  qr_12).trans hj
      obtain ⟨v_14, ev_14, hf⟩ := st_out hf
      exact (frX8_check_h80 j0 j1 j2 j3 j4 v_1 v_14 0 0 x_13 hf).trans hj
    · skip
      rw [so_out hf]
      exact hj
  · skip
    rw [so_out hf]
    exact hj
theorem frX8_keep {j : Nat} (j0 : j ≠ 99) (j1 : j ≠ 101) {x z : XS} {r : Int32} (hf : fX8_keep x = some (r, z)) : z j = x j := by
  obtain ⟨x0, hx0⟩ : ∃ y, y = x := ⟨_, rfl⟩
  have hj : x j = x0 j := by rw [hx0]
  rw [← hx0]
  unfold fX8_keep at hf
  obtain ⟨r_1, x_2, qr_1, hf⟩ := bd_out hf
  replace hj : x_2 j = x0 j := (frX8_copyAll (by omega) qr_1).trans hj
  obtain ⟨x_3, ex_3, hf⟩ := st_out hf
  replace hj : x_3 j = x0 j := (show x_3 j = x_2 j by rw [ex_3]; exact wr_ne (by omega)).trans hj
  obtain ⟨gg_4, hf⟩ := gd_out hf
  have ngg_4 := inb_lt gg_4
  rw [so_out hf]
  exact hj
theorem frX8_back {j : Nat} (j0 : j ≠ 100) {x z : XS} {r : Int32} (hf : fX8_back x = some (r, z)) : z j = x j := by
  obtain ⟨x0, hx0⟩ : ∃ y, y = x := ⟨_, rfl⟩
  have hj : x j = x0 j := by rw [hx0]
  rw [← hx0]
  unfold fX8_back at hf
  rcases if_outN hf with ⟨c_1, hf⟩ | ⟨c_1, hf⟩
  · skip
    obtain ⟨r_2, x_3, qr_2, hf⟩ := bd_out hf
    replace hj : x_3 j = x0 j := (frX8_copyAll (by omega) qr_2).trans hj
    obtain ⟨gg_4, hf⟩ := gd_out hf
    have ngg_4 := inb_lt gg_4
    rw [so_out hf]
    exact hj
  · skip
    rw [so_out hf]
    exact hj
theorem frX8_count_h66 {r : Int32} {z : XS} {j : Nat}  : ∀ (u1 : Int32) (x : XS), fX8_count_h66 u1 x = some (r, z) → z j = x j := by
  intro u1 x hf
  obtain ⟨x0, hx0⟩ : ∃ y, y = x := ⟨_, rfl⟩
  have hj : x j = x0 j := by rw [hx0]
  rw [← hx0]
  unfold fX8_count_h66 at hf
  obtain ⟨gg_14, hf⟩ := gd_out hf
  have ngg_14 := inb_lt gg_14
  rw [so_out hf]
  exact hj
theorem frX8_count {v1 : Int32} {j : Nat}  {x z : XS} {r : Int32} (hf : fX8_count v1 x = some (r, z)) : z j = x j := by
  obtain ⟨x0, hx0⟩ : ∃ y, y = x := ⟨_, rfl⟩
  have hj : x j = x0 j := by rw [hx0]
  rw [← hx0]
  unfold fX8_count at hf
  by_cases c_1 : v1 = 0
  · replace hf := if_p c_1 hf
    obtain ⟨gg_2, hf⟩ := gd_out hf
    have ngg_2 := inb_lt gg_2
    rw [so_out hf]
    exact hj
  · replace hf := if_n c_1 hf
    by_cases c_3 : v1 = 1
    · replace hf := if_p c_3 hf
      obtain ⟨gg_4, hf⟩ := gd_out hf
      have ngg_4 := inb_lt gg_4
      rw [so_out hf]
      exact hj
    · replace hf := if_n c_3 hf
      by_cases c_5 : v1 = 2
      · replace hf := if_p c_5 hf
        exact (frX8_count_h66 v1 x hf).trans hj
      · replace hf := if_n c_5 hf
        by_cases c_6 : v1 = 3
        · replace hf := if_p c_6 hf
          exact (frX8_count_h66 v1 x hf).trans hj
        · replace hf := if_n c_6 hf
          by_cases c_7 : v1 = 4
          · replace hf := if_p c_7 hf
            exact (frX8_count_h66 v1 x hf).trans hj
          · replace hf := if_n c_7 hf
            by_cases c_8 : v1 = 5
            · replace hf := if_p c_8 hf
              obtain ⟨gg_9, hf⟩ := gd_out hf
              have ngg_9 := inb_lt gg_9
              rw [so_out hf]
              exact hj
            · replace hf := if_n c_8 hf
              by_cases c_10 : v1 = 6
              · replace hf := if_p c_10 hf
                rw [so_out hf]
                exact hj
              · replace hf := if_n c_10 hf
                by_cases c_11 : v1 = 7
                · replace hf := if_p c_11 hf
                  rw [so_out hf]
                  exact hj
                · replace hf := if_n c_11 hf
                  by_cases c_12 : v1 = 8
                  · replace hf := if_p c_12 hf
                    obtain ⟨gg_13, hf⟩ := gd_out hf
                    have ngg_13 := inb_lt gg_13
                    rw [so_out hf]
                    exact hj
                  · replace hf := if_n c_12 hf
                    rw [so_out hf]
                    exact hj
theorem roX8_count {v1 : Int32} {x z : XS} {r : Int32} (hf : fX8_count v1 x = some (r, z)) : z = x := funext fun j => frX8_count (j := j) hf
