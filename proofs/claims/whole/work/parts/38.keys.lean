def kst : List Nat := [0, 5, 8]
theorem ev_charAt {v0 i : Nat} {x : XS} (hv : v0 < 3) (hi : i < slen.getD v0 0) : fJ0_charAt_5068e v0 (nI i) x = some ((sbyt.getD v0 []).getD i 0, x) := by
  have key : decide (¬ nI i < 0 ∧ nI i < nI (slen.getD v0 0)) = true ∧ inb (nI i) (slen.getD v0 0) = true ∧ ji2c (((sbyt.getD v0 []).getD (ix (nI i)) 0) &&& 255) = (sbyt.getD v0 []).getD i 0 ∧ decide (ji2c ((sbyt.getD v0 []).getD i 0) = (sbyt.getD v0 []).getD i 0) = true := by
    rcases (show v0 = 0 ∨ v0 = 1 ∨ v0 = 2 by omega) with rfl | rfl | rfl
    · have hi5 : i < 5 := hi
      rcases (show i = 0 ∨ i = 1 ∨ i = 2 ∨ i = 3 ∨ i = 4 by omega) with rfl | rfl | rfl | rfl | rfl <;> decide
    · have hi5 : i < 3 := hi
      rcases (show i = 0 ∨ i = 1 ∨ i = 2 by omega) with rfl | rfl | rfl <;> decide
    · have hi5 : i < 4 := hi
      rcases (show i = 0 ∨ i = 1 ∨ i = 2 ∨ i = 3 by omega) with rfl | rfl | rfl | rfl <;> decide
  unfold fJ0_charAt_5068e fJ0_isLatin1_aae02 fJ1_charAt_3b067 fJ0_checkIndex_df160
  rw [if_neg (show ¬ (1 : Int32) = 0 by decide), if_pos rfl, bd_e, if_neg (show ¬ (1 : Int32) = 0 by decide), gd_e key.1, bd_e, gd_e key.2.1, key.2.2.1, st_e, gd_e key.2.2.2, bd_e, gd_e key.2.2.2]
def KM (v0 p i : Nat) (B : Nat → Int32) : Prop := ∀ j, i ≤ j → j < slen.getD v0 0 → B (p + j) = (sbyt.getD v0 []).getD j 0
theorem slen_le {v0 : Nat} (hv : v0 < 3) : 0 < slen.getD v0 0 ∧ slen.getD v0 0 ≤ 5 := by
  rcases (show v0 = 0 ∨ v0 = 1 ∨ v0 = 2 by omega) with rfl | rfl | rfl <;> decide
theorem word_loop {v0 p : Nat} {x : XS} (hv : v0 < 3) (h4 : x 2 4 = nI p) (hp : p + slen.getD v0 0 ≤ 96) : ∀ d i, i + d = slen.getD v0 0 → ∀ f, d < f → (lX5_isWord_h28 v0 f (nI i) x = some (1, x) ∧ KM v0 p i (x 3)) ∨ (lX5_isWord_h28 v0 f (nI i) x = some (0, x) ∧ ¬ KM v0 p i (x 3)) := by
  have hs := slen_le hv
  intro d
  induction d with
  | zero =>
    intro i hi f hf
    obtain ⟨f, rfl⟩ : ∃ q, f = q + 1 := ⟨f - 1, by omega⟩
    refine Or.inl ⟨?_, fun j a b => by omega⟩
    show bX5_isWord_h28 v0 (lX5_isWord_h28 v0 f) (nI i) x = _
    unfold bX5_isWord_h28
    rw [ev_len, bd_e, show i = slen.getD v0 0 by omega, if_pos (Int32.le_refl _)]
  | succ d ih =>
    intro i hi f hf
    obtain ⟨f, rfl⟩ : ∃ q, f = q + 1 := ⟨f - 1, by omega⟩
    have e : lX5_isWord_h28 v0 (f + 1) (nI i) x = if x 3 (p + i) = (sbyt.getD v0 []).getD i 0 then lX5_isWord_h28 v0 f (nI (i + 1)) x else some (0, x) := by
      show bX5_isWord_h28 v0 (lX5_isWord_h28 v0 f) (nI i) x = _
      unfold bX5_isWord_h28
      rw [ev_len, bd_e, if_neg (nI_ge (by omega) (by omega)), h4, nI_add, gd_e (inb_nI (by omega) (by omega)), ev_charAt hv (by omega), bd_e, ix_nI (by omega), st_e, nI_1]
    rw [e]
    by_cases c : x 3 (p + i) = (sbyt.getD v0 []).getD i 0
    · rw [if_pos c]
      rcases ih (i + 1) (by omega) f (by omega) with ⟨e1, e2⟩ | ⟨e1, e2⟩
      · refine Or.inl ⟨e1, fun j a b => ?_⟩
        by_cases ej : j = i
        · rw [ej]; exact c
        · exact e2 j (by omega) b
      · exact Or.inr ⟨e1, fun h => e2 (fun j a b => h j (by omega) b)⟩
    · rw [if_neg c]
      exact Or.inr ⟨rfl, fun h => c (h i (Nat.le_refl _) (by omega))⟩
/-- is it the word? -/
def WM (v0 p q : Nat) (B : Nat → Int32) : Prop := q - p = slen.getD v0 0 ∧ KM v0 p 0 B
theorem ev_isWord {v0 p q : Nat} {x : XS} (hv : v0 < 3) (h3 : x 2 3 = 1) (h4 : x 2 4 = nI p) (h5 : x 2 5 = nI q) (hpq : p ≤ q) (hq : q ≤ 96) : (fX5_isWord v0 x = some (1, x) ∧ WM v0 p q (x 3)) ∨ (fX5_isWord v0 x = some (0, x) ∧ ¬ WM v0 p q (x 3)) := by
  have hs := slen_le hv
  have hdiff : x 2 5 - x 2 4 = nI (q - p) := by rw [h4, h5, show q = p + (q - p) by omega, ← nI_add, show p + (q - p) - p = q - p by omega]; grind
  unfold fX5_isWord
  rw [if_pos h3, ev_len, bd_e, hdiff]
  by_cases c : q - p = slen.getD v0 0
  · rw [if_pos (show nI (q - p) = nI (slen.getD v0 0) by rw [c])]
    rcases word_loop (x := x) hv h4 (by omega) (slen.getD v0 0) 0 (by omega) FU (by unfold FU; omega) with ⟨e1, e2⟩ | ⟨e1, e2⟩
    · exact Or.inl ⟨e1, c, e2⟩
    · exact Or.inr ⟨e1, fun h => e2 h.2⟩
  · rw [if_neg (fun e => c ((nI_eq (by omega) (by omega)).mp e))]
    exact Or.inr ⟨rfl, fun h => c h.1⟩
theorem key_tab {v0 j : Nat} (hv : v0 < 3) (hj : j < slen.getD v0 0) : kst.getD v0 0 + j < 12 ∧ kyL.getD (kst.getD v0 0 + j) 0 = (sbyt.getD v0 []).getD j 0 := by
  rcases (show v0 = 0 ∨ v0 = 1 ∨ v0 = 2 by omega) with rfl | rfl | rfl
  · have hi5 : j < 5 := hj
    rcases (show j = 0 ∨ j = 1 ∨ j = 2 ∨ j = 3 ∨ j = 4 by omega) with rfl | rfl | rfl | rfl | rfl <;> decide
  · have hi5 : j < 3 := hj
    rcases (show j = 0 ∨ j = 1 ∨ j = 2 by omega) with rfl | rfl | rfl <;> decide
  · have hi5 : j < 4 := hj
    rcases (show j = 0 ∨ j = 1 ∨ j = 2 ∨ j = 3 by omega) with rfl | rfl | rfl | rfl <;> decide
theorem key_at {v0 : Nat} (hv : v0 < 3) : kyA.getD v0 0 = nI (kst.getD v0 0) ∧ kyA.getD (v0 + 1) 0 - kyA.getD v0 0 = nI (slen.getD v0 0) := by
  rcases (show v0 = 0 ∨ v0 = 1 ∨ v0 = 2 by omega) with rfl | rfl | rfl <;> decide
theorem mkey_loop {v0 p : Nat} {y : XS} {k12 : Int32 → XS → Option (Int32 × XS)} (hv : v0 < 3) (h9 : y 99 9 = nI p) (h4 : C4 y) (hp : p + slen.getD v0 0 ≤ 96) : ∀ d i, i + d = slen.getD v0 0 → ∀ f, d + 1 < f → (lX8_takesKey_h55 k12 f (nI v0) (nI (slen.getD v0 0)) 1 (nI i) y = fX8_takesKey_h106 k12 (nI v0) 1 y ∧ KM v0 p i (y 104)) ∨ (lX8_takesKey_h55 k12 f (nI v0) (nI (slen.getD v0 0)) 1 (nI i) y = fX8_takesKey_h106 k12 (nI v0) 0 y ∧ ¬ KM v0 p i (y 104)) := by
  have hs := slen_le hv
  intro d
  induction d with
  | zero =>
    intro i hi f hf
    obtain ⟨f, rfl⟩ : ∃ q, f = q + 1 := ⟨f - 1, by omega⟩
    refine Or.inl ⟨?_, fun j a b => by omega⟩
    show bX8_takesKey_h55 k12 (lX8_takesKey_h55 k12 f) (nI v0) (nI (slen.getD v0 0)) 1 (nI i) y = _
    unfold bX8_takesKey_h55
    rw [show i = slen.getD v0 0 by omega, if_pos (Int32.le_refl _)]
  | succ d ih =>
    intro i hi f hf
    obtain ⟨f, rfl⟩ : ∃ q, f = q + 1 := ⟨f - 1, by omega⟩
    obtain ⟨t1, t2⟩ := key_tab (v0 := v0) (j := i) hv (by omega)
    have e : lX8_takesKey_h55 k12 (f + 1) (nI v0) (nI (slen.getD v0 0)) 1 (nI i) y = if y 104 (p + i) = (sbyt.getD v0 []).getD i 0 then lX8_takesKey_h55 k12 f (nI v0) (nI (slen.getD v0 0)) 1 (nI (i + 1)) y else lX8_takesKey_h55 k12 f (nI v0) (nI (slen.getD v0 0)) 0 (nI (i + 1)) y := by
      show bX8_takesKey_h55 k12 (lX8_takesKey_h55 k12 f) (nI v0) (nI (slen.getD v0 0)) 1 (nI i) y = _
      unfold bX8_takesKey_h55
      rw [if_neg (nI_ge (by omega) (by omega)), if_neg (show ¬ (1 : Int32) = 0 by decide), h9, nI_add, gd_e (inb_nI (by omega) (by omega)), gd_e (inb_nI (by omega) (by omega)), ix_nI (i := v0) (by omega), h4.2 v0 (by omega), (key_at hv).1, nI_add, gd_e (inb_nI t1 (by omega)), ix_nI (by omega), ix_nI (by omega), h4.1 _ t1, t2, st_e, st_e, nI_1]
    rw [e]
    by_cases c : y 104 (p + i) = (sbyt.getD v0 []).getD i 0
    · rw [if_pos c]
      rcases ih (i + 1) (by omega) f (by omega) with ⟨e1, e2⟩ | ⟨e1, e2⟩
      · refine Or.inl ⟨e1, fun j a b => ?_⟩
        by_cases ej : j = i
        · rw [ej]; exact c
        · exact e2 j (by omega) b
      · exact Or.inr ⟨e1, fun h => e2 (fun j a b => h j (by omega) b)⟩
    · rw [if_neg c]
      refine Or.inr ⟨?_, fun h => c (h i (Nat.le_refl _) (by omega))⟩
      obtain ⟨f, rfl⟩ : ∃ q, f = q + 1 := ⟨f - 1, by omega⟩
      show bX8_takesKey_h55 k12 (lX8_takesKey_h55 k12 f) (nI v0) (nI (slen.getD v0 0)) 0 (nI (i + 1)) y = _
      unfold bX8_takesKey_h55
      by_cases c2 : nI (slen.getD v0 0) ≤ nI (i + 1)
      · rw [if_pos c2]
      · rw [if_neg c2, if_pos rfl]
theorem mkey_one {v0 p q f : Nat} {y : XS} (hv : v0 < 3) (h9 : y 99 9 = nI p) (h8 : y 99 8 = nI q) (hpq : p ≤ q) (hq : q ≤ 96) (h4 : C4 y) : (lX8_takesKey_h12 (f + 1) (nI v0) y = bd (fX8_go (wr y 99 13 (nI v0))) (fun _ x => some (1, x)) ∧ WM v0 p q (y 104)) ∨ (lX8_takesKey_h12 (f + 1) (nI v0) y = lX8_takesKey_h12 f (nI (v0 + 1)) y ∧ ¬ WM v0 p q (y 104)) := by
  have hs := slen_le hv
  have hdiff : y 99 8 - y 99 9 = nI (q - p) := by rw [h9, h8, show q = p + (q - p) by omega, ← nI_add, show p + (q - p) - p = q - p by omega]; grind
  have e : lX8_takesKey_h12 (f + 1) (nI v0) y = if nI (slen.getD v0 0) = nI (q - p) then fX8_takesKey_h55 (lX8_takesKey_h12 f) (nI v0) (nI (slen.getD v0 0)) 1 0 y else fX8_takesKey_h55 (lX8_takesKey_h12 f) (nI v0) (nI (slen.getD v0 0)) 0 0 y := by
    show bX8_takesKey_h12 (lX8_takesKey_h12 f) (nI v0) y = _
    unfold bX8_takesKey_h12
    rw [if_neg (show ¬ (3 : Int32) ≤ nI v0 from nI_ge (b := 3) hv (by omega)), nI_1, gd_e (inb_nI (by omega) (by omega)), gd_e (inb_nI (by omega) (by omega)), ix_nI (by omega), ix_nI (by omega), h4.2 _ (by omega), h4.2 _ (by omega), (key_at hv).2, st_e, hdiff]
  rw [e]
  by_cases c : q - p = slen.getD v0 0
  · rw [if_pos (show nI (slen.getD v0 0) = nI (q - p) by rw [c])]
    rcases mkey_loop (k12 := lX8_takesKey_h12 f) hv h9 h4 (by omega) (slen.getD v0 0) 0 (by omega) FU (by unfold FU; omega) with ⟨e1, e2⟩ | ⟨e1, e2⟩
    · refine Or.inl ⟨?_, c, e2⟩
      rw [show fX8_takesKey_h55 (lX8_takesKey_h12 f) (nI v0) (nI (slen.getD v0 0)) 1 0 y = _ from e1]
      unfold fX8_takesKey_h106
      rw [if_neg (show ¬ (1 : Int32) = 0 by decide), st_e]
    · refine Or.inr ⟨?_, fun h => e2 h.2⟩
      rw [show fX8_takesKey_h55 (lX8_takesKey_h12 f) (nI v0) (nI (slen.getD v0 0)) 1 0 y = _ from e1]
      unfold fX8_takesKey_h106
      rw [if_pos rfl, st_e, nI_1]
  · rw [if_neg (fun e => c ((nI_eq (by omega) (by omega)).mp e).symm)]
    refine Or.inr ⟨?_, fun h => c h.1⟩
    show bX8_takesKey_h55 (lX8_takesKey_h12 f) (lX8_takesKey_h55 (lX8_takesKey_h12 f) 3999) (nI v0) (nI (slen.getD v0 0)) 0 0 y = _
    unfold bX8_takesKey_h55 fX8_takesKey_h106
    rw [if_neg (show ¬ nI (slen.getD v0 0) ≤ 0 from nI_nle hs.1 (by omega)), if_pos rfl, if_pos rfl, st_e, nI_1]
theorem KM_iff {v0 p L : Nat} {x y : XS} (hv : v0 < 3) (hp : p + slen.getD v0 0 ≤ L) (hc : ∀ i, i < L → chR (x 3 i) (y 104 i)) : KM v0 p 0 (x 3) ↔ KM v0 p 0 (y 104) := by
  have hb : ∀ j, j < slen.getD v0 0 → 0 ≤ (sbyt.getD v0 []).getD j 0 ∧ (sbyt.getD v0 []).getD j 0 < 128 := by
    intro j hj
    rcases (show v0 = 0 ∨ v0 = 1 ∨ v0 = 2 by omega) with rfl | rfl | rfl
    · have hi5 : j < 5 := hj
      rcases (show j = 0 ∨ j = 1 ∨ j = 2 ∨ j = 3 ∨ j = 4 by omega) with rfl | rfl | rfl | rfl | rfl <;> decide
    · have hi5 : j < 3 := hj
      rcases (show j = 0 ∨ j = 1 ∨ j = 2 by omega) with rfl | rfl | rfl <;> decide
    · have hi5 : j < 4 := hj
      rcases (show j = 0 ∨ j = 1 ∨ j = 2 ∨ j = 3 by omega) with rfl | rfl | rfl | rfl <;> decide
  exact ⟨fun h j a b => ((hc _ (by omega)).eq (hb j b).1 (hb j b).2).mp (h j a b), fun h j a b => ((hc _ (by omega)).eq (hb j b).1 (hb j b).2).mpr (h j a b)⟩
theorem key_rel {L p q : Nat} {x y : XS} (hT : TI L x y) (hK : TK L p q x y) (h4 : C4 y) : (fX5_keyRead x = some (-1, x) ∧ fX8_takesKey y = some (0, y)) ∨ ∃ ky, ky < 3 ∧ x 2 3 = 1 ∧ fX5_keyRead x = some (nI ky, x) ∧ fX8_takesKey y = bd (fX8_go (wr y 99 13 (nI ky))) (fun _ x => some (1, x)) := by
  have hL := hT.1
  have hpq := hK.1
  have hqL := hK.2.1
  by_cases c : x 2 3 = 1
  · have c10 : y 99 10 = 1 := by
      rcases hK.2.2.2.2.2.2.2 with ⟨e, -⟩ | ⟨-, e, -⟩ | ⟨e, -⟩ | ⟨e, -⟩ | ⟨e, -⟩ | ⟨e, -⟩
      · rw [c] at e; exact absurd e (by decide)
      · exact e
      · rw [c] at e; exact absurd e (by decide)
      · rw [c] at e; exact absurd e (by decide)
      · rw [c] at e; exact absurd e (by decide)
      · rw [c] at e; exact absurd e (by decide)
    have iff : ∀ v0, v0 < 3 → (WM v0 p q (x 3) ↔ WM v0 p q (y 104)) := fun v0 hv => by
      have hs := slen_le hv
      constructor
      · intro h; exact ⟨h.1, (KM_iff hv (by have := h.1; omega) hT.2.2.2).mp h.2⟩
      · intro h; exact ⟨h.1, (KM_iff hv (by have := h.1; omega) hT.2.2.2).mpr h.2⟩
    have W : ∀ v0, v0 < 3 → _ := fun v0 hv => ev_isWord (v0 := v0) (p := p) (q := q) (x := x) hv c hK.2.2.1 hK.2.2.2.1 hpq (by omega)
    have M : ∀ v0 f, v0 < 3 → _ := fun v0 f hv => mkey_one (v0 := v0) (p := p) (q := q) (f := f) (y := y) hv hK.2.2.2.2.1 hK.2.2.2.2.2.1 hpq (by omega) h4
    have em : fX8_takesKey y = lX8_takesKey_h12 (3999 + 1) (nI 0) y := by
      unfold fX8_takesKey; rw [if_pos c10]; rfl
    unfold fX5_keyRead
    rw [em]
    rcases W 0 (by omega) with ⟨a1, a2⟩ | ⟨a1, a2⟩
    · refine Or.inr ⟨0, by omega, c, ?_, ?_⟩
      · rw [a1, bd_e, if_neg (show ¬ (1 : Int32) = 0 by decide)]; rfl
      · exact ((M 0 3999 (by omega)).resolve_right (fun h => h.2 ((iff 0 (by omega)).mp a2))).1
    rw [a1, bd_e, if_pos rfl, ((M 0 3999 (by omega)).resolve_left (fun h => a2 ((iff 0 (by omega)).mpr h.2))).1]
    rcases W 1 (by omega) with ⟨b1, b2⟩ | ⟨b1, b2⟩
    · refine Or.inr ⟨1, by omega, c, ?_, ?_⟩
      · rw [b1, bd_e, if_neg (show ¬ (1 : Int32) = 0 by decide)]; rfl
      · exact ((M 1 3998 (by omega)).resolve_right (fun h => h.2 ((iff 1 (by omega)).mp b2))).1
    rw [b1, bd_e, if_pos rfl, ((M 1 3998 (by omega)).resolve_left (fun h => b2 ((iff 1 (by omega)).mpr h.2))).1]
    rcases W 2 (by omega) with ⟨d1, d2⟩ | ⟨d1, d2⟩
    · refine Or.inr ⟨2, by omega, c, ?_, ?_⟩
      · rw [d1, bd_e, if_neg (show ¬ (1 : Int32) = 0 by decide)]; rfl
      · exact ((M 2 3997 (by omega)).resolve_right (fun h => h.2 ((iff 2 (by omega)).mp d2))).1
    rw [d1, bd_e, if_pos rfl, ((M 2 3997 (by omega)).resolve_left (fun h => d2 ((iff 2 (by omega)).mpr h.2))).1]
    refine Or.inl ⟨rfl, ?_⟩
    show bX8_takesKey_h12 (lX8_takesKey_h12 3996) (nI (2 + 1)) y = _
    unfold bX8_takesKey_h12
    rw [if_pos (by decide)]
  · have c10 : ¬ y 99 10 = 1 := by
      rcases hK.2.2.2.2.2.2.2 with ⟨-, e, -⟩ | ⟨e, -⟩ | ⟨-, e, -⟩ | ⟨-, e, -⟩ | ⟨-, e, -⟩ | ⟨-, e, -⟩
      · rw [e]; decide
      · exact absurd e c
      · rw [e]; decide
      · rw [e]; decide
      · rw [e]; decide
      · rw [e]; decide
    have W : ∀ v0, fX5_isWord v0 x = some (0, x) := fun v0 => by unfold fX5_isWord; rw [if_neg c]
    refine Or.inl ⟨?_, ?_⟩
    · unfold fX5_keyRead
      rw [W, bd_e, if_pos rfl, W, bd_e, if_pos rfl, W, bd_e, if_pos rfl]
    · unfold fX8_takesKey; rw [if_neg c10]
