theorem vn0 : vp_nar .boolean 0 = (0 : Int32) := rfl
theorem vn1 : vp_nar .boolean 1 = (1 : Int32) := rfl
def PT (l par : Nat) (y : XS) : Prop := y 99 10 = 3 → ∀ j : Nat, j < 5 → lvo (y 99 11) = nI j → l ≤ j → j = 2 ∧ y 109 par = 1
def OkE (a ky L pm d l par ban : Nat) (W : List Int32) (x y x1 : XS) (r : Int32) (mo : Option (Int32 × XS)) : Prop := r = 1 ∧ ∃ y1 g1 P C1 p1 q1 nu1, mo = lX8_takesE_h28 g1 (nI par) (nI ban) 0 y1 ∧ 100 ≤ g1 + p1 ∧ pm ≤ p1 ∧ ST a ky L p1 q1 nu1 (P.reverse ++ C1) C1 (P ++ W) x1 y1 ∧ (∀ s, s ∈ P → -9 ≤ s ∧ s ≤ -1 ∧ ¬ rk s < nI (l + 1)) ∧ dlr (P.reverse ++ C1) = some (d + 1) ∧ (∀ i, i < par → y1 109 i = y 109 i) ∧ (y1 109 par = 0 ∨ y1 109 par = 1) ∧ (3 ≤ l → y1 109 par = y 109 par) ∧ PT l par y1 ∧ FX a x x1 ∧ FY y y1
def RPc (n : Nat) : Prop := ∀ (a ky L p q nu par ban k g d : Nat) (C W0 : List Int32) (x y : XS), 41 ≤ a → ky < 3 → 7 * (8 - par) + (8 - ban) + 1 ≤ n → par ≤ 8 → ban ≤ 8 → ST a ky L p q nu C C (List.replicate k (-10) ++ W0) x y → W0.count (-11) = par → k + W0.count (-10) = ban → hdP W0 6 → dlr C = some d → 100 ≤ g + p → ∃ r x1, (fEP n).2 a (nI par) (nI ban) x = some (r, x1) ∧ (Fl a x y x1 r (lX8_takesE_h28 g (nI par) (nI ban) 1 y) ∨ OkP a ky L p d par k W0 x y x1 r (lX8_takesE_h28 g (nI par) (nI ban) 1 y))
def REc (n : Nat) : Prop := ∀ (a ky L p q nu l par ban g d : Nat) (C W : List Int32) (x y : XS), 41 ≤ a → ky < 3 → l ≤ 5 → 7 * (8 - par) + (8 - ban) + 1 + (6 - l) ≤ n → par ≤ 8 → ban ≤ 8 → ST a ky L p q nu C C W x y → W.count (-11) = par → W.count (-10) = ban → hdP W (nI (l + 1)) → (l ≤ 2 → y 109 par = 0) → (y 109 par = 0 ∨ y 109 par = 1) → dlr C = some d → 100 ≤ g + p → ∃ r x1, (fEP n).1 a (nI l) (nI par) (nI ban) x = some (r, x1) ∧ (Fl a x y x1 r (lX8_takesE_h28 g (nI par) (nI ban) 1 y) ∨ OkE a ky L (p + 1) d l par ban W x y x1 r (lX8_takesE_h28 g (nI par) (nI ban) 1 y))
theorem ev_sign {L p q : Nat} {x y : XS} (hT : TI L x y) (hK : TK L p q x y) (hp : p < L) : fX5_sign x = some (x 3 p, x) := by
  unfold fX5_sign
  have hL := hT.1
  rw [hT.2.1, hK.2.2.1, if_neg (nI_ge hp (by omega)), gd_e (inb_nI (by omega) (by omega)), ix_nI (by omega)]
theorem ev_isSign {L p q : Nat} {x y : XS} {v : Int32} (hT : TI L x y) (hK : TK L p q x y) : fX5_isSign v x = some (if x 2 3 = 3 ∧ x 3 p = v then 1 else 0, x) := by
  unfold fX5_isSign
  by_cases c : x 2 3 = 3
  · have hpL : p < L := by
      have h1 := hK.2.1
      rcases hK.2.2.2.2.2.2.2 with ⟨e, -⟩ | ⟨e, -⟩ | ⟨e, -⟩ | ⟨e, -⟩ | ⟨e, -⟩ | ⟨-, -, e, -⟩
      · rw [c] at e; exact absurd e (by decide)
      · rw [c] at e; exact absurd e (by decide)
      · rw [c] at e; exact absurd e (by decide)
      · rw [c] at e; exact absurd e (by decide)
      · rw [c] at e; exact absurd e (by decide)
      · omega
    rw [if_pos c, ev_sign hT hK hpL, bd_e]
    by_cases c1 : x 3 p = v
    · rw [if_pos c1, if_pos ⟨c, c1⟩]
    · rw [if_neg c1, if_neg (fun h => c1 h.2)]
  · rw [if_neg c, if_neg (fun h => c h.1)]
theorem TK.k3 {L p q : Nat} {x y : XS} (hK : TK L p q x y) : (x 2 3 = 3 ↔ y 99 10 = 3) ∧ (y 99 10 = 3 → p < L ∧ q = p + 1 ∧ y 99 11 = y 104 p) := by
  have h1 := hK.2.1
  rcases hK.2.2.2.2.2.2.2 with ⟨a, b, -⟩ | ⟨a, b, -⟩ | ⟨a, b, -⟩ | ⟨a, b, -⟩ | ⟨a, b, -⟩ | ⟨a, b, c, d⟩
  · rw [a, b]; exact ⟨⟨fun h => absurd h (by decide), fun h => absurd h (by decide)⟩, fun h => absurd h (by decide)⟩
  · rw [a, b]; exact ⟨⟨fun h => absurd h (by decide), fun h => absurd h (by decide)⟩, fun h => absurd h (by decide)⟩
  · rw [a, b]; exact ⟨⟨fun h => absurd h (by decide), fun h => absurd h (by decide)⟩, fun h => absurd h (by decide)⟩
  · rw [a, b]; exact ⟨⟨fun h => absurd h (by decide), fun h => absurd h (by decide)⟩, fun h => absurd h (by decide)⟩
  · rw [a, b]; exact ⟨⟨fun h => absurd h (by decide), fun h => absurd h (by decide)⟩, fun h => absurd h (by decide)⟩
  · rw [a, b]; exact ⟨Iff.rfl, fun _ => ⟨by omega, c, d⟩⟩
theorem ST.add {a ky L p q nu nu1 : Nat} {D C W : List Int32} {x y X : XS} {m : Int32} (ha : 41 ≤ a) (h : ST a ky L p q nu D C W x y) (hX : FA a x X) (hC : CL a ky nu (m :: D) X) (hm : okc ky m) (hl : D.length + 1 ≤ p) : ST a ky L p q nu (m :: D) C W X y := by
  obtain ⟨hT, hK, -, hM, l1, l2, hD⟩ := h
  have X2 : X 2 = x 2 := hX.1 2 (by omega) (by omega)
  have X3 : X 3 = x 3 := hX.1 3 (by omega) (by omega)
  refine ⟨?_, ?_, hC, hM, l1, by simp only [List.length_cons]; omega, fun m' hm' => ?_⟩
  · unfold TI at *; rw [X2, X3]; exact hT
  · unfold TK KD EN AL at *; rw [X2, X3]; exact hK
  · rcases List.mem_cons.mp hm' with rfl | h
    · exact hm
    · exact hD m' h
/-- the model stops where the class stops -/
theorem m_end {kk : Int32 → Int32 → Int32 → XS → Option (Int32 × XS)} {par : Nat} {u2 : Int32} {y : XS} (hp : par ≤ 9) (h0 : y 99 10 ≠ 0) (hP : PT 0 par y) (h1 : ¬ (y 99 10 = 3 ∧ y 99 11 = 41 ∧ 0 < par)) : bX8_takesE_h28 kk (nI par) u2 0 y = some (0, y) := by
  have h237 : fX8_takesE_h237 kk (nI par) u2 y = some (0, y) := by
    unfold fX8_takesE_h237
    rw [ev_signHere, bd_e]
    by_cases c : y 99 10 = 3
    · rw [if_pos c]
      rcases lv_cases (y 99 11) with ⟨-, e⟩ | ⟨j, hj, e1, e2, e3, e4⟩
      · rw [if_pos e]
      · obtain ⟨rfl, ht⟩ := hP c j hj e1 (by omega)
        rw [if_neg (show ¬ sgn (y 99 11) = 0 by grind), ev_rank, bd_e, e2, if_pos (show nI (2 + 1) = 3 from rfl), gd_e (inb_nI (by omega) (by omega)), ix_nI (by omega), ht, if_neg (by decide)]
    · rw [if_neg c, if_pos rfl]
  unfold bX8_takesE_h28 fX8_takesE_h39
  rw [if_pos rfl, if_neg h0, if_pos rfl, h237]
  by_cases c : y 99 10 = 3
  · rw [if_pos c]
    by_cases c1 : y 99 11 = 41
    · rw [if_pos c1, if_pos (show nI par ≤ 0 by rw [show par = 0 by exact Nat.eq_zero_of_not_pos (fun h => h1 ⟨c, c1, h⟩)]; decide)]
    · rw [if_neg c1]
  · rw [if_neg c]
/-- the model at the end of the text -/
theorem m_zero {ky nu par g : Nat} {C P W : List Int32} {u2 : Int32} {y : XS} (h : MD ky nu C (P ++ W) y) (h0 : y 99 10 = 0) (hW : W = [] ∨ ∃ h W1, W = h :: W1 ∧ (h = -11 ∨ rk h < 0)) (hP : ∀ s, s ∈ P → -9 ≤ s ∧ s ≤ -1) (hl : C.length + P.length + W.length ≤ 96) : ∃ y1, lX8_takesE_h28 (g + 1) (nI par) u2 0 y = some (if nI par = 0 then 1 else 0, y1) ∧ MD ky nu (P.reverse ++ C) W y1 ∧ FP y y1 := by
  obtain ⟨y1, e1, e2, e3, e4⟩ := settle_rel (r := 0) hW P C y h (fun s hs => ⟨by have := hP s hs; grind, by unfold rk; grind (splits := 25)⟩) hl FU (by unfold FU; omega)
  refine ⟨y1, ?_, e2, ⟨fun j a b _ _ => e3 j a b, fun k a _ c => e4 k a c⟩⟩
  show bX8_takesE_h28 (lX8_takesE_h28 g) (nI par) u2 0 y = _
  unfold bX8_takesE_h28
  rw [if_pos rfl, if_pos h0, show fX8_settle 0 y = some ((), y1) from e1, bd_e]
  by_cases c : nI par = 0
  · rw [if_pos c, if_pos c]
  · rw [if_neg c, if_neg c]
/-- the model closes a bracket -/
theorem m_close {ky nu par k g : Nat} {C P W0 : List Int32} {u2 : Int32} {y : XS} (h : MD ky nu C (P ++ (-11) :: (List.replicate k (-10) ++ W0)) y) (h0 : y 99 10 = 3) (h1 : y 99 11 = 41) (hpar : par ≤ 8) (hW : hdP W0 6) (hP : ∀ s, s ∈ P → -9 ≤ s ∧ s ≤ -1) (hl : C.length + P.length + 1 + k + W0.length ≤ 96) : ∃ Y, lX8_takesE_h28 (g + 1) (nI (par + 1)) u2 0 y = bd (fX8_go Y) (fun _ x => lX8_takesE_h28 g (nI par) (nI (W0.count (-10))) 0 x) ∧ MD ky nu (List.replicate k (-10) ++ (P.reverse ++ C)) W0 Y ∧ FP y Y ∧ Y 109 = y 109 := by
  obtain ⟨y1, e1, e2, e3, e4⟩ := settle_rel (r := 0) (W := (-11) :: (List.replicate k (-10) ++ W0)) (Or.inr ⟨_, _, rfl, Or.inl rfl⟩) P C y h (fun s hs => ⟨by have := hP s hs; grind, by unfold rk; grind (splits := 25)⟩) (by simp only [List.length_cons, List.length_append, List.length_replicate]; omega) FU (by unfold FU; omega)
  obtain ⟨g13, g17, g18, g20, gC, gK⟩ := e2
  obtain ⟨Y0, hY⟩ : ∃ Y0, Y0 = wr y1 99 20 (nI (List.replicate k (-10) ++ W0).length) := ⟨_, rfl⟩
  have hM : MD ky nu (P.reverse ++ C) (List.replicate k (-10) ++ W0) Y0 := by
    refine ⟨?_, ?_, ?_, ?_, ?_, ?_⟩
    · rw [hY, wr_at, if_pos rfl, if_neg (by omega)]; exact g13
    · rw [hY, wr_at, if_pos rfl, if_neg (by omega)]; exact g17
    · rw [hY, wr_at, if_pos rfl, if_neg (by omega)]; exact g18
    · rw [hY, wr_at, if_pos rfl, if_pos rfl]
    · rw [hY, wr_ne (by omega)]; exact gC
    · rw [hY, wr_ne (by omega)]; exact gK.2
  obtain ⟨y2, f1, f2, f3, f4⟩ := settle_rel (r := 6) hW (List.replicate k (-10)) (P.reverse ++ C) Y0 hM (fun s hs => by rw [List.eq_of_mem_replicate hs]; decide) (by simp only [List.length_append, List.length_reverse, List.length_replicate]; omega) FU (by simp only [List.length_replicate]; unfold FU; omega)
  rw [List.reverse_replicate] at f2
  refine ⟨y2, ?_, f2, ⟨fun j a b _ _ => ?_, fun j a _ c => ?_⟩, ?_⟩
  · show bX8_takesE_h28 (lX8_takesE_h28 g) (nI (par + 1)) u2 0 y = _
    unfold bX8_takesE_h28 fX8_takesE_h39
    have w : y1 99 20 - 1 = nI (List.replicate k (-10) ++ W0).length := by rw [g20]; exact nI_pred _
    rw [if_pos rfl, if_neg (show ¬ y 99 10 = 0 by rw [h0]; decide), if_pos rfl, if_pos h0, if_pos h1, if_neg (nI_nle (by omega) (by omega)), show fX8_settle 0 y = some ((), y1) from e1, bd_e, w, st_e, st_e, ← hY, show fX8_settle 6 Y0 = some ((), y2) from f1, bd_e, ev_nots f2 (by omega), bd_e, show nI (par + 1) + -1 = nI par by rw [← nI_1]; grind]
  · rw [f3 j a b, hY, wr_ne a, e3 j a b]
  · rw [f4 j a c, hY, wr_at, if_pos rfl, if_neg c, e4 j a c]
  · rw [f3 109 (by omega) (by omega), hY, wr_ne (by omega), e3 109 (by omega) (by omega)]
/-- the model pushes -/
theorem MD.push {ky nu : Nat} {C W : List Int32} {y : XS} {s : Int32} (h : MD ky nu C W y) : MD ky nu C (s :: W) (wr (wr y 108 W.length s) 99 20 (nI (W.length + 1))) ∧ FP y (wr (wr y 108 W.length s) 99 20 (nI (W.length + 1))) := by
  obtain ⟨g13, g17, g18, g20, gC, gK⟩ := h
  refine ⟨⟨?_, ?_, ?_, ?_, ?_, ?_⟩, fun j a _ c _ => by rw [wr_ne a, wr_ne c], fun j a b c => by rw [wr_at, if_pos rfl, if_neg c, wr_ne (by omega)]⟩
  · rw [wr_at, if_pos rfl, if_neg (by omega), wr_ne (by omega)]; exact g13
  · rw [wr_at, if_pos rfl, if_neg (by omega), wr_ne (by omega)]; exact g17
  · rw [wr_at, if_pos rfl, if_neg (by omega), wr_ne (by omega)]; exact g18
  · rw [wr_at, if_pos rfl, if_pos rfl]; rfl
  · rw [wr_ne (by omega), wr_ne (by omega)]; exact gC
  · refine gK.push (fun i => ?_)
    rw [wr_ne (by omega), wr_at, if_pos rfl]
theorem m_not {ky nu par ban g : Nat} {C W : List Int32} {y : XS} (h : MD ky nu C W y) (h0 : y 99 10 = 3) (h1 : y 99 11 = 33) (hb : ban < 8) (hl : W.length < 96) : lX8_takesE_h28 (g + 1) (nI par) (nI ban) 1 y = bd (fX8_go (wr (wr y 108 W.length (-10)) 99 20 (nI (W.length + 1)))) (fun _ x => fX8_takesE_h172 (lX8_takesE_h28 g) (nI par) 1 x) := by
  show bX8_takesE_h28 (lX8_takesE_h28 g) (nI par) (nI ban) 1 y = _
  unfold bX8_takesE_h28 fX8_takesE_h39
  have w : wr y 108 W.length (-10) 99 20 + 1 = nI (W.length + 1) := by rw [wr_ne (by omega), h.2.2.2.1, nI_1]
  rw [if_neg (show ¬ (1 : Int32) = 0 by decide), if_neg (show ¬ (1 : Int32) = 0 by decide), if_pos h0, if_pos h1, if_neg (show ¬ (8 : Int32) ≤ nI ban from nI_ge (b := 8) hb (by omega)), h.2.2.2.1, gd_e (inb_nI hl (by omega)), ix_nI (by omega), st_e, st_e, st_e, w]
theorem m_open {ky nu par g : Nat} {C W : List Int32} {u2 : Int32} {y : XS} (h : MD ky nu C W y) (h0 : y 99 10 = 3) (h1 : y 99 11 = 40) (hb : par < 8) (hl : W.length < 96) : lX8_takesE_h28 (g + 1) (nI par) u2 1 y = bd (fX8_go (wr (wr (wr y 108 W.length (-11)) 99 20 (nI (W.length + 1))) 109 (par + 1) 0)) (fun _ x => fX8_takesE_h172 (lX8_takesE_h28 g) (nI (par + 1)) 1 x) := by
  show bX8_takesE_h28 (lX8_takesE_h28 g) (nI par) u2 1 y = _
  unfold bX8_takesE_h28 fX8_takesE_h39 fX8_takesE_h97
  have w : wr y 108 W.length (-11) 99 20 + 1 = nI (W.length + 1) := by rw [wr_ne (by omega), h.2.2.2.1, nI_1]
  rw [if_neg (show ¬ (1 : Int32) = 0 by decide), if_neg (show ¬ (1 : Int32) = 0 by decide), if_pos h0, if_neg (show ¬ y 99 11 = 33 by rw [h1]; decide), if_pos h0, if_pos h1, if_neg (show ¬ (8 : Int32) ≤ nI par from nI_ge (b := 8) hb (by omega)), h.2.2.2.1, gd_e (inb_nI hl (by omega)), ix_nI (by omega), st_e, st_e, st_e, w, nI_1, gd_e (inb_nI (by omega) (by omega)), ix_nI (by omega), st_e, vn0]
theorem h172 {ky nu par ban g : Nat} {C W : List Int32} {u3 : Int32} {y : XS} (h : MD ky nu C W y) (hl : W.length ≤ 96) (hc : W.count (-10) = ban) : fX8_takesE_h172 (lX8_takesE_h28 g) (nI par) u3 y = lX8_takesE_h28 g (nI par) (nI ban) u3 y := by
  unfold fX8_takesE_h172
  rw [ev_nots h hl, bd_e, hc]
