def TI (L : Nat) (x y : XS) : Prop := L ≤ 96 ∧ x 2 2 = nI L ∧ y 99 7 = nI L ∧ ∀ i, i < L → chR (x 3 i) (y 104 i)
abbrev AL (x : XS) (q : Nat) : Prop := 0 < q ∧ (isl (x 3 (q - 1)) ∨ isd (x 3 (q - 1)))
def EN (q : Nat) (x y : XS) : Prop := (y 99 12 = -1 ∧ ¬ AL x q) ∨ ∃ e, e ≤ q ∧ y 99 12 = nI e ∧ (e = q ↔ AL x q)
def KD (L p q : Nat) (x y : XS) : Prop :=
 (x 2 3 = 0 ∧ y 99 10 = 0 ∧ p = L) ∨
 (x 2 3 = 1 ∧ y 99 10 = 1 ∧ p < q ∧ y 99 11 = y 104 p ∧ ∀ i, p ≤ i → i < q → isl (x 3 i)) ∨
 (x 2 3 = 2 ∧ y 99 10 = 2 ∧ p < q ∧ q ≤ p + 4 ∧ y 99 11 = dv (y 104) p (q - p) ∧ ∀ i, p ≤ i → i < q → isd (x 3 i)) ∨
 (x 2 3 = 2 ∧ y 99 10 = 4 ∧ p + 4 < q) ∨ (x 2 3 = 4 ∧ y 99 10 = 4 ∧ p < q) ∨ (x 2 3 = 3 ∧ y 99 10 = 3 ∧ q = p + 1 ∧ y 99 11 = y 104 p)
def TK (L p q : Nat) (x y : XS) : Prop := p ≤ q ∧ q ≤ L ∧ x 2 4 = nI p ∧ x 2 5 = nI q ∧ y 99 9 = nI p ∧ y 99 8 = nI q ∧ EN q x y ∧ KD L p q x y
def FRc (x x1 : XS) : Prop := (∀ j, j ≠ 2 → x1 j = x j) ∧ ∀ k, k ≠ 3 → k ≠ 4 → k ≠ 5 → x1 2 k = x 2 k
def FRm (y y1 : XS) : Prop := (∀ j, j ≠ 99 → y1 j = y j) ∧ ∀ k, k < 8 ∨ 12 < k → y1 99 k = y 99 k
theorem ev196 {p : Nat} {X : XS} (hp : p ≤ 96) (h3 : X 2 3 ≠ 3) (h4 : X 2 4 = nI p) : fX5_step_h196 X = some ((), if AL X p then wr X 2 3 4 else X) := by
  unfold fX5_step_h196
  rw [if_neg h3, h4]
  by_cases c : p = 0
  · subst c
    rw [if_pos (by decide), if_neg (fun q => Nat.lt_irrefl 0 q.1)]
  · rw [if_neg (nI_nle (by omega) (by omega)), show nI p - 1 = nI (p - 1) by rw [show p = (p - 1) + 1 by omega, nI_pred]; rfl, gd_e (inb_nI (by omega) (by omega)), ix_nI (by omega), cv_lt, bdif, h4, show nI p - 1 = nI (p - 1) by rw [show p = (p - 1) + 1 by omega, nI_pred]; rfl, gd_e (inb_nI (by omega) (by omega)), ix_nI (by omega), cv_dg, bdif]
    by_cases c1 : isl (X 3 (p - 1))
    · rw [if_pos c1, if_pos ⟨by omega, Or.inl c1⟩]; rfl
    · rw [if_neg c1]
      by_cases c2 : isd (X 3 (p - 1))
      · rw [if_pos c2, if_pos ⟨by omega, Or.inr c2⟩]; rfl
      · rw [if_neg c2, if_neg (fun q => q.2.elim c1 c2)]
theorem ifk {P : Prop} [Decidable P] {X : XS} {k : Nat} (hk : k ≠ 3) : (if P then wr X 2 3 4 else X) 2 k = X 2 k := by
  by_cases c : P
  · rw [if_pos c, wr_at, if_pos rfl, if_neg hk]
  · rw [if_neg c]
theorem glue {L p q : Nat} {x y : XS} (hE : EN q x y) (hpq : q ≤ p) (hp : p ≤ 96) (hs : ∀ i, q ≤ i → i < p → x 3 i = 32) : y 99 12 = nI p ↔ AL x p := by
  by_cases e : p = q
  · subst e
    rcases hE with ⟨a, b⟩ | ⟨e, he, a, b⟩
    · rw [a]
      refine ⟨fun h => absurd h ?_, fun h => absurd h b⟩
      intro h
      have : (0 : Int32) ≤ nI p := nI_pos' (by omega)
      rw [← h] at this
      exact absurd this (by decide)
    · rw [a, nI_eq (by omega) (by omega)]; exact b
  · have h32 := hs (p - 1) (by omega) (by omega)
    have hn : ¬ AL x p := by
      unfold AL
      rw [h32]
      rintro ⟨-, h | h⟩ <;> exact absurd h (by decide)
    refine ⟨fun h => ?_, fun h => absurd h hn⟩
    rcases hE with ⟨a, b⟩ | ⟨e, he, a, b⟩
    · have : (0 : Int32) ≤ nI p := nI_pos' (by omega)
      rw [← h, a] at this
      exact absurd this (by decide)
    · rw [a, nI_eq (by omega) (by omega)] at h; omega
theorem EN.up {p q q1 : Nat} {x y : XS} (hE : EN q x y) (hq : q < q1) (hn : ¬ AL x q1) : EN q1 x y := by
  rcases hE with ⟨a, b⟩ | ⟨e, he, a, b⟩
  · exact Or.inl ⟨a, hn⟩
  · exact Or.inr ⟨e, by omega, a, fun h => by omega, fun h => absurd h hn⟩
theorem EN.cong {q : Nat} {x y x1 y1 : XS} (h : EN q x y) (h3 : x1 3 = x 3) (hy : y1 99 12 = y 99 12) : EN q x1 y1 := by
  unfold EN AL at *
  rw [h3, hy]; exact h
theorem step_rel {L q : Nat} {x y : XS} (hT : TI L x y) (h5 : x 2 5 = nI q) (h8 : y 99 8 = nI q) (hq : q ≤ L) (hE : EN q x y) : ∃ x1 y1 p q1, fX5_step x = some ((), x1) ∧ fX8_go y = some ((), y1) ∧ q ≤ p ∧ TK L p q1 x1 y1 ∧ FRc x x1 ∧ FRm y y1 := by
  obtain ⟨hL, h2, h7, hc⟩ := hT
  obtain ⟨p, hp⟩ : ∃ p, p = fst1 (Pd (fun b => b = 32) (x 3)) (L - q) q := ⟨_, rfl⟩
  have hpm : p = fst1 (Pd (fun b => b = 32) (y 104)) (L - q) q := by
    rw [hp]
    refine fst1_cong _ _ (fun i a b => ?_)
    unfold Pd
    exact decide_eq_decide.mpr (hc i (by omega)).sp
  have hge := fst1_ge (P := Pd (fun b => b = 32) (x 3)) (L - q) q
  rw [← hp] at hge
  have hsp : ∀ i, q ≤ i → i < p → x 3 i = 32 := fun i a b => of_decide_eq_true (fst1_in (P := Pd (fun b => b = 32) (x 3)) (L - q) q i a (by rw [← hp]; exact b))
  have hns : p < L → ¬ x 3 p = 32 := fun h e => by
    have := fst1_at (P := Pd (fun b => b = 32) (x 3)) (L - q) q (by rw [← hp]; omega)
    rw [← hp] at this
    exact this (decide_eq_true e)
  have hg := glue (L := L) hE hge.1 (by omega) hsp
  have ec : fX5_step x = fX5_step_h38 (wr x 2 5 (nI p)) := by
    rw [hp]; exact c_sp hL (L - q) q x (by omega) h2 h5 rfl FU (by unfold FU; omega)
  have em : fX8_go y = fX8_go_h38 (wr y 99 8 (nI p)) := by
    rw [hpm]; exact m_sp hL (L - q) q y (by omega) h7 h8 rfl FU (by unfold FU; omega)
  obtain ⟨X, hX⟩ : ∃ X, X = wr (wr x 2 5 (nI p)) 2 4 (nI p) := ⟨_, rfl⟩
  obtain ⟨Y, hY⟩ : ∃ Y, Y = wr (wr y 99 8 (nI p)) 99 9 (nI p) := ⟨_, rfl⟩
  have X5 : X 2 5 = nI p := by rw [hX]; grind [wr_at]
  have X4 : X 2 4 = nI p := by rw [hX]; grind [wr_at]
  have X2 : X 2 2 = nI L := by rw [hX]; grind [wr_at]
  have X3 : X 3 = x 3 := by rw [hX, wr_ne (by omega), wr_ne (by omega)]
  have Xo : ∀ j k, ¬ (j = 2 ∧ (k = 4 ∨ k = 5)) → X j k = x j k := fun j k h => by rw [hX]; grind [wr_at]
  have Y8 : Y 99 8 = nI p := by rw [hY]; grind [wr_at]
  have Y9 : Y 99 9 = nI p := by rw [hY]; grind [wr_at]
  have Y7 : Y 99 7 = nI L := by rw [hY]; grind [wr_at]
  have Y12 : Y 99 12 = y 99 12 := by rw [hY]; grind [wr_at]
  have Y4 : Y 104 = y 104 := by rw [hY, wr_ne (by omega), wr_ne (by omega)]
  have Yo : ∀ j k, ¬ (j = 99 ∧ (k = 8 ∨ k = 9)) → Y j k = y j k := fun j k h => by rw [hY]; grind [wr_at]
  have ec2 : fX5_step x = (if nI p < nI L then (gd (inb (nI p) 96) (bd (fX5_isLetter (X 3 (ix (nI p))) X) (fun r_8 x_9 => (if r_8 = 0 then (gd (inb (x_9 2 5) 96) (bd (fX5_isDigit (x_9 3 (ix (x_9 2 5))) x_9) (fun r_12 x_13 => (if r_12 = 0 then (st_ (wr x_13 2 3 3) (fun x_15 => (st_ (wr x_15 2 5 ((x_15 2 5) + 1)) (fun x_16 => (fX5_step_h196 x_16))))) else (st_ (wr x_13 2 3 2) (fun x_17 => (fX5_step_h142 x_17))))))) else (st_ (wr x_9 2 3 1) (fun x_18 => (fX5_step_h83 x_18))))))) else (st_ (wr X 2 3 0) (fun x_19 => (some ((), x_19))))) := by
    rw [ec]
    unfold fX5_step_h38
    rw [show wr x 2 5 (nI p) 2 5 = nI p by rw [wr_at, if_pos rfl, if_pos rfl], st_e, ← hX, X5, X2]
  obtain ⟨s, hs⟩ : ∃ s : Int32, s = if AL x p then 1 else 0 := ⟨_, rfl⟩
  have em2 : fX8_go y = fX8_go_h62 s Y := by
    rw [em]
    unfold fX8_go_h38
    rw [show wr y 99 8 (nI p) 99 8 = nI p by rw [wr_at, if_pos rfl, if_pos rfl], st_e, ← hY, Y9, Y12, hs]
    by_cases c : AL x p
    · rw [if_pos c, if_pos (hg.mpr c).symm]
    · rw [if_neg c, if_neg (fun e => c (hg.mp e.symm))]
  rw [ec2, em2]
  unfold fX8_go_h62
  rw [Y9, Y7]
  by_cases pL : p = L
  · subst pL
    rw [if_neg (fun h => by rw [Int32.lt_iff_toInt_lt] at h; omega), if_pos rfl, st_e, st_e]
    refine ⟨_, _, p, p, rfl, rfl, hge.1, ⟨Nat.le_refl _, Nat.le_refl _, by grind [wr_at], by grind [wr_at], by grind [wr_at], by grind [wr_at], ?_, Or.inl ⟨by grind [wr_at], by grind [wr_at], rfl⟩⟩, ⟨fun j hj => ?_, fun k a b c => by rw [wr_at, if_pos rfl, if_neg a]; exact Xo _ _ (by omega)⟩, fun j hj => ?_, fun k a => by rw [wr_at, if_pos rfl, if_neg (by omega)]; exact Yo _ _ (by omega)⟩
    · by_cases e : q = p
      · subst e
        exact hE.cong (by rw [wr_ne (by omega), X3]) (by rw [wr_at, if_pos rfl, if_neg (by omega), Y12])
      · have hn : ¬ AL x p := by
          have h32 := hsp (p - 1) (by omega) (by omega)
          unfold AL
          rw [h32]
          rintro ⟨-, h | h⟩ <;> exact absurd h (by decide)
        exact (hE.up (p := p) (q1 := p) (by omega) hn).cong (by rw [wr_ne (by omega), X3]) (by rw [wr_at, if_pos rfl, if_neg (by omega), Y12])
    · rw [wr_ne hj]; funext k; exact Xo j k (by omega)
    · rw [wr_ne hj]; funext k; exact Yo j k (by omega)
  · have pl : p < L := by omega
    rw [if_pos (nI_lt pl (by omega)), if_neg (fun e => pL ((nI_eq (by omega) (by omega)).mp e)), gd_e (inb_nI (by omega) (by omega)), ix_nI (by omega), cv_lt, bdif, X5, gd_e (inb_nI (by omega) (by omega)), ix_nI (by omega), cv_dg, bdif, mv_lt Y7 hL (by omega), bdif, Y9, mv_dg Y7 hL (by omega), bdif, X3, Y4]
    have hcp := hc p pl
    have ALX : ∀ Z : XS, Z 3 = x 3 → ∀ r, AL Z r ↔ AL x r := fun Z h r => by unfold AL; rw [h]
    by_cases cl : isl (x 3 p)
    · -- a word
      rw [if_pos cl, if_pos ⟨pl, hcp.lt.mp cl⟩, st_e]
      obtain ⟨q1, hq1⟩ : ∃ q1, q1 = fst1 (Pd isl (x 3)) (L - p) p := ⟨_, rfl⟩
      have hq1m : q1 = fst1 (Pd isl (y 104)) (L - p) p := by
        rw [hq1]
        refine fst1_cong _ _ (fun i a b => ?_)
        unfold Pd
        exact decide_eq_decide.mpr (hc i (by omega)).lt
      have g1 := fst1_ge (P := Pd isl (x 3)) (L - p) p
      rw [← hq1] at g1
      have gin : ∀ i, p ≤ i → i < q1 → isl (x 3 i) := fun i a b => of_decide_eq_true (fst1_in (P := Pd isl (x 3)) (L - p) p i a (by rw [← hq1]; exact b))
      have gpos : p < q1 := by
        by_cases e : q1 = p
        · exfalso
          have := fst1_at (P := Pd isl (x 3)) (L - p) p (by rw [← hq1]; omega)
          rw [← hq1, e] at this
          exact this (decide_eq_true cl)
        · omega
      have halq : AL x q1 := ⟨by omega, Or.inl (gin (q1 - 1) (by omega) (by omega))⟩
      have e1 : fX5_step_h83 (wr X 2 3 1) = fX5_step_h196 (wr (wr X 2 3 1) 2 5 (nI q1)) := by
        rw [hq1]; exact c_lt hL (L - p) p _ (by omega) (by grind [wr_at]) (by grind [wr_at]) (by rw [wr_ne (by omega), X3]) FU (by unfold FU; omega)
      have e2 : fX8_go_h93 s Y = fX8_go_h127 (if s = 0 then 1 else 4) (wr Y 99 8 (nI q1)) := by
        rw [hq1m]; exact m_lt hL (L - p) p _ (by omega) Y7 Y8 Y4 FU (by unfold FU; omega)
      obtain ⟨X', hX'⟩ : ∃ X', X' = wr (wr X 2 3 1) 2 5 (nI q1) := ⟨_, rfl⟩
      have X'3 : X' 3 = x 3 := by rw [hX', wr_ne (by omega), wr_ne (by omega), X3]
      rw [e1, e2, ← hX', ev196 (p := p) (by omega) (by rw [hX']; grind [wr_at]) (by rw [hX']; grind [wr_at])]
      unfold fX8_go_h127
      have hYs : ∀ v, wr (wr Y 99 8 (nI q1)) 99 10 v 99 9 = nI p := fun v => by grind [wr_at]
      have hY4 : ∀ v, wr (wr Y 99 8 (nI q1)) 99 10 v 104 = y 104 := fun v => by rw [wr_ne (by omega), wr_ne (by omega), Y4]
      rw [st_e, hYs, gd_e (inb_nI (by omega) (by omega)), ix_nI (by omega), hY4, st_e, st_e]
      refine ⟨_, _, p, q1, rfl, rfl, hge.1, ?_, ?_, ?_⟩
      · refine ⟨by omega, by omega, ?_, ?_, ?_, ?_, ?_, ?_⟩
        · rw [ifk (by omega), hX', wr_at, if_pos rfl, if_neg (by omega), wr_at, if_pos rfl, if_neg (by omega)]; exact X4
        · rw [ifk (by omega), hX', wr_at, if_pos rfl, if_pos rfl]
        · grind [wr_at]
        · grind [wr_at]
        · refine Or.inr ⟨q1, Nat.le_refl _, by grind [wr_at], fun _ => ?_, fun _ => rfl⟩
          refine (ALX _ ?_ _).mpr halq
          by_cases c : AL X' p
          · rw [if_pos c, wr_ne (by omega), X'3]
          · rw [if_neg c, X'3]
        · by_cases c : AL x p
          · rw [if_pos ((ALX X' X'3 p).mpr c), hs, if_pos c, if_neg (show ¬ (1 : Int32) = 0 by decide)]
            exact Or.inr (Or.inr (Or.inr (Or.inr (Or.inl ⟨by grind [wr_at], by grind [wr_at], gpos⟩))))
          · rw [if_neg (fun h => c ((ALX X' X'3 p).mp h)), hs, if_neg c, if_pos rfl]
            refine Or.inr (Or.inl ⟨by rw [hX', wr_at, if_pos rfl, if_neg (by omega), wr_at, if_pos rfl, if_pos rfl], by grind [wr_at], gpos, ?_, fun i a b => by rw [X'3]; exact gin i a b⟩)
            rw [wr_ne (j := 104) (by omega), wr_ne (j := 104) (by omega), hY4]
            grind [wr_at]
      · have : FRc x X' := ⟨fun j hj => by rw [hX', wr_ne hj, wr_ne hj]; funext k; exact Xo j k (by omega), fun k a b c => by rw [hX', wr_at, if_pos rfl, if_neg c, wr_at, if_pos rfl, if_neg a]; exact Xo _ _ (by omega)⟩
        by_cases c : AL X' p
        · rw [if_pos c]
          exact ⟨fun j hj => by rw [wr_ne hj]; exact this.1 j hj, fun k a b c => by rw [wr_at, if_pos rfl, if_neg a]; exact this.2 k a b c⟩
        · rw [if_neg c]; exact this
      · refine ⟨fun j hj => ?_, fun k a => ?_⟩
        · rw [wr_ne hj, wr_ne hj, wr_ne hj, wr_ne hj]; funext k; exact Yo j k (by omega)
        · rw [wr_at, if_pos rfl, if_neg (by omega), wr_at, if_pos rfl, if_neg (by omega), wr_at, if_pos rfl, if_neg (by omega), wr_at, if_pos rfl, if_neg (by omega)]; exact Yo _ _ (by omega)
    · rw [if_neg cl, if_neg (show ¬ (p < L ∧ isl (y 104 p)) from fun h => cl (hcp.lt.mpr h.2))]
      by_cases cd : isd (x 3 p)
      · -- digits
        rw [if_pos cd, if_pos ⟨pl, hcp.dg.mp cd⟩, st_e, st_e]
        obtain ⟨q1, hq1⟩ : ∃ q1, q1 = fst1 (Pd isd (x 3)) (L - p) p := ⟨_, rfl⟩
        have hq1m : q1 = fst1 (Pd isd (y 104)) (L - p) (p + 0) := by
          rw [hq1]
          refine fst1_cong _ _ (fun i a b => ?_)
          unfold Pd
          exact decide_eq_decide.mpr (hc i (by omega)).dg
        have g1 := fst1_ge (P := Pd isd (x 3)) (L - p) p
        rw [← hq1] at g1
        have gin : ∀ i, p ≤ i → i < q1 → isd (x 3 i) := fun i a b => of_decide_eq_true (fst1_in (P := Pd isd (x 3)) (L - p) p i a (by rw [← hq1]; exact b))
        have gpos : p < q1 := by
          by_cases e : q1 = p
          · exfalso
            have := fst1_at (P := Pd isd (x 3)) (L - p) p (by rw [← hq1]; omega)
            rw [← hq1, e] at this
            exact this (decide_eq_true cd)
          · omega
        have halq : AL x q1 := ⟨by omega, Or.inr (gin (q1 - 1) (by omega) (by omega))⟩
        have e1 : fX5_step_h142 (wr X 2 3 2) = fX5_step_h196 (wr (wr X 2 3 2) 2 5 (nI q1)) := by
          rw [hq1]; exact c_dg hL (L - p) p _ (by omega) (by grind [wr_at]) (by grind [wr_at]) (by rw [wr_ne (by omega), X3]) FU (by unfold FU; omega)
        have e2 : fX8_go_h170 s (wr Y 99 11 0) = go2 s (q1 - p) (wr (wr (wr Y 99 11 0) 99 11 (dv (y 104) p (min (q1 - p) 4))) 99 8 (nI q1)) := by
          rw [hq1m]; exact m_dg hL (L - p) 0 _ (by omega) (by grind [wr_at]) (by grind [wr_at]) (by grind [wr_at]) (by grind [wr_at, dv]) (by rw [wr_ne (by omega), Y4]) FU (by unfold FU; omega)
        obtain ⟨X', hX'⟩ : ∃ X', X' = wr (wr X 2 3 2) 2 5 (nI q1) := ⟨_, rfl⟩
        have X'3 : X' 3 = x 3 := by rw [hX', wr_ne (by omega), wr_ne (by omega), X3]
        obtain ⟨Y', hY'⟩ : ∃ Y', Y' = wr (wr (wr Y 99 11 0) 99 11 (dv (y 104) p (min (q1 - p) 4))) 99 8 (nI q1) := ⟨_, rfl⟩
        have Y'8 : Y' 99 8 = nI q1 := by rw [hY']; grind [wr_at]
        have Y'9 : Y' 99 9 = nI p := by rw [hY']; grind [wr_at]
        have Y'11 : Y' 99 11 = dv (y 104) p (min (q1 - p) 4) := by rw [hY']; grind [wr_at]
        have Y'4 : Y' 104 = y 104 := by rw [hY', wr_ne (by omega), wr_ne (by omega), wr_ne (by omega), Y4]
        have Y'o : ∀ j k, ¬ (j = 99 ∧ 8 ≤ k ∧ k ≤ 12) → Y' j k = y j k := fun j k h => by
          have := Yo j k (by omega)
          rw [hY']; grind [wr_at]
        rw [e1, e2, ← hX', ← hY', ev196 (p := p) (by omega) (by rw [hX']; grind [wr_at]) (by rw [hX']; grind [wr_at])]
        unfold go2
        refine ⟨_, _, p, q1, rfl, rfl, hge.1, ?_, ?_, ?_⟩
        · refine ⟨by omega, by omega, ?_, ?_, ?_, ?_, ?_, ?_⟩
          · rw [ifk (by omega), hX', wr_at, if_pos rfl, if_neg (by omega), wr_at, if_pos rfl, if_neg (by omega)]; exact X4
          · rw [ifk (by omega), hX', wr_at, if_pos rfl, if_pos rfl]
          · grind [wr_at]
          · grind [wr_at]
          · refine Or.inr ⟨q1, Nat.le_refl _, by grind [wr_at], fun _ => ?_, fun _ => rfl⟩
            refine (ALX _ ?_ _).mpr halq
            by_cases c : AL X' p
            · rw [if_pos c, wr_ne (by omega), X'3]
            · rw [if_neg c, X'3]
          · by_cases c : AL x p
            · rw [if_pos ((ALX X' X'3 p).mpr c), hs, if_pos c, if_neg (show ¬ ((1 : Int32) = 0 ∧ q1 - p ≤ 4) from fun h => absurd h.1 (by decide))]
              exact Or.inr (Or.inr (Or.inr (Or.inr (Or.inl ⟨by grind [wr_at], by grind [wr_at], gpos⟩))))
            · rw [if_neg (fun h => c ((ALX X' X'3 p).mp h)), hs, if_neg c]
              have x23 : X' 2 3 = 2 := by rw [hX']; grind [wr_at]
              by_cases c4 : q1 - p ≤ 4
              · rw [if_pos ⟨rfl, c4⟩]
                refine Or.inr (Or.inr (Or.inl ⟨x23, by grind [wr_at], gpos, by omega, ?_, fun i a b => by rw [X'3]; exact gin i a b⟩))
                rw [wr_ne (j := 104) (by omega), wr_ne (j := 104) (by omega), Y'4, wr_at, if_pos rfl, if_neg (by omega), wr_at, if_pos rfl, if_neg (by omega), Y'11, Nat.min_eq_left c4]
              · rw [if_neg (fun h => c4 h.2)]
                exact Or.inr (Or.inr (Or.inr (Or.inl ⟨x23, by grind [wr_at], by omega⟩)))
        · have : FRc x X' := ⟨fun j hj => by rw [hX', wr_ne hj, wr_ne hj]; funext k; exact Xo j k (by omega), fun k a b c => by rw [hX', wr_at, if_pos rfl, if_neg c, wr_at, if_pos rfl, if_neg a]; exact Xo _ _ (by omega)⟩
          by_cases c : AL X' p
          · rw [if_pos c]
            exact ⟨fun j hj => by rw [wr_ne hj]; exact this.1 j hj, fun k a b c => by rw [wr_at, if_pos rfl, if_neg a]; exact this.2 k a b c⟩
          · rw [if_neg c]; exact this
        · refine ⟨fun j hj => ?_, fun k a => ?_⟩
          · rw [wr_ne hj, wr_ne hj]; funext k; exact Y'o j k (by omega)
          · rw [wr_at, if_pos rfl, if_neg (by omega), wr_at, if_pos rfl, if_neg (by omega)]; exact Y'o _ _ (by omega)
      · -- a sign
        rw [if_neg cd, if_neg (show ¬ (p < L ∧ isd (y 104 p)) from fun h => cd (hcp.dg.mpr h.2)), st_e, st_e, st_e]
        have w1 : wr X 2 3 3 2 5 = nI p := by grind [wr_at]
        have w2 : wr Y 99 10 3 99 9 = nI p := by grind [wr_at]
        have w3 : wr Y 99 10 3 104 p = y 104 p := by rw [wr_ne (by omega), Y4]
        rw [w1, w2, gd_e (inb_nI (by omega) (by omega)), ix_nI (by omega), w3, st_e, st_e, nI_1]
        have h196 : fX5_step_h196 (wr (wr X 2 3 3) 2 5 (nI (p + 1))) = some ((), wr (wr X 2 3 3) 2 5 (nI (p + 1))) := by
          unfold fX5_step_h196
          rw [if_pos (by grind [wr_at])]
        rw [h196]
        have w4 : wr (wr Y 99 10 3) 99 11 (y 104 p) 99 8 = nI p := by grind [wr_at]
        rw [w4, nI_1]
        have nal : ¬ AL x (p + 1) := fun h => h.2.elim (by rw [show p + 1 - 1 = p by omega]; exact cl) (by rw [show p + 1 - 1 = p by omega]; exact cd)
        refine ⟨_, _, p, p + 1, rfl, rfl, hge.1, ?_, ?_, ?_⟩
        · refine ⟨by omega, by omega, by grind [wr_at], by grind [wr_at], by grind [wr_at], by grind [wr_at], ?_, ?_⟩
          · exact (hE.up (p := p) (q1 := p + 1) (by omega) nal).cong (by rw [wr_ne (by omega), wr_ne (by omega), X3]) (by grind [wr_at])
          · refine Or.inr (Or.inr (Or.inr (Or.inr (Or.inr ⟨by grind [wr_at], by grind [wr_at], rfl, ?_⟩))))
            rw [wr_ne (j := 104) (by omega), wr_ne (j := 104) (by omega), wr_ne (j := 104) (by omega), Y4]
            grind [wr_at]
        · exact ⟨fun j hj => by rw [wr_ne hj, wr_ne hj]; funext k; exact Xo j k (by omega), fun k a b c => by rw [wr_at, if_pos rfl, if_neg c, wr_at, if_pos rfl, if_neg a]; exact Xo _ _ (by omega)⟩
        · refine ⟨fun j hj => ?_, fun k a => ?_⟩
          · rw [wr_ne hj, wr_ne hj, wr_ne hj]; funext k; exact Yo j k (by omega)
          · rw [wr_at, if_pos rfl, if_neg (by omega), wr_at, if_pos rfl, if_neg (by omega), wr_at, if_pos rfl, if_neg (by omega)]; exact Yo _ _ (by omega)
theorem TI.cong {L : Nat} {x y x1 y1 : XS} (h : TI L x y) (hx : FRc x x1) (hy : FRm y y1) : TI L x1 y1 := by
  obtain ⟨a, b, c, d⟩ := h
  refine ⟨a, by rw [hx.2 2 (by omega) (by omega) (by omega)]; exact b, by rw [hy.2 7 (by omega)]; exact c, ?_⟩
  rw [hx.1 3 (by omega), hy.1 104 (by omega)]
  exact d
