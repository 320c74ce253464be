def FT (a : Nat) (x x1 y y1 : XS) : Prop := (∀ j, j ≠ 2 → j ≠ a → j ≠ a + 1 → x1 j = x j) ∧ x1 2 0 = 0 ∧ x1 a 0 = x a 0 ∧ (∀ j, j ≠ 99 → j ≠ 107 → j ≠ 108 → j ≠ 109 → y1 j = y j) ∧ ∀ k, k < 7 ∨ 20 < k → y1 99 k = y 99 k
theorem TK.congM {L p q : Nat} {x y y1 : XS} (h : TK L p q x y) (h9 : ∀ k, 7 < k → k < 13 → y1 99 k = y 99 k) (h4 : y1 104 = y 104) : TK L p q x y1 := by
  unfold TK KD EN at *
  rw [h9 8 (by omega) (by omega), h9 9 (by omega) (by omega), h9 10 (by omega) (by omega), h9 11 (by omega) (by omega), h9 12 (by omega) (by omega), h4]
  exact h
theorem parse_rel {n nt : Nat} {x y : XS} (h : CN n nt x y) (hnt : nt ≤ 14) : ∃ x1 y1, FT (41 + 2 * nt) x x1 y y1 ∧ ((∃ p1, p1 ≤ 96 ∧ fX5_useUp (41 + 2 * nt) x = some (nI p1, x1) ∧ fX8_text y = fX8_text_h33 0 y1 ∧ y1 99 9 = nI p1) ∨ (∃ ky nu D, fX5_useUp (41 + 2 * nt) x = some (-1, x1) ∧ fX8_text y = fX8_text_h33 1 y1 ∧ CL (41 + 2 * nt) ky nu D x1 ∧ MD ky nu D [] y1 ∧ ky < 3 ∧ D.length ≤ 96 ∧ (∀ m, m ∈ D → okc ky m) ∧ dlr D = some 1)) := by
  obtain ⟨-, -, ⟨c, hc, c1, c2, c3⟩, hC4, -⟩ := h
  obtain ⟨a, hA⟩ : ∃ a, a = 41 + 2 * nt := ⟨_, rfl⟩
  rw [← hA]
  have ha : 41 ≤ a := by omega
  obtain ⟨X0, hX⟩ : ∃ X0, X0 = wr (wr (wr x 2 2 (nI c)) 2 0 0) 2 5 0 := ⟨_, rfl⟩
  obtain ⟨Y0, hY⟩ : ∃ Y0, Y0 = wr (wr y 99 8 0) 99 12 (-1) := ⟨_, rfl⟩
  have X03 : X0 3 = x 3 := by rw [hX, wr_ne (by omega), wr_ne (by omega), wr_ne (by omega)]
  have Y04 : Y0 104 = y 104 := by rw [hY, wr_ne (by omega), wr_ne (by omega)]
  have hT0 : TI c X0 Y0 := by
    refine ⟨hc, ?_, ?_, fun i hi => ?_⟩
    · rw [hX, wr_at, if_pos rfl, if_neg (by omega), wr_at, if_pos rfl, if_neg (by omega), wr_at, if_pos rfl, if_pos rfl]
    · rw [hY, wr_at, if_pos rfl, if_neg (by omega), wr_at, if_pos rfl, if_neg (by omega)]; exact c2
    · rw [X03, Y04]; exact (c3 i hi).ch
  have X05 : X0 2 5 = nI 0 := by rw [hX, wr_at, if_pos rfl, if_pos rfl]; rfl
  have X00 : X0 2 0 = 0 := by rw [hX, wr_at, if_pos rfl, if_neg (by omega), wr_at, if_pos rfl, if_pos rfl]
  have Y08 : Y0 99 8 = nI 0 := by rw [hY, wr_at, if_pos rfl, if_neg (by omega), wr_at, if_pos rfl, if_pos rfl]; rfl
  have Y012 : Y0 99 12 = -1 := by rw [hY, wr_at, if_pos rfl, if_pos rfl]
  have X0o : ∀ j, j ≠ 2 → X0 j = x j := fun j hj => by rw [hX, wr_ne hj, wr_ne hj, wr_ne hj]
  have Y0o : ∀ j, j ≠ 99 → Y0 j = y j := fun j hj => by rw [hY, wr_ne hj, wr_ne hj]
  have Y09 : ∀ k, k < 8 ∨ 12 < k → Y0 99 k = y 99 k := fun k hk => by rw [hY, wr_at, if_pos rfl, if_neg (by omega), wr_at, if_pos rfl, if_neg (by omega)]
  obtain ⟨x1, y1, p, q, s1, s2, -, sK, s5, s6⟩ := step_rel (q := 0) hT0 X05 Y08 (by omega) (Or.inl ⟨Y012, fun h => Nat.lt_irrefl 0 h.1⟩)
  have sT := hT0.cong s5 s6
  have x1o : ∀ j, j ≠ 2 → x1 j = x j := fun j hj => by rw [s5.1 j hj, X0o j hj]
  have x10 : x1 2 0 = 0 := by rw [s5.2 0 (by omega) (by omega) (by omega), X00]
  have y1o : ∀ j, j ≠ 99 → y1 j = y j := fun j hj => by rw [s6.1 j hj, Y0o j hj]
  have y19 : ∀ k, k < 8 ∨ 12 < k → y1 99 k = y 99 k := fun k hk => by rw [s6.2 k hk, Y09 k hk]
  have hp96 : p ≤ 96 := by have := sK.1; have := sK.2.1; omega
  have eU : fX5_useUp a x = (bd (fX5_keyRead x1) (fun r_6 x_7 => (if 0 ≤ r_6 then (bd (fX6_begin a r_6 x_7) (fun _ x_10 => (bd (fX5_step x_10) (fun _ x_12 => (bd ((fEP 200).1 a 0 0 0 x_12) (fun r_13 x_14 => (if r_13 = 0 then (some ((x_14 2 4), x_14)) else (if (x_14 2 3) = 0 then (some ((-1), x_14)) else (some ((x_14 2 4), x_14)))))))))) else (some ((x_7 2 4), x_7))))) := by
    unfold fX5_useUp
    rw [c1, st_e, st_e, st_e, ← hX, s1, bd_e]
  have eT : fX8_text y = (bd (fX8_takesKey y1) (fun r_5 x_6 => (if r_5 = 0 then (fX8_text_h33 0 x_6) else (bd (fX8_takesE x_6) (fun r_8 x_9 => (if r_8 = 0 then (fX8_text_h33 0 x_9) else (fX8_text_h33 1 x_9))))))) := by
    unfold fX8_text
    rw [st_e, st_e, ← hY, s2, bd_e]
  rw [eU, eT]
  rcases key_rel sT sK (hC4.cong (y1o 105 (by omega)) (y1o 106 (by omega))) with ⟨k1, k2⟩ | ⟨ky, hky, hk3, k1, k2⟩
  · refine ⟨x1, y1, ⟨fun j h2 _ _ => x1o j h2, x10, by rw [x1o a (by omega)], fun j h9 _ _ _ => y1o j h9, fun k hk => y19 k (by omega)⟩, Or.inl ⟨p, hp96, ?_, ?_, sK.2.2.2.2.1⟩⟩
    · rw [k1, bd_e, if_neg (by decide), sK.2.2.1]
    · rw [k2, bd_e, if_pos rfl]
  · rw [k1, bd_e, if_pos (nI_pos' (by omega)), k2]
    obtain ⟨X1, hX1⟩ : ∃ X1, X1 = wr (wr (wr x1 a 1 (nI ky)) a 2 0) a 3 0 := ⟨_, rfl⟩
    have eB : fX6_begin a (nI ky) x1 = some ((), X1) := by unfold fX6_begin; rw [st_e, st_e, st_e, ← hX1]
    have X1o : ∀ j, j ≠ a → X1 j = x1 j := fun j hj => by rw [hX1, wr_ne hj, wr_ne hj, wr_ne hj]
    have X1a : X1 a 0 = x1 a 0 := by rw [hX1, wr_at, if_pos rfl, if_neg (by omega), wr_at, if_pos rfl, if_neg (by omega), wr_at, if_pos rfl, if_neg (by omega)]
    have hCL : CL a ky 0 [] X1 := by
      refine ⟨?_, ?_, ?_, True.intro⟩
      · rw [hX1, wr_at, if_pos rfl, if_neg (by omega), wr_at, if_pos rfl, if_neg (by omega), wr_at, if_pos rfl, if_pos rfl]
      · rw [hX1, wr_at, if_pos rfl, if_neg (by omega), wr_at, if_pos rfl, if_pos rfl]; rfl
      · rw [hX1, wr_at, if_pos rfl, if_pos rfl]; rfl
    obtain ⟨Y1, hY1⟩ : ∃ Y1, Y1 = wr y1 99 13 (nI ky) := ⟨_, rfl⟩
    have Y1o : ∀ j, j ≠ 99 → Y1 j = y1 j := fun j hj => by rw [hY1, wr_ne hj]
    have Y19 : ∀ k, k ≠ 13 → Y1 99 k = y1 99 k := fun k hk => by rw [hY1, wr_at, if_pos rfl, if_neg hk]
    have hT1 : TI c X1 Y1 := by
      obtain ⟨b1, b2, b3, b4⟩ := sT
      exact ⟨b1, by rw [X1o 2 (by omega)]; exact b2, by rw [Y19 7 (by omega)]; exact b3, by rw [X1o 3 (by omega), Y1o 104 (by omega)]; exact b4⟩
    obtain ⟨x2, y2, p2, q2, t1, t2, t3, tK, t5, t6⟩ := step_rel (q := q) hT1 (by rw [X1o 2 (by omega)]; exact sK.2.2.2.1) (by rw [Y19 8 (by omega)]; exact sK.2.2.2.2.2.1) sK.2.1 (sK.2.2.2.2.2.2.1.cong (X1o 3 (by omega)) (Y19 12 (by omega)))
    rw [eB, bd_e, t1, bd_e, ← hY1, t2, bd_e, bd_e, if_neg (show ¬ (1 : Int32) = 0 by decide)]
    have tT := hT1.cong t5 t6
    obtain ⟨Z, hZ⟩ : ∃ Z, Z = wr (wr (wr (wr y2 99 17 0) 99 18 0) 99 20 0) 109 0 0 := ⟨_, rfl⟩
    have eE : fX8_takesE y2 = lX8_takesE_h28 FU (nI 0) (nI 0) 1 Z := by
      unfold fX8_takesE
      rw [st_e, st_e, st_e, gd_e (by decide), st_e, vn0, show ix 0 = 0 from rfl, ← hZ]
      rfl
    have Zo : ∀ j, j ≠ 99 → j ≠ 109 → Z j = y2 j := fun j h1 h2 => by rw [hZ, wr_ne h2, wr_ne h1, wr_ne h1, wr_ne h1]
    have Z9 : ∀ k, k ≠ 17 → k ≠ 18 → k ≠ 20 → Z 99 k = y2 99 k := fun k h1 h2 h3 => by rw [hZ, wr_ne (by omega), wr_at, if_pos rfl, if_neg h3, wr_at, if_pos rfl, if_neg h2, wr_at, if_pos rfl, if_neg h1]
    have hMD : MD ky 0 [] [] Z := by
      refine ⟨?_, ?_, ?_, ?_, True.intro, True.intro⟩
      · rw [Z9 13 (by omega) (by omega) (by omega), t6.2 13 (by omega), hY1, wr_at, if_pos rfl, if_pos rfl]
      · rw [hZ, wr_ne (by omega), wr_at, if_pos rfl, if_neg (by omega), wr_at, if_pos rfl, if_neg (by omega), wr_at, if_pos rfl, if_pos rfl]; rfl
      · rw [hZ, wr_ne (by omega), wr_at, if_pos rfl, if_neg (by omega), wr_at, if_pos rfl, if_pos rfl]; rfl
      · rw [hZ, wr_ne (by omega), wr_at, if_pos rfl, if_pos rfl]; rfl
    have hZ0 : Z 109 0 = 0 := by rw [hZ, wr_at, if_pos rfl, if_pos rfl]
    have hTZ : TI c x2 Z := ⟨tT.1, tT.2.1, by rw [Z9 7 (by omega) (by omega) (by omega)]; exact tT.2.2.1, by rw [Zo 104 (by omega) (by omega)]; exact tT.2.2.2⟩
    have hST : ST a ky c p2 q2 0 [] [] [] x2 Z := ⟨hTZ, tK.congM (fun k h1 h2 => Z9 k (by omega) (by omega) (by omega)) (Zo 104 (by omega) (by omega)), hCL.cong (t5.1 a (by omega)) (t5.1 _ (by omega)), hMD, by simp, by simp, fun m hm => absurd hm (by simp)⟩
    obtain ⟨r, x3, e1, e2⟩ := (EP_all 200).2 a ky c p2 q2 0 0 0 0 FU 0 [] [] x2 Z ha hky (by omega) (by omega) (by omega) (by omega) hST rfl rfl (Or.inl rfl) (fun _ => hZ0) (Or.inl hZ0) rfl (by unfold FU; omega)
    rw [show (fEP 200).1 a 0 0 0 x2 = some (r, x3) from e1, bd_e, eE]
    have fin : ∀ y3, FX a x2 x3 → FY Z y3 → FT a x x3 y y3 := fun y3 hx hy => by
      refine ⟨fun j b1 b2 b3 => ?_, ?_, ?_, fun j b1 b2 b3 b4 => ?_, fun k hk => ?_⟩
      · rw [hx.1 j b1 b2 b3, t5.1 j b1, X1o j b2, x1o j b1]
      · rw [hx.2.1 0 (by omega) (by omega) (by omega), t5.2 0 (by omega) (by omega) (by omega), X1o 2 (by omega), x10]
      · rw [hx.2.2, t5.1 a (by omega), X1a, x1o a (by omega)]
      · rw [hy.1 j b1 b2 b3 b4, Zo j b1 b4, t6.1 j b1, Y1o j b1, y1o j b1]
      · rw [hy.2 k (by omega), Z9 k (by omega) (by omega) (by omega), t6.2 k (by omega), Y19 k (by omega), y19 k (by omega)]
    rcases e2 with ⟨rfl, y3, p3, f1, f2, f3, f4, f5, f6⟩ | ⟨rfl, y3, g1, P, C1, p3, q3, nu1, o1, o2, o3, o4, oP, o5, o6, o9, o10, oT, o7, o8⟩
    · refine ⟨x3, y3, fin y3 f5 f6, Or.inl ⟨p3, f4, ?_, ?_, f3⟩⟩
      · rw [if_pos rfl, f2]
      · rw [f1, bd_e, if_pos rfl]
    · obtain ⟨uT, uK, uC, uM, ul1, ul2, uD⟩ := o4
      have hp3 : p3 ≤ 96 := by have := uK.1; have := uK.2.1; have := uT.1; omega
      obtain ⟨g1, rfl⟩ : ∃ q, g1 = q + 1 := ⟨g1 - 1, by omega⟩
      rw [if_neg (show ¬ (1 : Int32) = 0 by decide), o1]
      have k0 : x3 2 3 = 0 ↔ y3 99 10 = 0 := by
        rcases uK.2.2.2.2.2.2.2 with ⟨b, b', -⟩ | ⟨b, b', -⟩ | ⟨b, b', -⟩ | ⟨b, b', -⟩ | ⟨b, b', -⟩ | ⟨b, b', -⟩
        · rw [b, b']
        · rw [b, b']
        · rw [b, b']
        · rw [b, b']; exact ⟨fun h => absurd h (by decide), fun h => absurd h (by decide)⟩
        · rw [b, b']
        · rw [b, b']
      by_cases z : y3 99 10 = 0
      · simp only [List.length_append, List.length_nil] at ul1
        obtain ⟨y4, w1, w2, w3⟩ := m_zero (par := 0) (g := g1) (u2 := nI 0) (W := []) uM z (Or.inl rfl) (fun s hs => ⟨(oP s hs).1, (oP s hs).2.1⟩) (by simp only [List.length_nil]; omega)
        have := fin y3 o7 o8
        refine ⟨x3, y4, fin y4 o7 (o8.tr w3.fy), Or.inr ⟨ky, nu1, P.reverse ++ C1, ?_, ?_, uC, w2, hky, by omega, uD, o5⟩⟩
        · rw [if_pos (k0.mpr z)]
        · rw [w1, bd_e, if_pos (show nI 0 = 0 from rfl), if_neg (show ¬ (1 : Int32) = 0 by decide)]
      · have me := m_end (kk := lX8_takesE_h28 g1) (u2 := nI 0) (par := 0) (by omega) z oT (fun h => Nat.lt_irrefl 0 h.2.2)
        refine ⟨x3, y3, fin y3 o7 o8, Or.inl ⟨p3, hp3, ?_, ?_, uK.2.2.2.2.1⟩⟩
        · rw [if_neg (fun e => z (k0.mp e)), uK.2.2.1]
        · rw [show lX8_takesE_h28 (g1 + 1) (nI 0) (nI 0) 0 y3 = some (0, y3) from me, bd_e, if_pos rfl]
