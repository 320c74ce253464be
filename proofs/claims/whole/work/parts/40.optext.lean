theorem TX.congT {x x1 : XS} {M M1 : Nat → Int32} {t : Nat} (h : TX x M t) (h1 : x1 (41 + 2 * t) = x (41 + 2 * t)) (h2 : x1 (41 + 2 * t + 1) = x (41 + 2 * t + 1)) (h3 : M1 (65 + 2 * t) = M (65 + 2 * t)) (h4 : M1 (65 + 2 * t + 1) = M (65 + 2 * t + 1)) (h5 : ∀ k, k < 96 → M1 (93 + 96 * t + k) = M (93 + 96 * t + k)) : TX x1 M1 t := by
  obtain ⟨a, b, c1, c2, c3, c4, c5, c6, c7, c8, c9⟩ := h
  refine ⟨a, b, c1, c2, by rw [h1]; exact c3, by rw [h1]; exact c4, by rw [h3]; exact c5, by rw [h4, h1]; exact c6, fun k hk => by rw [h5 k (by omega), h2]; exact c7 k hk, fun e k hk => by rw [h5 k (by omega)]; exact c8 e k hk, ?_⟩
  have key : ∀ m, m ≤ b → dps (fun k => M1 (93 + 96 * t + k)) m = dps (fun k => M (93 + 96 * t + k)) m := by
    intro m
    induction m with
    | zero => intro _; rfl
    | succ m ih =>
      intro hm
      show (dps (fun k => M1 (93 + 96 * t + k)) m).bind (dpt (M1 (93 + 96 * t + m))) = (dps (fun k => M (93 + 96 * t + k)) m).bind (dpt (M (93 + 96 * t + m)))
      rw [ih (by omega), h5 m (by omega)]
  rw [key b (Nat.le_refl _)]; exact c9
theorem LW.congT {x x1 : XS} {L M : Nat → Int32} {nt : Nat} (h : LW x L M nt) (hx : ∀ j, 41 ≤ j → j < 41 + 2 * nt → x1 j = x j) : LW x1 L M nt := by
  obtain ⟨h14, h2, h3, h4⟩ := h
  exact ⟨h14, h2, fun t ht => (h3 t ht).congT (hx _ (by omega) (by omega)) (hx _ (by omega) (by omega)) rfl rfl (fun _ _ => rfl), h4⟩
theorem CN.rest {n n1 nt nt1 : Nat} {x y x1 y1 : XS} (h : CN n nt x y) (hn : nt ≤ 14) (hnn : nt ≤ nt1) (h1 : C1 n1 nt1 x1 y1) (hx : ∀ j, j ≠ 2 → j ≠ 4 → j ≠ 6 → j ≠ 41 + 2 * nt → j ≠ 41 + 2 * nt + 1 → x1 j = x j) (h20 : x1 2 0 = 0) (ha0 : x1 (41 + 2 * nt) 0 = x (41 + 2 * nt) 0) (hy : ∀ j, j ≠ 99 → j ≠ 100 → j ≠ 107 → j ≠ 108 → j ≠ 109 → y1 j = y j) (h9 : ∀ k, k < 7 ∨ 20 < k → y1 99 k = y 99 k) (h97 : y1 99 7 = 0) : CN n1 nt1 x1 y1 := by
  obtain ⟨-, h2, h3, h4, h5, h6, h7, h8⟩ := h
  refine ⟨h1, ?_, ?_, ?_, ?_, ?_, ?_, ?_⟩
  · refine h2.cong hnn ?_ ?_ ?_ ?_ ?_ ?_ ?_ ?_
    · rw [hx 0 (by omega) (by omega) (by omega) (by omega) (by omega)]
    · exact hx 15 (by omega) (by omega) (by omega) (by omega) (by omega)
    · exact hx 17 (by omega) (by omega) (by omega) (by omega) (by omega)
    · exact fun j _ _ => hx j (by omega) (by omega) (by omega) (by omega) (by omega)
    · exact fun ti hti hl => hl.congT (fun j a b => hx j (by omega) (by omega) (by omega) (by omega) (by omega))
    · exact hy 101 (by omega) (by omega) (by omega) (by omega) (by omega)
    · exact h9 3 (by omega)
    · exact h9 4 (by omega)
  · exact ⟨0, by omega, by rw [h20]; rfl, by rw [h97]; rfl, fun i hi => absurd hi (by omega)⟩
  · exact h4.cong (hy 105 (by omega) (by omega) (by omega) (by omega) (by omega)) (hy 106 (by omega) (by omega) (by omega) (by omega) (by omega))
  · exact h5.cong (by rw [hx 0 (by omega) (by omega) (by omega) (by omega) (by omega)]) (hx 39 (by omega) (by omega) (by omega) (by omega) (by omega)) (h9 33 (by omega)) (hy 120 (by omega) (by omega) (by omega) (by omega) (by omega))
  · exact h6.cong (fun j _ _ => hx j (by omega) (by omega) (by omega) (by omega) (by omega)) (hy 112 (by omega) (by omega) (by omega) (by omega) (by omega)) (hy 113 (by omega) (by omega) (by omega) (by omega) (by omega)) (hy 114 (by omega) (by omega) (by omega) (by omega) (by omega))
  · exact h7.cong (fun j _ _ => hx j (by omega) (by omega) (by omega) (by omega) (by omega)) (hy 115 (by omega) (by omega) (by omega) (by omega) (by omega)) (hy 116 (by omega) (by omega) (by omega) (by omega) (by omega)) (hy 117 (by omega) (by omega) (by omega) (by omega) (by omega)) (hy 118 (by omega) (by omega) (by omega) (by omega) (by omega))
  · intro t ht
    by_cases e : t = nt
    · subst e; rw [ha0]; exact h8 t ht
    · rw [hx (41 + 2 * t) (by omega) (by omega) (by omega) (by omega) (by omega)]; exact h8 t ht
theorem store_loop {t sz : Nat} {K : Nat → Int32} (ht : t < 14) (hsz : sz ≤ 96) : ∀ d i (y : XS), i + d = sz → y 99 17 = nI sz → y 107 = K → ∀ f, d < f → ∃ y1, lX8_text_h117 f (nI t) (nI i) y = some (nI t, y1) ∧ (∀ j, j ≠ 100 → y1 j = y j) ∧ ∀ k, y1 100 k = if k = 8 then y 100 8 + 1 else if 93 + 96 * t + i ≤ k ∧ k < 93 + 96 * t + sz then K (k - (93 + 96 * t)) else y 100 k := by
  intro d
  induction d with
  | zero =>
    intro i y hi h17 hK f hf
    obtain ⟨f, rfl⟩ : ∃ q, f = q + 1 := ⟨f - 1, by omega⟩
    refine ⟨wr y 100 8 (y 100 8 + 1), ?_, fun j hj => wr_ne hj, fun k => ?_⟩
    · show bX8_text_h117 (lX8_text_h117 f) (nI t) (nI i) y = _
      unfold bX8_text_h117
      rw [h17, show i = sz by omega, if_pos (Int32.le_refl _), gd_e (by decide), gd_e (by decide), st_e, show ix 8 = 8 from rfl]
    · rw [wr_at, if_pos rfl]
      by_cases c : k = 8
      · rw [if_pos c, if_pos c]
      · rw [if_neg c, if_neg c, if_neg (by omega)]
  | succ d ih =>
    intro i y hi h17 hK f hf
    obtain ⟨f, rfl⟩ : ∃ q, f = q + 1 := ⟨f - 1, by omega⟩
    obtain ⟨y1, e1, e2, e3⟩ := ih (i + 1) (wr y 100 (93 + 96 * t + i) (K i)) (by omega) (by rw [wr_ne (by omega)]; exact h17) (by rw [wr_ne (by omega)]; exact hK) f (by omega)
    refine ⟨y1, ?_, fun j hj => by rw [e2 j hj, wr_ne hj], fun k => ?_⟩
    · show bX8_text_h117 (lX8_text_h117 f) (nI t) (nI i) y = _
      unfold bX8_text_h117
      rw [h17, if_neg (nI_ge (by omega) (by omega)), gd_e (inb_nI (by omega) (by omega)), cI93, gd_e (inb_nI (by omega) (by omega)), ix_nI (by omega), ix_nI (by omega), hK, st_e, st_e, nI_1]
      exact e1
    · rw [e3 k, show wr y 100 (93 + 96 * t + i) (K i) 100 8 = y 100 8 by rw [wr_at, if_pos rfl, if_neg (by omega)]]
      by_cases c : k = 8
      · rw [if_pos c, if_pos c]
      · rw [if_neg c, if_neg c, wr_at, if_pos rfl]
        by_cases c1 : k = 93 + 96 * t + i
        · rw [if_neg (by omega), if_pos c1, if_pos (by omega), c1, show 93 + 96 * t + i - (93 + 96 * t) = i by omega]
        · rw [if_neg c1]
          by_cases c2 : 93 + 96 * t + (i + 1) ≤ k ∧ k < 93 + 96 * t + sz
          · rw [if_pos c2, if_pos (by omega)]
          · rw [if_neg c2, if_neg (by omega)]
theorem LK.get {F : Nat → Int32} : ∀ {D : List Int32}, LK F D → ∀ k, k < D.length → F k ∈ D := by
  intro D
  induction D with
  | nil => intro _ k hk; exact absurd hk (by simp)
  | cons m D ih =>
    intro h k hk
    by_cases e : k = D.length
    · rw [e, h.1]; exact List.mem_cons_self
    · exact List.mem_cons_of_mem _ (ih h.2 k (by simp only [List.length_cons] at hk; omega))
theorem LK.two {F E : Nat → Int32} : ∀ {D : List Int32}, LK F (D.map ce) → LK E D → ∀ k, k < D.length → F k = ce (E k) := by
  intro D
  induction D with
  | nil => intro _ _ k hk; exact absurd hk (by simp)
  | cons m D ih =>
    intro h h1 k hk
    have ha : F (D.map ce).length = ce m := h.1
    rw [List.length_map] at ha
    by_cases e : k = D.length
    · rw [e, ha, h1.1]
    · exact ih h.2 h1.2 k (by simp only [List.length_cons] at hk; omega)
theorem dps_cong2 {F E : Nat → Int32} : ∀ m, (∀ k, k < m → F k = E k) → dps F m = dps E m := by
  intro m
  induction m with
  | zero => intro _; rfl
  | succ m ih =>
    intro h
    show (dps F m).bind (dpt (F m)) = (dps E m).bind (dpt (E m))
    rw [ih (fun k hk => h k (by omega)), h m (by omega)]
theorem op_text {x y : XS} (h : CI x y) : RCI (fX7_text x) (fX8_text y) := by
  obtain ⟨n, nt, h⟩ := h
  obtain ⟨hR, hL, h4, hm⟩ := id h.1
  have hnt : nt ≤ 14 := hL.1
  have x43 : x 4 3 = nI nt := by rw [hR.2.2.2.1]; exact hL.2.1
  obtain ⟨x1, y1, ⟨fx1, fx2, fx3, fy1, fy2⟩, hO⟩ := parse_rel h hnt
  have x14 : x1 4 = x 4 := fx1 4 (by omega) (by omega) (by omega)
  have x16 : x1 6 = x 6 := fx1 6 (by omega) (by omega) (by omega)
  have y100 : y1 100 = y 100 := fy1 100 (by omega) (by omega) (by omega) (by omega)
  have ej : jmin (nI nt) 14 = nI nt := by
    have : nI nt ≤ (14 : Int32) := nI_le (b := 14) hnt (by omega)
    unfold jmin; grind
  -- nothing but the tape is used up
  have C0 : CN n nt x1 (wr y1 99 7 0) := by
    refine h.rest hnt (Nat.le_refl _) ?_ (fun j a _ _ b c => fx1 j a b c) fx2 fx3 (fun j a _ b c d => by rw [wr_ne a]; exact fy1 j a b c d) (fun k hk => by rw [wr_at, if_pos rfl, if_neg (by omega)]; exact fy2 k hk) (by rw [wr_at, if_pos rfl, if_pos rfl])
    refine ⟨hR.cong x14 (fun i hi => fx1 _ (by omega) (by omega) (by omega)) (by rw [wr_ne (by omega)]; exact y100) (by rw [wr_at, if_pos rfl, if_neg (by omega)]; exact fy2 4 (by omega)), ?_, ?_, ?_⟩
    · rw [x16, wr_ne (by omega), y100]
      exact hL.congT (fun j a b => fx1 j (by omega) (by omega) (by omega))
    · rw [wr_at, if_pos rfl, if_neg (by omega), fy2 4 (by omega)]; exact h4
    · rw [wr_ne (by omega), y100]; exact hm
  unfold fX7_text
  rw [x43, ej, st_e, gd_e (inb_nI (by omega) (by omega)), ix_nI (by omega)]
  rcases hO with ⟨p1, hp1, e1, e2, e3⟩ | ⟨ky, nu, D, e1, e2, e3, e4, hky, hD, hok, hdl⟩
  · rw [e1, bd_e, if_neg (nI_pos (by omega)), e2]
    unfold fX8_text_h33
    refine R2.sR ?_
    rw [if_pos rfl, show wr y1 99 7 0 99 9 = nI p1 by rw [wr_at, if_pos rfl, if_neg (by omega)]; exact e3]
    exact RCI.same ⟨n, nt, C0⟩
  · rw [e1, bd_e, if_pos (show (-1 : Int32) < 0 by decide), e2, x14, x43]
    unfold fX8_text_h33
    refine R2.sR ?_
    obtain ⟨Y, hY⟩ : ∃ Y, Y = wr y1 99 7 0 := ⟨_, rfl⟩
    rw [← hY] at C0 ⊢
    have Y100 : Y 100 = y 100 := by rw [hY, wr_ne (by omega)]; exact y100
    have Y9 : ∀ k, k ≠ 7 → Y 99 k = y1 99 k := fun k hk => by rw [hY, wr_at, if_pos rfl, if_neg hk]
    rw [if_neg (show ¬ (1 : Int32) = 0 by decide)]
    refine R2.gR (by decide) ?_
    rw [show ix 8 = 8 from rfl, Y100, hL.2.1]
    by_cases full : nt = 14
    · subst full
      rw [if_neg (show ¬ nI 14 < (14 : Int32) by decide), if_pos (show nI 14 = (14 : Int32) from rfl)]
      exact RCI.same ⟨n, 14, C0⟩
    · have hlt : nt < 14 := by omega
      rw [if_pos (show nI nt < (14 : Int32) from nI_lt (b := 14) hlt (by omega)), if_neg (show ¬ nI nt = (14 : Int32) from fun e => full ((nI_eq (b := 14) (by omega) (by omega)).mp e))]
      obtain ⟨m13, m17, m18, m20, mK, -⟩ := e4
      obtain ⟨d1, d2, d3, dK⟩ := e3
      -- the class
      obtain ⟨X, hX⟩ : ∃ X, X = wr (wr x1 6 ky (nI (41 + 2 * nt))) 4 3 (nI (nt + 1)) := ⟨_, rfl⟩
      have ec : fX4_countText 4 (41 + 2 * nt) x1 = some ((), X) := by
        unfold fX4_countText
        rw [d1, if_neg (nI_pos (by omega)), if_neg (show ¬ (3 : Int32) ≤ nI ky from nI_ge (b := 3) hky (by omega)), gd_e (inb_nI hky (by omega)), ix_nI (by omega), st_e, st_e, wr_ne (by omega), x14, x43, nI_1, ← hX]
      have Xo : ∀ j, j ≠ 4 → j ≠ 6 → X j = x1 j := fun j a b => by rw [hX, wr_ne a, wr_ne b]
      have X4 : ∀ k, X 4 k = if k = 3 then nI (nt + 1) else x 4 k := fun k => by rw [hX, wr_at, if_pos rfl, wr_ne (by omega), x14]
      have X6 : ∀ k, X 6 k = if k = ky then nI (41 + 2 * nt) else x 6 k := fun k => by rw [hX, wr_ne (by omega), wr_at, if_pos rfl, x16]
      rw [ec, bd_e, show X (41 + 2 * nt) 0 = nI nt by rw [Xo _ (by omega) (by omega), fx3]; exact h.2.2.2.2.2.2.2 nt (by omega)]
      -- the model
      obtain ⟨Y1, hY1⟩ : ∃ Y1, Y1 = wr (wr Y 100 (65 + 2 * nt) (nI (1000 * ky + D.length))) 100 (65 + 2 * nt + 1) (nI nu) := ⟨_, rfl⟩
      have Y1o : ∀ j, j ≠ 100 → Y1 j = Y j := fun j a => by rw [hY1, wr_ne a, wr_ne a]
      obtain ⟨y2, s1, s2, s3⟩ := store_loop (t := nt) (K := y1 107) hlt hD D.length 0 Y1 (by omega) (by rw [Y1o 99 (by omega), Y9 17 (by omega)]; exact m17) (by rw [Y1o 107 (by omega), hY, wr_ne (by omega)]) FU (by unfold FU; omega)
      have M1 : ∀ k, y2 100 k = if k = 8 then nI (nt + 1) else if 93 + 96 * nt ≤ k ∧ k < 93 + 96 * nt + D.length then y1 107 (k - (93 + 96 * nt)) else if k = 65 + 2 * nt + 1 then nI nu else if k = 65 + 2 * nt then nI (1000 * ky + D.length) else y 100 k := fun k => by
        have eY : ∀ k, Y1 100 k = if k = 65 + 2 * nt + 1 then nI nu else if k = 65 + 2 * nt then nI (1000 * ky + D.length) else y 100 k := fun k => by
          rw [hY1, wr_at, if_pos rfl, wr_at, if_pos rfl, Y100]
        rw [s3 k, eY k, show Y1 100 8 = nI nt by rw [eY 8, if_neg (by omega), if_neg (by omega)]; exact hL.2.1, nI_1]
        rfl
      have M65 : ∀ k, k < 65 → k ≠ 8 → y2 100 k = y 100 k := fun k a b => by rw [M1 k, if_neg b, if_neg (by omega), if_neg (by omega), if_neg (by omega)]
      have em : (gd (inb 8 1437) (st_ (nI nt) (fun v_16 => (gd (inb (65 + (2 * v_16)) 1437) (st_ (wr Y 100 (ix (65 + (2 * v_16))) ((1000 * (Y 99 13)) + (Y 99 17))) (fun x_18 => (gd (inb ((65 + (2 * v_16)) + 1) 1437) (st_ (wr x_18 100 (ix ((65 + (2 * v_16)) + 1)) (x_18 99 18)) (fun x_20 => (fX8_text_h117 v_16 0 x_20))))))))) : Option (Int32 × XS)) = some (nI nt, y2) := by
        rw [gd_e (by decide), st_e, cI65, gd_e (inb_nI (by omega) (by omega)), st_e, nI_1, gd_e (inb_nI (by omega) (by omega)), st_e, ix_nI (by omega), ix_nI (by omega), Y9 13 (by omega), Y9 17 (by omega), m13, m17, show (1000 : Int32) = nI 1000 from rfl, pk_mul, nI_add, wr_ne (by omega), Y9 18 (by omega), m18, ← hY1]
        exact s1
      rw [em]
      refine R2.ret ⟨rfl, n, nt + 1, ?_⟩
      have y2o : ∀ j, j ≠ 100 → y2 j = Y j := fun j a => by rw [s2 j a, Y1o j a]
      have jk : jdiv (nI (1000 * ky + D.length)) 1000 = nI ky := by
        rw [show (1000 : Int32) = nI 1000 from rfl, jdiv_nI (by omega) (by omega) (by omega)]
        congr 1
        omega
      refine h.rest hnt (by omega) ?_ (fun j a b c d e => by rw [Xo j b c]; exact fx1 j a d e) (by rw [Xo 2 (by omega) (by omega)]; exact fx2) (by rw [Xo _ (by omega) (by omega)]; exact fx3) (fun j a b c d e => by rw [y2o j b, hY, wr_ne a]; exact fy1 j a c d e) (fun k hk => by rw [y2o 99 (by omega), Y9 k (by omega)]; exact fy2 k hk) (by rw [y2o 99 (by omega), hY, wr_at, if_pos rfl, if_pos rfl])
      have y94 : y2 99 4 = y 99 4 := by rw [y2o 99 (by omega), Y9 4 (by omega)]; exact fy2 4 (by omega)
      refine ⟨?_, ?_, by rw [y94]; exact h4, by rw [M65 2 (by omega) (by omega)]; exact hm⟩
      · obtain ⟨r1, r2, r3, r4, r5, r6, r7, r8, r9, r10, r11, r12, r13, r14⟩ := hR
        have Xk : ∀ k, k ≠ 3 → X 4 k = x 4 k := fun k hk => by rw [X4, if_neg hk]
        refine ⟨r1, by rw [M65 1 (by omega) (by omega)]; exact r2, by rw [Xk 2 (by omega)]; exact r3, by rw [X4, if_pos rfl, M1 8, if_pos rfl], by rw [Xk 4 (by omega), M65 3 (by omega) (by omega)]; exact r5, by rw [Xk 5 (by omega), M65 6 (by omega) (by omega)]; exact r6, by rw [Xk 6 (by omega), M65 4 (by omega) (by omega)]; exact r7, by rw [Xk 7 (by omega), M65 7 (by omega) (by omega)]; exact r8, by rw [Xk 8 (by omega), M65 2 (by omega) (by omega)]; exact r9, by rw [Xk 9 (by omega), M65 0 (by omega) (by omega)]; exact r10, by rw [Xk 10 (by omega), M65 5 (by omega) (by omega)]; exact r11, by rw [M65 5 (by omega) (by omega)]; exact r12, by rw [Xk 11 (by omega), y94]; exact r13, fun i hi => ⟨fun k hk => ?_, ?_⟩⟩
        · rw [Xo _ (by omega) (by omega), fx1 _ (by omega) (by omega) (by omega), M65 _ (by omega) (by omega)]
          exact (r14 i hi).1 k hk
        · have := (r14 i hi).2
          unfold BOK at this ⊢
          simp only [M65 (9 + 7 * i) (by omega) (by omega), M65 (9 + 7 * i + 1) (by omega) (by omega), M65 (9 + 7 * i + 2) (by omega) (by omega), M65 (9 + 7 * i + 3) (by omega) (by omega), M65 (9 + 7 * i + 4) (by omega) (by omega), M65 (9 + 7 * i + 5) (by omega) (by omega), M65 (9 + 7 * i + 6) (by omega) (by omega)]
          exact this
      · obtain ⟨-, l2, l3, l4⟩ := hL
        have Mt : ∀ t, t < nt → y2 100 (65 + 2 * t) = y 100 (65 + 2 * t) := fun t ht => by rw [M1, if_neg (by omega), if_neg (by omega), if_neg (by omega), if_neg (by omega)]
        have Mn : y2 100 (65 + 2 * nt) = nI (1000 * ky + D.length) := by rw [M1, if_neg (by omega), if_neg (by omega), if_neg (by omega), if_pos rfl]
        have Mc : ∀ k, k < D.length → y2 100 (93 + 96 * nt + k) = y1 107 k := fun k hk => by rw [M1, if_neg (by omega), if_pos (by omega), show 93 + 96 * nt + k - (93 + 96 * nt) = k by omega]
        refine ⟨by omega, by rw [M1, if_pos rfl], fun t ht => ?_, fun ky' hk' => ?_⟩
        · by_cases e : t = nt
          · subst e
            refine ⟨ky, D.length, hky, hD, by rw [Xo _ (by omega) (by omega)]; exact d1, by rw [Xo _ (by omega) (by omega)]; exact d3, Mn, ?_, fun k hk => ?_, fun hne k hk => ?_, ?_⟩
            · rw [M1, if_neg (by omega), if_neg (by omega), if_pos rfl, Xo _ (by omega) (by omega), d2]
            · rw [Mc k hk, Xo _ (by omega) (by omega), dK.two mK k hk]
              exact (hok _ (mK.get k hk)).cR
            · rw [Mc k hk]
              have := hok _ (mK.get k hk)
              intro e
              rw [e] at this
              rcases this with ⟨a, b⟩ | b | b | ⟨-, b⟩ | ⟨a, b⟩
              · exact absurd b (by decide)
              · exact absurd b (by decide)
              · exact absurd b (by decide)
              · exact hne b
              · exact absurd b (by decide)
            · rw [dps_cong2 (E := y1 107) _ (fun k hk => Mc k hk), dps_dlr mK, hdl]
          · have htn : t < nt := by omega
            exact (l3 t htn).congT (by rw [Xo _ (by omega) (by omega)]; exact fx1 _ (by omega) (by omega) (by omega)) (by rw [Xo _ (by omega) (by omega)]; exact fx1 _ (by omega) (by omega) (by omega)) (Mt t htn) (by rw [M1, if_neg (by omega), if_neg (by omega), if_neg (by omega), if_neg (by omega)]) (fun k hk => by rw [M1, if_neg (by omega), if_neg (by omega), if_neg (by omega), if_neg (by omega)])
        · rw [X6]
          by_cases ek : ky' = ky
          · rw [if_pos ek]
            exact Or.inr ⟨nt, by omega, rfl, by rw [Mn, jk, ek], fun s a b => by omega⟩
          · rw [if_neg ek]
            have nk : ¬ nI ky = nI ky' := fun e => ek ((nI_eq (by omega) (by omega)).mp e).symm
            rcases l4 ky' hk' with ⟨a, b⟩ | ⟨t, ht, a, b, c⟩
            · refine Or.inl ⟨a, fun t ht => ?_⟩
              by_cases e : t = nt
              · rw [e, Mn, jk]; exact nk
              · rw [Mt t (by omega)]; exact b t (by omega)
            · refine Or.inr ⟨t, by omega, a, by rw [Mt t ht]; exact b, fun s h1 h2 => ?_⟩
              by_cases e : s = nt
              · rw [e, Mn, jk]; exact nk
              · rw [Mt s (by omega)]; exact c s h1 (by omega)
