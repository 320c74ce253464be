theorem ev_thought {v : Int32} {x : XS} : fX7_mayBeThought v x = some (if 1 ≤ v ∧ v ≤ 60 then 1 else 0, x) := by
  unfold fX7_mayBeThought; grind
theorem TH.ci {n nt : Nat} {x y : XS} (h : TH n nt x y) : CI x y := ⟨n, nt, h.1⟩
theorem beh_ix {n : Nat} {v : Int32} (hn : n ≤ 8) (h0 : ¬ v < 0) (h : v < 3 + nI n) (h2 : ¬ v ≤ 2) : ∃ i, i < n ∧ v = nI (3 + i) := by
  obtain ⟨j, hj, rfl⟩ := nI_of h0
  rw [show (3 : Int32) + nI n = nI (3 + n) from nI_add 3 n] at h
  have h1 := (nI_ltI hj (by omega)).mp h
  have h3 : ¬ j ≤ 2 := fun q => h2 (nI_le (b := 2) q (by omega))
  exact ⟨j - 3, by omega, by rw [show 3 + (j - 3) = j by omega]⟩
theorem op_behind {x y : XS} {v w : Int32} (h : CI x y) : RCI (fX7_behind v w x) (fX8_behind v w y) := by
  have h0 := h
  obtain ⟨n, nt, h⟩ := h
  have hn8 := h.1.1.1
  have bad : RCI (some (-1000000001, x)) (some (-1000000001, y)) := RCI.same h0
  unfold fX7_behind fX8_behind
  rw [ev_in, bdif, h.n4]
  by_cases c1 : 0 ≤ v ∧ v ≤ 300
  · rw [if_neg (show ¬ v < 0 by grind), if_neg (show ¬ 300 < v by grind), if_pos c1]
    refine R2.ite (fun _ => bad) (fun c2 => ?_)
    obtain ⟨m, hm, rfl⟩ := kind_ix (b := 300) (by omega) c1
    obtain ⟨y1, t1, hT⟩ := TH.start h
    obtain ⟨x1, u1, u2, u3, u4⟩ := TH.bec hT.1
    obtain ⟨r, x3, y3, g1, g2, g3, y4, g4, g5⟩ := hT.go hm (x2 := x1) (y2 := y1) (fun j _ a b => u2 j (by omega) (by omega) (by omega)) u3 u4 (fun _ _ _ => rfl) (fun _ _ => rfl) (fun _ _ => rfl)
    have cl : ∀ A : Int32 → XS → Option (Int32 × XS), (bd (fX4_become 26 4 x) fun _ x_6 => bd (fX4_passMinutes 26 (nI m) x_6) A) = A r x3 := fun A => by rw [u1, bd_e, g1, bd_e]
    rw [cl]
    have hs := nI_small (b := 8) hn8 (by omega)
    rw [show nI 8 = 8 from rfl] at hs
    by_cases c3 : w ≤ 2
    · rw [if_pos (show w < 3 + nI n by generalize nI n = N at *; grind), if_pos c3]
      unfold fX8_behind_h33
      rw [t1, bd_e, g2, bd_e, if_pos c3]
      unfold fX8_street
      by_cases w0 : w = 0
      · rw [if_pos w0, if_pos w0, ev_purses g3, bd_e, ev_sum4 g3.1 g3.2.1, bd_e, bd_e, g4, bd_e]
        exact RCI.same g5.ci
      by_cases w1 : w = 1
      · rw [if_neg w0, if_neg w0, if_pos w1, if_pos w1, gd_e (by decide), bd_e, g4, bd_e, show ix 6 = 6 from rfl, show x3 26 5 = y3 100 6 from g3.2.2.2.2.2.1]
        exact RCI.same g5.ci
      · have w2 : w = 2 := by grind
        rw [if_neg w0, if_neg w0, if_neg w1, if_neg w1, if_pos w2, if_pos w2, gd_e (by decide), bd_e, g4, bd_e, show ix 7 = 7 from rfl, show x3 26 7 = y3 100 7 from g3.2.2.2.2.2.2.2.1]
        exact RCI.same g5.ci
    · rw [if_neg c3, ev_isB8 hn8 h.1.1.2.1, bdif]
      by_cases c4 : w < 3 + nI n
      · obtain ⟨i, hi, rfl⟩ := beh_ix hn8 c2 c4 c3
        have e3 : nI (3 + i) - 3 = nI i := by rw [show (3 : Int32) = nI 3 from rfl, pk_sub (by omega), show 3 + i - 3 = i by omega]
        rw [if_pos c4, e3, if_pos (show 0 ≤ nI i ∧ nI i < nI n from ⟨nI_pos' (by omega), nI_lt hi (by omega)⟩)]
        unfold fX8_behind_h33
        rw [t1, bd_e, g2, bd_e, if_neg c3, e3, if_neg (show ¬ nI (3 + i) = 0 by intro q; exact c3 (by rw [q]; decide)), if_neg (show ¬ nI (3 + i) = 1 by intro q; exact c3 (by rw [q]; decide)), if_neg (show ¬ nI (3 + i) = 2 by intro q; exact c3 (by rw [q]; decide))]
        obtain ⟨i8, b0, b1, b2, b3, b4, -⟩ := g3.boy hi
        refine R2.gL (inb_nI i8 (by omega)) ?_
        rw [ev_of4 i8, bd_e, g4, bd_e, ix_nI (by omega), show x3 (29 + i) 4 = y3 100 (9 + 7 * i + 4) from b4]
        exact RCI.same g5.ci
      · rw [if_neg c4, if_neg (show ¬ (0 ≤ w - 3 ∧ w - 3 < nI n) by generalize nI n = N at *; grind)]
        exact bad
  · rw [if_neg c1]
    exact R2.ifL (fun _ => bad) (fun _ => R2.ifL (fun _ => bad) (fun _ => absurd c1 (by grind)))
theorem best_loop {n nt i k m f0 la : Nat} {w : Int32} (hi : i < n) (hk : k = 1 ∨ k = 2 ∨ k = 3) (hm : m ≤ 60) (hla : f0 ≤ la ∧ la ≤ 40) (hr : ∀ j, f0 ≤ j → j ≤ la → (k = 1 → rg 0 9 (nI j)) ∧ (k = 2 → rg 1 99 (nI j)) ∧ (k = 3 → rg 1 20 (nI j))) :
    ∀ (d j : Nat) (x y : XS) (cb cm mb mm : Int32), TH n nt x y → j + d = la + 1 → f0 ≤ j → ((j = f0 ∧ mb = -1) ∨ (f0 < j ∧ cb = mb ∧ cm = mm ∧ 0 ≤ mb)) → ∀ f g, d < f → d < g → RCI (lX7_best_h104 f (nI i) (nI m) w (nI f0) (nI la) (nI k) cb cm (nI j) x) (lX8_best_h105 g (nI i) (nI m) w (nI k) (nI la) mb mm (nI j) y) := by
  intro d
  induction d with
  | zero =>
    intro j x y cb cm mb mm hT hj hf0 hst f g hf hg
    obtain ⟨f, rfl⟩ : ∃ q, f = q + 1 := ⟨f - 1, by omega⟩
    obtain ⟨g, rfl⟩ : ∃ q, g = q + 1 := ⟨g - 1, by omega⟩
    show RCI (bX7_best_h104 (lX7_best_h104 f) (nI i) (nI m) w (nI f0) (nI la) (nI k) cb cm (nI j) x) (bX8_best_h105 (lX8_best_h105 g) (nI i) (nI m) w (nI k) (nI la) mb mm (nI j) y)
    obtain ⟨-, rfl, rfl, -⟩ := hst.resolve_left (by omega)
    unfold bX7_best_h104 bX8_best_h105
    have hlt : nI la < nI j := nI_lt (by omega) (by omega)
    rw [if_pos hlt, if_pos hlt]
    exact R2.ite (fun _ => RCI.same hT.ci) (fun _ => RCI.same hT.ci)
  | succ d ih =>
    intro j x y cb cm mb mm hT hj hf0 hst f g hf hg
    obtain ⟨f, rfl⟩ : ∃ q, f = q + 1 := ⟨f - 1, by omega⟩
    obtain ⟨g, rfl⟩ : ∃ q, g = q + 1 := ⟨g - 1, by omega⟩
    show RCI (bX7_best_h104 (lX7_best_h104 f) (nI i) (nI m) w (nI f0) (nI la) (nI k) cb cm (nI j) x) (bX8_best_h105 (lX8_best_h105 g) (nI i) (nI m) w (nI k) (nI la) mb mm (nI j) y)
    have hn8 := hT.1.1.1.1
    have i8 : i < 8 := by omega
    have inm : inb (nI i) 8 = true := inb_nI i8 (by omega)
    unfold bX7_best_h104 bX8_best_h105
    have hlt : ¬ nI la < nI j := nI_nlt (by omega) (by omega)
    rw [if_neg hlt, if_neg hlt]
    obtain ⟨x1, u1, u2, u3, u4⟩ := TH.bec hT.1
    have hch : fX0_change (29 + i) (nI k) (nI j) x1 = some ((), wr x1 (29 + i) k (nI j)) := by
      unfold fX0_change
      rcases hk with rfl | rfl | rfl
      · rw [if_pos (by decide), st_e]
      · rw [if_neg (by decide), if_pos (by decide), st_e]
      · rw [if_neg (by decide), if_neg (by decide), if_pos (by decide), st_e]
    have hb := (u3.boy hi).2.2.2.2.2.2.2.2
    have hv := hr j hf0 (by omega)
    have hR2 : PR 26 n (wr x1 (26 + 3 + i) k (nI j)) (wr y 100 (9 + 7 * i + k) (nI j)) := PR_fld u3 hi (by omega) (hb.put (k := k) (v := nI j) (fun q => by rw [wr_at, if_pos rfl]) ⟨fun e => by omega, hv.1, hv.2.1, hv.2.2, fun e => by omega⟩)
    have hs := RS_wr (y := y) (k := 9 + 7 * i + k) (v := nI j) (by omega) (by omega)
    obtain ⟨r, x3, y3, g1, g2, g3, y4, g4, g5⟩ := hT.go (m := m) (by omega) (x2 := wr x1 (26 + 3 + i) k (nI j)) (y2 := wr y 100 (9 + 7 * i + k) (nI j)) (fun q _ a b => by rw [wr_ne (by omega)]; exact u2 q (by omega) (by omega) (by omega)) hR2 (u4.mono (fun q _ _ => wr_ne (by omega)) (wr_ne (by omega)) hs.1 hs.2) (fun q a b => wr_ne b) (fun q _ => by rw [wr_ne (by omega)]) hs.1
    rw [u1, bd_e]
    refine R2.gL inm ?_
    rw [ix_nI (i := i) (by omega), hch, bd_e, show fX4_passMinutes 26 (nI m) (wr x1 (29 + i) k (nI j)) = some (r, x3) from g1, bd_e]
    refine R2.gL inm (R2.sL ?_)
    obtain ⟨-, -, -, -, -, b4, -⟩ := g3.boy hi
    rw [ev_put i8 (by omega), bd_e, g2, bd_e, ev_of4 i8, bd_e, g4, bd_e, show x3 (29 + i) 4 = y3 100 (9 + 7 * i + 4) from b4]
    have go : ∀ b q, 0 ≤ b → RCI (lX7_best_h104 f (nI i) (nI m) w (nI f0) (nI la) (nI k) b q (nI (j + 1)) x3) (lX8_best_h105 g (nI i) (nI m) w (nI k) (nI la) b q (nI (j + 1)) y4) := fun b q hb => ih (j + 1) x3 y4 b q b q g5 (by omega) (by omega) (Or.inr ⟨by omega, rfl, rfl, hb⟩) f g (by omega) (by omega)
    simp only [st_e, nI_1]
    rcases hst with ⟨e, rfl⟩ | ⟨e, rfl, rfl, e0⟩
    · rw [if_pos (show nI j = nI f0 by rw [e]), if_pos (show (-1 : Int32) < 0 by decide)]
      exact go _ _ (nI_pos' (by omega))
    · rw [if_neg (show ¬ nI j = nI f0 by intro q; have := (nI_eq (by omega) (by omega)).mp q; omega), if_neg (show ¬ cb < 0 by grind)]
      exact R2.ite (fun _ => go _ _ e0) (fun _ => go _ _ (nI_pos' (by omega)))
theorem op_best {x y : XS} {v1 v2 v3 v4 : Int32} (h : CI x y) : RCI (fX7_best v1 v2 v3 v4 x) (fX8_best v1 v2 v3 v4 y) := by
  have h0 := h
  obtain ⟨n, nt, h⟩ := h
  have hn8 := h.1.1.1
  have bad : RCI (some (-1000000001, x)) (some (-1000000001, y)) := RCI.same h0
  unfold fX7_best fX8_best fX7_best_h35
  refine R2.boy h (fun i hi e => ?_)
  subst e
  rw [ev_in, bdif]
  by_cases c1 : 0 ≤ v2 ∧ v2 ≤ 2
  · rw [if_neg (show ¬ v2 < 0 by grind), if_neg (show ¬ 2 < v2 by grind), if_pos c1, ev_thought, bdif, ev_in, bdif]
    refine R2.ite (fun c2 => ?_) (fun _ => bad)
    rw [ev_in, bdif]
    by_cases c3 : 0 ≤ v4 ∧ v4 ≤ 1
    · rw [if_neg (show ¬ v4 < 0 by grind), if_pos c3.2, if_pos c3]
      obtain ⟨m, hm, rfl⟩ := kind_ix (v := v3) (b := 60) (by omega) ⟨by grind, c2.2⟩
      obtain ⟨y1, t1, hT⟩ := TH.start h
      rw [t1, bd_e]
      unfold fX7_best_h48 fX7_best_h71 fX7_best_h91 fX8_best_h62 fX8_best_h85
      by_cases w0 : v2 = 0
      · subst w0
        rw [if_neg (show ¬ (0 : Int32) = 1 by decide), if_pos rfl, if_pos rfl, if_pos rfl, if_pos rfl, if_neg (show ¬ (0 : Int32) = 1 by decide)]
        exact best_loop (k := 3) (f0 := 1) (la := 20) hi (by omega) hm (by omega) (fun j a b => ⟨fun e => by omega, fun e => by omega, fun _ => ⟨nI_le (a := 1) a (by omega), nI_le (b := 20) b (by omega)⟩⟩) 20 1 x y1 1 0 (-1) 0 hT (by omega) (by omega) (Or.inl ⟨rfl, rfl⟩) FU FU (by unfold FU; omega) (by unfold FU; omega)
      by_cases w1 : v2 = 1
      · subst w1
        rw [if_pos rfl, if_neg w0, if_pos rfl, if_neg w0, if_pos rfl, if_neg w0, if_pos rfl, if_neg w0, if_pos rfl, if_pos rfl]
        exact best_loop (k := 1) (f0 := 0) (la := 9) hi (by omega) hm (by omega) (fun j a b => ⟨fun _ => ⟨nI_pos' (by omega), nI_le (b := 9) b (by omega)⟩, fun e => by omega, fun e => by omega⟩) 10 0 x y1 0 0 (-1) 0 hT (by omega) (by omega) (Or.inl ⟨rfl, rfl⟩) FU FU (by unfold FU; omega) (by unfold FU; omega)
      · rw [if_neg w1, if_neg w0, if_neg w1, if_neg w0, if_neg w1, if_neg w0, if_neg w1, if_neg w0, if_neg w1, if_neg w1]
        exact best_loop (k := 2) (f0 := 1) (la := 40) hi (by omega) hm (by omega) (fun j a b => ⟨fun e => by omega, fun _ => ⟨nI_le (a := 1) a (by omega), nI_le (b := 99) (by omega) (by omega)⟩, fun e => by omega⟩) 40 1 x y1 1 0 (-1) 0 hT (by omega) (by omega) (Or.inl ⟨rfl, rfl⟩) FU FU (by unfold FU; omega) (by unfold FU; omega)
    · rw [if_neg c3]
      exact R2.ifL (fun _ => bad) (fun _ => R2.ifL (fun _ => absurd c3 (by grind)) (fun _ => bad))
  · rw [if_neg c1]
    exact R2.ifL (fun _ => bad) (fun _ => R2.ifL (fun _ => bad) (fun _ => absurd c1 (by grind)))
theorem share_loop {n nt m : Nat} {w : Int32} (hm : m ≤ 60) : ∀ (d j : Nat) (x y : XS) (cb cm mb mm : Int32), TH n nt x y → j + d = 100 → ((j = 0 ∧ mb = -1) ∨ (0 < j ∧ cb = mb ∧ cm = mm ∧ 0 ≤ mb)) → ∀ f g, d < f → d < g → RCI (lX7_bestShare_h27 f (nI m) w cb cm (nI j) x) (lX8_bestShare_h34 g (nI m) w mb mm (nI j) y) := by
  intro d
  induction d with
  | zero =>
    intro j x y cb cm mb mm hT hj hst f g hf hg
    obtain ⟨f, rfl⟩ : ∃ q, f = q + 1 := ⟨f - 1, by omega⟩
    obtain ⟨g, rfl⟩ : ∃ q, g = q + 1 := ⟨g - 1, by omega⟩
    show RCI (bX7_bestShare_h27 (lX7_bestShare_h27 f) (nI m) w cb cm (nI j) x) (bX8_bestShare_h34 (lX8_bestShare_h34 g) (nI m) w mb mm (nI j) y)
    obtain ⟨-, rfl, rfl, -⟩ := hst.resolve_left (by omega)
    unfold bX7_bestShare_h27 bX8_bestShare_h34
    rw [show j = 100 by omega, if_pos (show (99 : Int32) < nI 100 by decide), if_pos (show (100 : Int32) ≤ nI 100 by decide)]
    exact R2.ite (fun _ => RCI.same hT.ci) (fun _ => RCI.same hT.ci)
  | succ d ih =>
    intro j x y cb cm mb mm hT hj hst f g hf hg
    obtain ⟨f, rfl⟩ : ∃ q, f = q + 1 := ⟨f - 1, by omega⟩
    obtain ⟨g, rfl⟩ : ∃ q, g = q + 1 := ⟨g - 1, by omega⟩
    show RCI (bX7_bestShare_h27 (lX7_bestShare_h27 f) (nI m) w cb cm (nI j) x) (bX8_bestShare_h34 (lX8_bestShare_h34 g) (nI m) w mb mm (nI j) y)
    unfold bX7_bestShare_h27 bX8_bestShare_h34
    rw [if_neg (show ¬ (99 : Int32) < nI j by rw [show (99 : Int32) = nI 99 from rfl]; exact nI_nlt (by omega) (by omega)), if_neg (show ¬ (100 : Int32) ≤ nI j by rw [show (100 : Int32) = nI 100 from rfl]; exact nI_ge (by omega) (by omega))]
    obtain ⟨x1, u1, u2, u3, u4⟩ := TH.bec hT.1
    have hs := RS_wr (y := y) (k := 3) (v := nI j) (by omega) (by omega)
    obtain ⟨r, x3, y3, g1, g2, g3, y4, g4, g5⟩ := hT.go (m := m) (by omega) (x2 := wr x1 26 4 (nI j)) (y2 := wr y 100 3 (nI j)) (fun q _ a b => by rw [wr_ne (by omega)]; exact u2 q (by omega) (by omega) (by omega)) (PR_share u3) (u4.mono (fun q _ _ => wr_ne (by omega)) (wr_ne (by omega)) hs.1 hs.2) (fun q a b => wr_ne b) (fun q _ => by rw [wr_ne (by omega)]) hs.1
    rw [u1, bd_e]
    refine R2.sL (R2.gR (by decide) (R2.sR ?_))
    rw [g1, bd_e, show ix 3 = 3 from rfl, g2, bd_e]
    refine R2.gR (by decide) (R2.sR ?_)
    rw [g4, bd_e, show ix 6 = 6 from rfl, show x3 26 5 = y3 100 6 from g3.2.2.2.2.2.1]
    have go : ∀ b q, 0 ≤ b → RCI (lX7_bestShare_h27 f (nI m) w b q (nI (j + 1)) x3) (lX8_bestShare_h34 g (nI m) w b q (nI (j + 1)) y4) := fun b q hb => ih (j + 1) x3 y4 b q b q g5 (by omega) (Or.inr ⟨by omega, rfl, rfl, hb⟩) f g (by omega) (by omega)
    simp only [st_e, nI_1]
    rcases hst with ⟨e, rfl⟩ | ⟨e, rfl, rfl, e0⟩
    · rw [if_pos (show nI j = 0 by rw [e]; rfl), if_pos (show (-1 : Int32) < 0 by decide)]
      exact go _ _ (nI_pos' (by omega))
    · rw [if_neg (nI_ne0 e (by omega)), if_neg (show ¬ cb < 0 by grind)]
      exact R2.ite (fun _ => go _ _ e0) (fun _ => go _ _ (nI_pos' (by omega)))
theorem op_bestShare {x y : XS} {v w : Int32} (h : CI x y) : RCI (fX7_bestShare v w x) (fX8_bestShare v w y) := by
  have h0 := h
  obtain ⟨n, nt, h⟩ := h
  have bad : RCI (some (-1000000001, x)) (some (-1000000001, y)) := RCI.same h0
  unfold fX7_bestShare fX8_bestShare
  rw [ev_thought, bdif, ev_in, bdif]
  refine R2.ite (fun c2 => ?_) (fun _ => bad)
  rw [ev_in, bdif]
  by_cases c3 : 0 ≤ w ∧ w ≤ 1
  · rw [if_neg (show ¬ w < 0 by grind), if_pos c3.2, if_pos c3]
    obtain ⟨m, hm, rfl⟩ := kind_ix (v := v) (b := 60) (by omega) ⟨by grind, c2.2⟩
    obtain ⟨y1, t1, hT⟩ := TH.start h
    rw [t1, bd_e]
    exact share_loop hm 100 0 x y1 0 0 (-1) 0 hT (by omega) (Or.inl ⟨rfl, rfl⟩) FU FU (by unfold FU; omega) (by unfold FU; omega)
  · rw [if_neg c3]
    exact R2.ifL (fun _ => bad) (fun _ => R2.ifL (fun _ => absurd c3 (by grind)) (fun _ => bad))
theorem PR_away {a n : Nat} {x y : XS} {v : Int32} (h : PR a n x y) : PR a n (wr x a 11 v) (wr y 99 4 v) := by
  unfold PR BOK at *
  grind [wr_at]
theorem sent_loop {n nt m : Nat} {w : Int32} (hm : m ≤ 60) (hn : 0 < n) : ∀ (d j : Nat) (x y : XS) (cb cm mb mm : Int32), TH n nt x y → j + d = n → ((j = 0 ∧ mb = -1) ∨ (0 < j ∧ cb = mb ∧ cm = mm ∧ 0 ≤ mb)) → ∀ f g, d < f → d < g → RCI (lX7_sentAway_h40 f (nI m) w cb cm (nI j) x) (lX8_sentAway_h34 g (nI m) w mb mm (nI j) y) := by
  intro d
  induction d with
  | zero =>
    intro j x y cb cm mb mm hT hj hst f g hf hg
    obtain ⟨f, rfl⟩ : ∃ q, f = q + 1 := ⟨f - 1, by omega⟩
    obtain ⟨g, rfl⟩ : ∃ q, g = q + 1 := ⟨g - 1, by omega⟩
    show RCI (bX7_sentAway_h40 (lX7_sentAway_h40 f) (nI m) w cb cm (nI j) x) (bX8_sentAway_h34 (lX8_sentAway_h34 g) (nI m) w mb mm (nI j) y)
    obtain ⟨-, rfl, rfl, e0⟩ := hst.resolve_left (by omega)
    have e : j = n := by omega
    subst e
    unfold bX7_sentAway_h40 bX8_sentAway_h34
    rw [hT.1.n4, if_pos (Int32.le_refl _)]
    refine R2.gR (by decide) ?_
    rw [show ix 1 = 1 from rfl, show y 100 1 = nI j from hT.1.1.1.2.1, if_pos (Int32.le_refl _), if_pos e0]
    exact R2.ite (fun _ => RCI.same hT.ci) (fun _ => RCI.same hT.ci)
  | succ d ih =>
    intro j x y cb cm mb mm hT hj hst f g hf hg
    obtain ⟨f, rfl⟩ : ∃ q, f = q + 1 := ⟨f - 1, by omega⟩
    obtain ⟨g, rfl⟩ : ∃ q, g = q + 1 := ⟨g - 1, by omega⟩
    show RCI (bX7_sentAway_h40 (lX7_sentAway_h40 f) (nI m) w cb cm (nI j) x) (bX8_sentAway_h34 (lX8_sentAway_h34 g) (nI m) w mb mm (nI j) y)
    have hn8 := hT.1.1.1.1
    have hlt : ¬ nI n ≤ nI j := nI_ge (by omega) (by omega)
    unfold bX7_sentAway_h40 bX8_sentAway_h34
    rw [hT.1.n4, if_neg hlt]
    refine R2.gR (by decide) ?_
    rw [show ix 1 = 1 from rfl, show y 100 1 = nI n from hT.1.1.1.2.1, if_neg hlt]
    obtain ⟨x1, u1, u2, u3, u4⟩ := TH.bec hT.1
    obtain ⟨r, x3, y3, g1, g2, g3, y4, g4, g5⟩ := hT.go (m := m) (by omega) (x2 := wr x1 26 11 (nI j)) (y2 := wr y 99 4 (nI j)) (fun q _ a b => by rw [wr_ne (by omega)]; exact u2 q (by omega) (by omega) (by omega)) (PR_away u3) (u4.mono (fun q _ _ => wr_ne (by omega)) (wr_ne (by omega)) (fun _ _ => by rw [wr_ne (by omega)]) (by rw [wr_ne (by omega)])) (fun q a b => wr_ne (by omega)) (fun q hq => by rw [wr_at, if_pos rfl, if_neg hq]) (fun _ _ => by rw [wr_ne (by omega)])
    rw [u1, bd_e]
    refine R2.sL (R2.sR ?_)
    rw [g1, bd_e, g2, bd_e, ev_purses g3, bd_e, ev_sum4 g3.1 g3.2.1, bd_e, g4, bd_e]
    have go : ∀ b q, 0 ≤ b → RCI (lX7_sentAway_h40 f (nI m) w b q (nI (j + 1)) x3) (lX8_sentAway_h34 g (nI m) w b q (nI (j + 1)) y4) := fun b q hb => ih (j + 1) x3 y4 b q b q g5 (by omega) (Or.inr ⟨by omega, rfl, rfl, hb⟩) f g (by omega) (by omega)
    simp only [st_e, nI_1]
    rcases hst with ⟨e, rfl⟩ | ⟨e, rfl, rfl, e0⟩
    · rw [if_pos (show nI j = 0 by rw [e]; rfl), if_pos (show (-1 : Int32) < 0 by decide)]
      exact go _ _ (nI_pos' (by omega))
    · rw [if_neg (nI_ne0 e (by omega)), if_neg (show ¬ cb < 0 by grind)]
      exact R2.ite (fun _ => go _ _ e0) (fun _ => go _ _ (nI_pos' (by omega)))
theorem op_sentAway {x y : XS} {v w : Int32} (h : CI x y) : RCI (fX7_sentAway v w x) (fX8_sentAway v w y) := by
  have h0 := h
  obtain ⟨n, nt, h⟩ := h
  have hn8 := h.1.1.1
  have bad : RCI (some (-1000000001, x)) (some (-1000000001, y)) := RCI.same h0
  unfold fX7_sentAway fX8_sentAway
  rw [ev_thought, bdif, ev_in, bdif]
  refine R2.ite (fun c2 => ?_) (fun _ => bad)
  rw [ev_in, bdif]
  by_cases c3 : 0 ≤ w ∧ w ≤ 1
  · rw [if_neg (show ¬ w < 0 by grind), if_pos c3.2, if_pos c3]
    obtain ⟨m, hm, rfl⟩ := kind_ix (v := v) (b := 60) (by omega) ⟨by grind, c2.2⟩
    obtain ⟨y1, t1, hT⟩ := TH.start h
    rw [t1, bd_e, h.n4]
    by_cases e : n = 0
    · subst e
      rw [if_pos (by decide)]
      show RCI _ (bX8_sentAway_h34 (lX8_sentAway_h34 3999) (nI m) w (-1) 0 0 y1)
      unfold bX8_sentAway_h34
      refine R2.gR (by decide) ?_
      rw [show ix 1 = 1 from rfl, show y1 100 1 = nI 0 from hT.1.1.1.2.1, if_pos (by decide), if_neg (by decide)]
      exact RCI.same hT.ci
    · rw [if_neg (nI_ne0 (by omega) (by omega))]
      exact sent_loop hm (by omega) n 0 x y1 0 0 (-1) 0 hT (by omega) (Or.inl ⟨rfl, rfl⟩) FU FU (by unfold FU; omega) (by unfold FU; omega)
  · rw [if_neg c3]
    exact R2.ifL (fun _ => bad) (fun _ => R2.ifL (fun _ => absurd c3 (by grind)) (fun _ => bad))
theorem op_dry {x y : XS} {v : Int32} (h : CI x y) : RCI (fX7_dry v x) (fX8_dry v y) := by
  have h0 := h
  obtain ⟨n, nt, h⟩ := h
  unfold fX7_dry fX8_dry
  rw [ev_thought, bdif, ev_in, bdif]
  refine R2.ite (fun c2 => ?_) (fun _ => RCI.same h0)
  obtain ⟨m, hm, rfl⟩ := kind_ix (v := v) (b := 60) (by omega) ⟨by grind, c2.2⟩
  obtain ⟨y1, t1, hT⟩ := TH.start h
  obtain ⟨x1, u1, u2, u3, u4⟩ := TH.bec hT.1
  obtain ⟨r, x3, y3, g1, g2, g3, y4, g4, g5⟩ := hT.go (m := m) (by omega) (x2 := x1) (y2 := y1) (fun j _ a b => u2 j (by omega) (by omega) (by omega)) u3 u4 (fun _ _ _ => rfl) (fun _ _ => rfl) (fun _ _ => rfl)
  obtain ⟨x5, w1, w2, w3, w4⟩ := TH.bec g5.1
  have hs := (RS_wr (y := y4) (k := 5) (v := 0) (by omega) (by omega)).tr (RS_wr (y := wr y4 100 5 0) (k := 4) (v := 0) (by omega) (by omega))
  obtain ⟨r', x7, y7, q1, q2, q3, y8, q4, q5⟩ := g5.go (m := m) (by omega) (x2 := wr (wr x5 26 10 0) 26 6 0) (y2 := wr (wr y4 100 5 0) 100 4 0) (fun j _ a b => by rw [wr_ne (by omega), wr_ne (by omega)]; exact w2 j (by omega) (by omega) (by omega)) (PR_rain (PR_wet w3 (Or.inl rfl))) (w4.mono (fun q _ _ => by rw [wr_ne (by omega), wr_ne (by omega)]) (by rw [wr_ne (by omega), wr_ne (by omega)]) hs.1 hs.2) (fun q a b => by rw [wr_ne b, wr_ne b]) (fun q _ => by rw [wr_ne (by omega), wr_ne (by omega)]) hs.1
  rw [t1, bd_e, u1, bd_e, g1, bd_e, g2, bd_e, ev_purses g3, bd_e, ev_sum4 g3.1 g3.2.1, bd_e, g4, bd_e, w1, bd_e]
  refine R2.sL (R2.sL (R2.gR (by decide) (R2.sR (R2.gR (by decide) (R2.sR ?_)))))
  rw [show ix 5 = 5 from rfl, show ix 4 = 4 from rfl, q1, bd_e, q2, bd_e, ev_purses q3, bd_e, ev_sum4 q3.1 q3.2.1, bd_e, q4, bd_e]
  exact RCI.same q5.ci
