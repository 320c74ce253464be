theorem CN.scr {n nt : Nat} {x y x1 y1 : XS} (h : CN n nt x y) (hx : ∀ j, j ≠ 40 → x1 j = x j) (hy : ∀ j, j ≠ 110 → j ≠ 111 → y1 j = y j) : CN n nt x1 y1 := by
  refine h.one (h.1.cong (hx 4 (by omega)) (hx 6 (by omega)) (fun j _ _ => hx j (by omega)) (fun j _ _ => hx j (by omega)) (hy 100 (by omega) (by omega)) ?_) (fun j h1 _ _ h2 h3 => hx j h3) (fun j h1 _ h2 h3 h4 h5 h6 => hy j h4 h5)
  rw [hy 99 (by omega) (by omega)]
/-- one difference, in ints and in longs -/
theorem off1 {p v : Int32} (hp : rg 0 1009 p) (hv : rg (-99999) 99999 v) : ∃ a : Nat, a ≤ 101008 ∧ jabs (p - v) = nI a ∧ (if 0 ≤ lg_cmp (v.toInt64 - p.toInt64) 0 then v.toInt64 - p.toInt64 else -(v.toInt64 - p.toInt64)) = lN a := by
  have h1 : 0 ≤ p.toInt ∧ p.toInt ≤ 1009 := ⟨Int32.le_iff_toInt_le.mp hp.1, Int32.le_iff_toInt_le.mp hp.2⟩
  have h2 : -99999 ≤ v.toInt ∧ v.toInt ≤ 99999 := ⟨Int32.le_iff_toInt_le.mp hv.1, Int32.le_iff_toInt_le.mp hv.2⟩
  have e1 : (v.toInt64 - p.toInt64).toInt = v.toInt - p.toInt := by
    rw [Int64.toInt_sub, Int32.toInt_toInt64, Int32.toInt_toInt64, Int.bmod_eq_of_le (by omega) (by omega)]
  have e2 : (p - v).toInt = p.toInt - v.toInt := by
    rw [Int32.toInt_sub, Int.bmod_eq_of_le (by omega) (by omega)]
  refine ⟨(p.toInt - v.toInt).natAbs, by omega, ?_, ?_⟩
  · apply Int32.toInt_inj.mp
    rw [nI_toInt (by omega)]
    unfold jabs
    by_cases c : 0 ≤ p - v
    · have c1 : 0 ≤ (p - v).toInt := Int32.le_iff_toInt_le.mp c
      rw [if_pos c, e2]; omega
    · have c1 : ¬ 0 ≤ (p - v).toInt := fun q => c (Int32.le_iff_toInt_le.mpr q)
      rw [if_neg c, Int32.toInt_sub, e2, Int.bmod_eq_of_le (by rw [show (0 : Int32).toInt = 0 from rfl]; omega) (by rw [show (0 : Int32).toInt = 0 from rfl]; omega), show (0 : Int32).toInt = 0 from rfl]; omega
  · apply Int64.toInt_inj.mp
    rw [lN_toInt (by omega)]
    by_cases c : 0 ≤ lg_cmp (v.toInt64 - p.toInt64) 0
    · have c1 : 0 ≤ (v.toInt64 - p.toInt64).toInt := Int64.le_iff_toInt_le.mp ((lg_cmp_ge _ _).mp c)
      rw [if_pos c, e1]; omega
    · have c1 : ¬ 0 ≤ (v.toInt64 - p.toInt64).toInt := fun q => c ((lg_cmp_ge _ _).mpr (Int64.le_iff_toInt_le.mpr q))
      rw [if_neg c, Int64.toInt_neg, e1, Int.bmod_eq_of_le (by omega) (by omega)]; omega
theorem off_loop {n nt q b c : Nat} (hq : q < 4) (hb : b < n) (hc : c ≤ 24) : ∀ (d i S : Nat) (x y : XS), CN n nt x y → y 113 q = nI c → i + d = c → S ≤ 101008 * i → ∀ f g, d < f → d < g → ∃ S' x1 y1, lX7_differences_h5 (7 + b) (71 + 2 * q) f (nI S) (nI i) x = some (nI S', x1) ∧ lX8_offBy_h5 g (nI q) (nI b) (lN S) (nI i) y = some (lN S', y1) ∧ S' ≤ 2424192 ∧ CN n nt x1 y1 ∧ y1 113 q = nI c := by
  intro d
  induction d with
  | zero =>
    intro i S x y h e4 hi hS f g hf hg
    obtain ⟨f, rfl⟩ : ∃ q, f = q + 1 := ⟨f - 1, by omega⟩
    obtain ⟨g, rfl⟩ : ∃ q, g = q + 1 := ⟨g - 1, by omega⟩
    obtain ⟨a1, a2, a3, -, a5⟩ := h.2.2.2.2.2.1 q hq
    have e : i = c := by omega
    subst e
    refine ⟨S, x, y, ?_, ?_, by omega, h, e4⟩
    · show bX7_differences_h5 (7 + b) (71 + 2 * q) (lX7_differences_h5 (7 + b) (71 + 2 * q) f) (nI S) (nI i) x = _
      unfold bX7_differences_h5
      rw [a3, e4, if_pos (Int32.le_refl _)]
    · show bX8_offBy_h5 (lX8_offBy_h5 g) (nI q) (nI b) (lN S) (nI i) y = _
      unfold bX8_offBy_h5
      rw [gd_e (inb_nI hq (by omega)), ix_nI (by omega), e4, if_pos (Int32.le_refl _)]
  | succ d ih =>
    intro i S x y h e4 hi hS f g hf hg
    obtain ⟨f, rfl⟩ : ∃ q, f = q + 1 := ⟨f - 1, by omega⟩
    obtain ⟨g, rfl⟩ : ∃ q, g = q + 1 := ⟨g - 1, by omega⟩
    obtain ⟨a1, a2, a3, -, a5⟩ := h.2.2.2.2.2.1 q hq
    have e1 : x (71 + 2 * q) 1 = nI c := by rw [a3, e4]
    have ap := a5 i (by omega)
    rw [show 72 + 2 * q = 71 + 2 * q + 1 by omega] at ap
    have hr : rg 0 40 (nI i) := ⟨nI_pos' (by omega), nI_le (b := 40) (by omega) (by omega)⟩
    obtain ⟨i8, b0, b1, -⟩ := h.bx hb
    obtain ⟨p, x1, p', y1, s1, s2, rfl, hp⟩ := shine_rel (a := 4) (i := b) (r := nI i) (d := 0) (by omega) i8 b0 b1 h.1.2.1 hr
    have s1' : fX4_shineOf 4 (7 + b) (nI i) 0 x = some (p, x1) := s1
    have fy : ∀ j, j ≠ 110 → j ≠ 111 → y1 j = y j := fun j a b => frX8_shineOf b a s2
    have fx : ∀ j, j ≠ 40 → x1 j = x j := fun j a => frX4_shineOf a s1
    have e4' : y1 113 q = nI c := by rw [fy 113 (by omega) (by omega)]; exact e4
    have E1 : ∀ o, bX7_differences_h5 (7 + b) (71 + 2 * q) (lX7_differences_h5 (7 + b) (71 + 2 * q) f) (nI S) (nI i) x = o → lX7_differences_h5 (7 + b) (71 + 2 * q) (f + 1) (nI S) (nI i) x = o := fun o h => h
    have E2 : ∀ o, bX8_offBy_h5 (lX8_offBy_h5 g) (nI q) (nI b) (lN S) (nI i) y = o → lX8_offBy_h5 (g + 1) (nI q) (nI b) (lN S) (nI i) y = o := fun o h => h
    have M : ∀ o, (∀ w, w = y 114 (24 * q + i) → (if w = -1000000005 then fX8_offBy_h72 (lX8_offBy_h5 g) (nI q) (nI b) (nI i) (lN S) 0 y1 else (if 0 ≤ lg_cmp (w.toInt64 - p.toInt64) 0 then fX8_offBy_h72 (lX8_offBy_h5 g) (nI q) (nI b) (nI i) (lN S) (w.toInt64 - p.toInt64) y1 else fX8_offBy_h72 (lX8_offBy_h5 g) (nI q) (nI b) (nI i) (lN S) (-(w.toInt64 - p.toInt64)) y1)) = o) → bX8_offBy_h5 (lX8_offBy_h5 g) (nI q) (nI b) (lN S) (nI i) y = o := by
      intro o ho
      unfold bX8_offBy_h5
      rw [gd_e (inb_nI hq (by omega)), ix_nI (i := q) (by omega), e4, if_neg (nI_ge (by omega) (by omega)), cI24, gd_e (inb_nI (by omega) (by omega)), ix_nI (by omega), st_e, st_e, s2, bd_e, st_e, st_e]
      exact ho _ rfl
    by_cases w : y 114 (24 * q + i) = -1000000005
    · have hx1 : CN n nt x y1 := h.scr (fun _ _ => rfl) fy
      obtain ⟨S', x2, y2, t1, t2, t3, t4, t5⟩ := ih (i + 1) S x y1 hx1 e4' (by omega) (by omega) f g (by omega) (by omega)
      refine ⟨S', x2, y2, E1 _ ?_, E2 _ (M _ (fun w' hw' => ?_)), t3, t4, t5⟩
      · unfold bX7_differences_h5
        rw [e1, if_neg (nI_ge (by omega) (by omega)), ev_hasNumber hc e1 (by omega), bdif, if_neg (by rw [ap.1, w]; intro q; exact q.2 rfl), st_e, nI_1]
        exact t1
      · rw [hw', if_pos w]
        unfold fX8_offBy_h72
        rw [st_e, st_e, nI_1, Int64.add_zero]
        exact t2
    · have hv : rg (-99999) 99999 (y 114 (24 * q + i)) := ap.2.resolve_left w
      obtain ⟨a, ha, o1, o2⟩ := off1 hp hv
      have hx1 : CN n nt x1 y1 := h.scr fx fy
      obtain ⟨S', x2, y2, t1, t2, t3, t4, t5⟩ := ih (i + 1) (S + a) x1 y1 hx1 e4' (by omega) (by omega) f g (by omega) (by omega)
      refine ⟨S', x2, y2, E1 _ ?_, E2 _ (M _ (fun w' hw' => ?_)), t3, t4, t5⟩
      · unfold bX7_differences_h5
        rw [e1, if_neg (nI_ge (by omega) (by omega)), ev_hasNumber hc e1 (by omega), bdif, if_pos (by rw [ap.1]; exact ⟨by omega, w⟩), s1', bd_e, gd_e (inb_nI (by omega) (by omega)), ix_nI (by omega), fx _ (by omega), ap.1, st_e, st_e, st_e, o1, nI_add, nI_1]
        exact t1
      · rw [hw', if_neg w]
        have e72 : ∀ s, fX8_offBy_h72 (lX8_offBy_h5 g) (nI q) (nI b) (nI i) (lN S) s y1 = lX8_offBy_h5 g (nI q) (nI b) (lN S + s) (nI (i + 1)) y1 := fun s => by
          unfold fX8_offBy_h72
          rw [st_e, st_e, nI_1]
        rw [e72, e72]
        have o3 : lN S + (if 0 ≤ lg_cmp ((y 114 (24 * q + i)).toInt64 - p.toInt64) 0 then (y 114 (24 * q + i)).toInt64 - p.toInt64 else -((y 114 (24 * q + i)).toInt64 - p.toInt64)) = lN (S + a) := by rw [o2, lN_add]
        by_cases cc : 0 ≤ lg_cmp ((y 114 (24 * q + i)).toInt64 - p.toInt64) 0
        · rw [if_pos cc] at o3
          rw [if_pos cc, o3]; exact t2
        · rw [if_neg cc] at o3
          rw [if_neg cc, o3]; exact t2
theorem shone_loop {n nt q c : Nat} {w : Int32} (hq : q < 4) (hn : 0 < n) (hc : c ≤ 24) : ∀ (d j mm : Nat) (x y : XS) (cb cm mb : Int32), CN n nt x y → y 113 q = nI c → j + d = n → mm ≤ 2424192 → ((j = 0 ∧ mb = -1) ∨ (0 < j ∧ cb = mb ∧ cm = nI mm ∧ 0 ≤ mb)) → ∀ f g, d < f → d < g → RCI (lX7_shone_h55 f (nI q) w cb cm (nI j) x) (lX8_shone_h39 g (nI q) w mb (lN mm) (nI j) y) := by
  intro d
  induction d with
  | zero =>
    intro j mm x y cb cm mb h e4 hj hm hst f g hf hg
    obtain ⟨f, rfl⟩ : ∃ q, f = q + 1 := ⟨f - 1, by omega⟩
    obtain ⟨g, rfl⟩ : ∃ q, g = q + 1 := ⟨g - 1, by omega⟩
    show RCI (bX7_shone_h55 (lX7_shone_h55 f) (nI q) w cb cm (nI j) x) (bX8_shone_h39 (lX8_shone_h39 g) (nI q) w mb (lN mm) (nI j) y)
    obtain ⟨-, rfl, rfl, e0⟩ := hst.resolve_left (by omega)
    have e : j = n := by omega
    subst e
    unfold bX7_shone_h55 bX8_shone_h39
    rw [h.n4, if_pos (Int32.le_refl _)]
    refine R2.gR (by decide) ?_
    rw [show ix 1 = 1 from rfl, show y 100 1 = nI j from h.1.1.2.1, if_pos (Int32.le_refl _), if_pos e0]
    refine R2.ite (fun _ => RCI.same ⟨_, _, h⟩) (fun _ => ?_)
    refine R2.sR ?_
    rw [lN_i]
    exact RCI.same ⟨_, _, h⟩
  | succ d ih =>
    intro j mm x y cb cm mb h e4 hj hm hst f g hf hg
    obtain ⟨f, rfl⟩ : ∃ q, f = q + 1 := ⟨f - 1, by omega⟩
    obtain ⟨g, rfl⟩ : ∃ q, g = q + 1 := ⟨g - 1, by omega⟩
    show RCI (bX7_shone_h55 (lX7_shone_h55 f) (nI q) w cb cm (nI j) x) (bX8_shone_h39 (lX8_shone_h39 g) (nI q) w mb (lN mm) (nI j) y)
    have hn8 := h.1.1.1
    have hlt : ¬ nI n ≤ nI j := nI_ge (by omega) (by omega)
    obtain ⟨S, x1, y1, t1, t2, t3, t4, t5⟩ := off_loop (b := j) hq (by omega) hc c 0 0 x y h e4 (by omega) (by omega) FU FU (by unfold FU; omega) (by unfold FU; omega)
    unfold bX7_shone_h55 bX8_shone_h39
    rw [h.n4, if_neg hlt]
    refine R2.gR (by decide) ?_
    rw [show ix 1 = 1 from rfl, show y 100 1 = nI n from h.1.1.2.1, if_neg hlt]
    refine R2.gL (inb_nI (by omega) (by omega)) (R2.gL (inb_nI hq (by omega)) ?_)
    rw [ix_nI (i := j) (by omega), ix_nI (i := q) (by omega), show fX7_differences (7 + j) (71 + 2 * q) x = some (nI S, x1) from t1, bd_e, show fX8_offBy (nI q) (nI j) y = some (lN S, y1) from t2, bd_e]
    have go : ∀ (b : Int32) (s : Nat), s ≤ 2424192 → 0 ≤ b → RCI (lX7_shone_h55 f (nI q) w b (nI s) (nI (j + 1)) x1) (lX8_shone_h39 g (nI q) w b (lN s) (nI (j + 1)) y1) := fun b s hs hb => ih (j + 1) s x1 y1 b (nI s) b t4 t5 (by omega) hs (Or.inr ⟨by omega, rfl, rfl, hb⟩) f g (by omega) (by omega)
    simp only [st_e, nI_1]
    rcases hst with ⟨e, rfl⟩ | ⟨e, rfl, rfl, e0⟩
    · rw [if_pos (show nI j = 0 by rw [e]; rfl), if_pos (show (-1 : Int32) < 0 by decide)]
      exact go _ _ t3 (nI_pos' (by omega))
    · rw [if_neg (nI_ne0 e (by omega)), if_neg (show ¬ cb < 0 by grind)]
      refine R2.iteC ?_ (fun _ => go _ _ hm e0) (fun _ => go _ _ t3 (nI_pos' (by omega)))
      rw [lg_cmp_ge, lN_le (by omega) (by omega), nI_leI (by omega) (by omega)]
theorem op_shone {x y : XS} {v w : Int32} (h : CI x y) : RCI (fX7_shone v w x) (fX8_shone v w y) := by
  have h0 := h
  obtain ⟨n, nt, h⟩ := h
  have hn8 := h.1.1.1
  have bad : RCI (some (-1000000001, x)) (some (-1000000001, y)) := RCI.same h0
  unfold fX7_shone fX8_shone
  refine R2.sheet h0 (fun i hi e => ?_)
  subst e
  have i4 : inb (nI i) 4 = true := inb_nI hi (by omega)
  obtain ⟨a1, a2, a3, ⟨c, hc, a4⟩, a5⟩ := h.2.2.2.2.2.1 i hi
  rw [ev_in, bdif]
  by_cases c3 : 0 ≤ w ∧ w ≤ 1
  · rw [if_neg (show ¬ w < 0 by grind), if_pos c3.2, if_pos c3]
    refine R2.gL i4 (R2.gR i4 ?_)
    rw [ix_nI (by omega), ev_missing, bdif, a1]
    by_cases m : y 112 i = -1
    · rw [if_pos m, if_neg (show ¬ 0 ≤ y 112 i by rw [m]; decide)]
      exact RCI.same h0
    · rw [if_neg m, if_pos (show 0 ≤ y 112 i by unfold rg at a2; grind), h.n4]
      by_cases e : n = 0
      · subst e
        rw [if_pos (by decide)]
        show RCI _ (bX8_shone_h39 (lX8_shone_h39 3999) (nI i) w (-1) 0 0 y)
        unfold bX8_shone_h39
        refine R2.gR (by decide) ?_
        rw [show ix 1 = 1 from rfl, show y 100 1 = nI 0 from h.1.1.2.1, if_pos (by decide), if_neg (by decide)]
        exact RCI.same h0
      · rw [if_neg (nI_ne0 (by omega) (by omega))]
        exact shone_loop hi (by omega) hc n 0 0 x y 0 0 (-1) h a4 (by omega) (by omega) (Or.inl ⟨rfl, rfl⟩) FU FU (by unfold FU; omega) (by unfold FU; omega)
  · rw [if_neg c3]
    exact R2.ifL (fun _ => bad) (fun _ => R2.ifL (fun _ => absurd c3 (by grind)) (fun _ => bad))
