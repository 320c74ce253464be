theorem jdiv_nI {a d : Nat} (ha : a < 2147483648) (h0 : 0 < d) (hd : d < 2147483648) : jdiv (nI a) (nI d) = nI (a / d) := pk_div ha h0 hd
theorem jrem_nI {a d : Nat} (ha : a < 2147483648) (h0 : 0 < d) (hd : d < 2147483648) : jrem (nI a) (nI d) = nI (a % d) := pk_rem ha h0 hd
theorem TX.key {x : XS} {M : Nat → Int32} {t : Nat} (h : TX x M t) : ∃ ky, ky < 3 ∧ x (41 + 2 * t) 1 = nI ky ∧ jdiv (M (65 + 2 * t)) 1000 = nI ky := by
  obtain ⟨ky, sz, h1, h2, h3, h4, h5, -⟩ := h
  refine ⟨ky, h1, h3, ?_⟩
  rw [h5, show (1000 : Int32) = nI 1000 from rfl, jdiv_nI (by omega) (by omega) (by omega)]
  congr 1
  omega
/-- the laws of a street: L its row of laws -/
def LW (x : XS) (L M : Nat → Int32) (nt : Nat) : Prop := nt ≤ 14 ∧ M 8 = nI nt ∧ (∀ t, t < nt → TX x M t) ∧ ∀ ky, ky < 3 → (L ky = 0 ∧ ∀ t, t < nt → jdiv (M (65 + 2 * t)) 1000 ≠ nI ky) ∨ (∃ t, t < nt ∧ L ky = nI (41 + 2 * t) ∧ jdiv (M (65 + 2 * t)) 1000 = nI ky ∧ ∀ s, t < s → s < nt → jdiv (M (65 + 2 * s)) 1000 ≠ nI ky)
theorem cI65 (t : Nat) : 65 + 2 * nI t = nI (65 + 2 * t) := by
  rw [show (65 : Int32) = nI 65 from rfl, show (2 : Int32) = nI 2 from rfl, pk_mul, nI_add]
theorem counts_loop {y : XS} {ky : Nat} : ∀ m, m ≤ 14 → ∀ f, m < f → ((∀ t, t < m → jdiv (y 100 (65 + 2 * t)) 1000 ≠ nI ky) → lX8_counts_h10 f (nI ky) (nI m - 1) y = some (-1, y)) ∧ (∀ t, t < m → jdiv (y 100 (65 + 2 * t)) 1000 = nI ky → (∀ s, t < s → s < m → jdiv (y 100 (65 + 2 * s)) 1000 ≠ nI ky) → lX8_counts_h10 f (nI ky) (nI m - 1) y = some (nI t, y)) := by
  intro m
  induction m with
  | zero =>
    intro _ f hf
    obtain ⟨f, rfl⟩ : ∃ q, f = q + 1 := ⟨f - 1, by omega⟩
    refine ⟨fun _ => ?_, fun t ht => absurd ht (by omega)⟩
    show bX8_counts_h10 (lX8_counts_h10 f) (nI ky) (nI 0 - 1) y = _
    unfold bX8_counts_h10
    rw [if_pos (by decide)]
  | succ m ih =>
    intro hm f hf
    obtain ⟨f, rfl⟩ : ∃ q, f = q + 1 := ⟨f - 1, by omega⟩
    have e1 : nI (m + 1) - 1 = nI m := nI_pred m
    have e2 : nI m + -1 = nI m - 1 := by grind
    have hb : ∀ k : Int32 → Int32 → XS → Option (Int32 × XS), bX8_counts_h10 k (nI ky) (nI m) y = if jdiv (y 100 (65 + 2 * m)) 1000 = nI ky then some (nI m, y) else k (nI ky) (nI m - 1) y := by
      intro k
      unfold bX8_counts_h10
      rw [if_neg (nI_pos (by omega)), cI65, gd_e (inb_nI (by omega) (by omega)), ix_nI (by omega), st_e, st_e, e2]
    have hi := ih (by omega) f (by omega)
    rw [e1]
    refine ⟨fun h => ?_, fun t ht h1 h2 => ?_⟩
    · show bX8_counts_h10 (lX8_counts_h10 f) (nI ky) (nI m) y = _
      rw [hb, if_neg (h m (by omega))]
      exact hi.1 (fun t ht => h t (by omega))
    · show bX8_counts_h10 (lX8_counts_h10 f) (nI ky) (nI m) y = _
      rw [hb]
      by_cases e : t = m
      · subst e; rw [if_pos h1]
      · rw [if_neg (h2 m (by omega) (by omega))]
        exact hi.2 t (by omega) h1 (fun s h3 h4 => h2 s h3 (by omega))
theorem ev_counts {x y : XS} {L : Nat → Int32} {nt ky : Nat} (h : LW x L (y 100) nt) (hk : ky < 3) : (L ky = 0 ∧ fX8_counts (nI ky) y = some (-1, y)) ∨ (∃ t, t < nt ∧ L ky = nI (41 + 2 * t) ∧ fX8_counts (nI ky) y = some (nI t, y) ∧ jdiv (y 100 (65 + 2 * t)) 1000 = nI ky) := by
  obtain ⟨h14, h8, hT, hL⟩ := h
  have hl := counts_loop (y := y) (ky := ky) nt h14 FU (by unfold FU; omega)
  have hc : fX8_counts (nI ky) y = lX8_counts_h10 FU (nI ky) (nI nt - 1) y := by
    unfold fX8_counts fX8_counts_h10
    rw [gd_e (by decide), st_e, show ix 8 = 8 from rfl, h8]
  rcases hL ky hk with ⟨a, b⟩ | ⟨t, ht, a, b, c⟩
  · exact Or.inl ⟨a, by rw [hc]; exact hl.1 b⟩
  · exact Or.inr ⟨t, ht, a, by rw [hc]; exact hl.2 t ht b c, b⟩
/-- a text worked out in both -/
theorem val_rel {x y : XS} {t ky : Nat} {u1 u2 u3 : Int32} (ht : t < 14) (hT : TX x (y 100) t) (hk : jdiv (y 100 (65 + 2 * t)) 1000 = nI ky) (hk3 : ky < 3) (h0 : y 111 0 = u1) (h1 : y 111 1 = u2) (h2 : y 111 2 = u3 ∨ ky ≠ 0) : R2 (fun r _ q _ => r = q) (fX6_value (41 + 2 * t) u1 u2 u3 x) (fX8_worksOut (nI t) y) := by
  obtain ⟨k2, a1, -, a3⟩ := hT.key
  have ek : k2 = ky := by
    rw [a3] at hk
    exact (nI_eq (by omega) (by omega)).mp hk
  obtain ⟨ky', sz, b1, b2, b3, b4, b5, b6, b7, b8, b9⟩ := hT
  have ek2 : ky' = ky := by
    rw [b5, show (1000 : Int32) = nI 1000 from rfl, jdiv_nI (by omega) (by omega) (by omega)] at hk
    have := (nI_eq (by omega) (by omega)).mp hk
    omega
  subst ek2
  unfold fX6_value fX6_value_h6 fX8_worksOut fX8_worksOut_h21
  rw [cI65]
  refine R2.gR (inb_nI (by omega) (by omega)) (R2.sR ?_)
  rw [ix_nI (by omega), b5, show (1000 : Int32) = nI 1000 from rfl, jrem_nI (by omega) (by omega) (by omega), show (1000 * ky' + sz) % 1000 = sz by omega]
  exact val_loop (X1 := x (41 + 2 * t)) (X2 := x (41 + 2 * t + 1)) (M := y 100) (F := y 111) ht b2 b4 b7 h0 h1 (h2.imp id (fun h => b8 h)) b9 sz 0 0 x y (by omega) rfl rfl rfl rfl rfl (fun i hi => absurd hi (by omega)) FU FU (by unfold FU; omega) (by unfold FU; omega)
def cl9 (p : Int32) : Int32 := if p < 0 then 0 else if 999 < p then 999 else p
def sf (k r p : Int32) : Int32 := if k = 1 ∨ k = 3 then jmax 0 (p - 5) else if k = 2 then p + 10 else if k = 4 then (if r ≤ 12 then p + 10 else jdiv (p + 10) 2) else p
theorem ev_shineFrom {k r p : Int32} {x : XS} : fX1_shineFrom k r p x = some (sf k r p, x) := by
  simp only [fX1_shineFrom, sf, st_e]
  grind
theorem ev_h67 {a0 a1 : Nat} {r p : Int32} {x : XS} : fX4_shineOf_h67 a0 a1 r p x = some (sf (x a1 0) r (cl9 p), x) := by
  unfold fX4_shineOf_h67
  rw [st_e, st_e, ev_shineFrom, bd_e]
  have e : jmax 0 (jmin 999 p) = cl9 p := by unfold jmax jmin cl9; grind
  rw [e]
theorem ev_bare {v d : Int32} {x : XS} (h : rg 0 80 v) : fX4_bareShine v d x = some (100 - jdiv 60 (1 + v) - 3 * d, x) := by
  unfold rg at h
  unfold fX4_bareShine
  rw [st_e, if_pos (by grind), gd_e (decide_eq_true (by grind)), st_e]
/-- what a plain boy would reach, before it is held within 0 .. 999 -/
theorem plain_rel {a a1 i nt : Nat} {x y : XS} {u2 v d : Int32} (hi : i < 8) (hL : LW x (x (a + 2)) (y 100) nt) (hp : x a1 1 = y 100 (9 + 7 * i + 1)) (hv : rg 0 80 v) : ∃ p x1 y1, fX4_shineOf_h30 a a1 u2 v d x = fX4_shineOf_h67 a a1 u2 p x1 ∧ (∀ j, j ≠ 40 → x1 j = x j) ∧ fX8_plainOf (nI i) v d y = some (cl9 p, y1) := by
  have hw : ∀ (r : Int32) (z : XS), fX8_within r 0 999 z = some (cl9 r, z) := fun r z => by rw [ev_within]; rfl
  unfold fX4_shineOf_h30 fX8_plainOf
  have hl : fX4_law a 0 x = some (x (a + 2) 0, x) := by
    unfold fX4_law
    rw [if_neg (by decide), if_neg (by decide), gd_e (by decide)]
    rfl
  rw [hl, bd_e]
  have hc := ev_counts (ky := 0) hL (by omega)
  rw [show nI 0 = 0 from rfl] at hc
  have o1 : ∀ (a b c : Int32), fX8_of (nI i) 1 (wr (wr y 111 0 a) 111 1 b) = some (y 100 (9 + 7 * i + 1), wr (wr y 111 0 a) 111 1 b) := fun a b c => by
    rw [ev_of1 hi, wr_ne (by omega), wr_ne (by omega)]
  rcases hc with ⟨c1, c2⟩ | ⟨t, ht, c1, c2, c3⟩
  · rw [if_pos c1, ev_bare hv, bd_e, c2, bd_e]
    refine ⟨_, x, wr (wr (wr y 111 0 v) 111 1 d) 111 2 (y 100 (9 + 7 * i + 1)), rfl, fun _ _ => rfl, ?_⟩
    rw [gd_e (by decide), st_e, gd_e (by decide), st_e, show ix 0 = 0 from rfl, show ix 1 = 1 from rfl, o1 v d 0, bd_e, gd_e (by decide), st_e, if_neg (by decide), gd_e (decide_eq_true (by unfold rg at hv; grind)), st_e, hw, bd_e]
    rfl
  · have h14 : t < 14 := by have := hL.1; omega
    have hne : ¬ x (a + 2) 0 = 0 := by rw [c1]; exact nI_ne0 (by omega) (by omega)
    have hix : ix (x (a + 2) 0) = 41 + 2 * t := by rw [c1, ix_nI (by omega)]
    have hT := hL.2.2.1 t ht
    rw [if_neg hne, gd_e (by rw [hix]; exact decide_eq_true (el15_all t (by omega))), hix, c2, bd_e, gd_e (by decide), st_e, gd_e (by decide), st_e, show ix 0 = 0 from rfl, show ix 1 = 1 from rfl, o1 v d 0, bd_e, gd_e (by decide), st_e, if_pos (nI_pos' (by omega)), show ix 2 = 2 from rfl]
    have hr := val_rel (y := wr (wr (wr y 111 0 v) 111 1 d) 111 2 (y 100 (9 + 7 * i + 1))) (x := x) (t := t) (ky := 0) (u1 := v) (u2 := d) (u3 := x a1 1) h14 (by rw [wr_ne (by omega), wr_ne (by omega), wr_ne (by omega)]; exact hT) (by rw [wr_ne (by omega), wr_ne (by omega), wr_ne (by omega)]; exact c3) (by omega) (by simp [wr_at]) (by simp [wr_at]) (Or.inl (by simp [wr_at, hp]))
    obtain ⟨r, x1, q, y1, e1, e2, rfl⟩ := hr
    rw [e1, bd_e, e2, bd_e, hw, bd_e]
    exact ⟨r, x1, y1, rfl, fun j hj => frX6_value hj e1, rfl⟩
theorem cl9_nI (p : Int32) : ∃ k, k ≤ 999 ∧ cl9 p = nI k := by
  by_cases h : cl9 p < 0
  · exact absurd h (by unfold cl9; grind)
  · obtain ⟨j, hj, e⟩ := nI_of h
    refine ⟨j, ?_, e⟩
    have h9 : cl9 p ≤ 999 := by unfold cl9; grind
    rw [e, show (999 : Int32) = nI 999 from rfl] at h9
    exact (nI_leI hj (by omega)).mp h9
theorem rg_nI {k b : Nat} (h : k ≤ b) (hb : b < 2147483648) : rg 0 (nI b) (nI k) := ⟨nI_pos' (by omega), nI_le h hb⟩
theorem cl9_rg (p : Int32) : 0 ≤ cl9 p ∧ cl9 p ≤ 999 := by unfold cl9; grind
theorem half_rg (p : Int32) : rg 0 1009 (jdiv (cl9 p + 10) 2) := by
  obtain ⟨k, hk, e⟩ := cl9_nI p
  rw [e, show (10 : Int32) = nI 10 from rfl, show (2 : Int32) = nI 2 from rfl, show (1009 : Int32) = nI 1009 from rfl, nI_add, jdiv_nI (by omega) (by omega) (by omega)]
  exact rg_nI (by omega) (by omega)
theorem sf_rg {K r p : Int32} : rg 0 1009 (sf K r (cl9 p)) := by
  have h1 := cl9_rg p
  have h2 := half_rg p
  generalize cl9 p = q at *
  generalize hh : jdiv (q + 10) 2 = w at *
  unfold rg sf jmax at *
  rw [hh]
  grind
theorem jdiv1 (p : Int32) : jdiv (cl9 p + 10) 1 = cl9 p + 10 := by
  obtain ⟨k, hk, e⟩ := cl9_nI p
  rw [e, show (10 : Int32) = nI 10 from rfl, show (1 : Int32) = nI 1 from rfl, nI_add, jdiv_nI (by omega) (by omega) (by omega), Nat.div_one]
theorem within5 (p : Int32) {y : XS} : fX8_within (cl9 p - 5) 0 999 y = some (jmax 0 (cl9 p - 5), y) := by
  rw [ev_within]
  obtain ⟨h1, h2⟩ := cl9_rg p
  have e2 : (if cl9 p - 5 < 0 then 0 else if 999 < cl9 p - 5 then 999 else cl9 p - 5) = jmax 0 (cl9 p - 5) := by unfold jmax; grind
  rw [e2]
theorem shine_rel {a i nt : Nat} {x y : XS} {r d : Int32} (ha : a ≤ 26) (i8 : i < 8) (b0 : x (a + 3 + i) 0 = y 100 (9 + 7 * i)) (b1 : x (a + 3 + i) 1 = y 100 (9 + 7 * i + 1)) (hL : LW x (x (a + 2)) (y 100) nt) (hr : rg 0 40 r) : R2 (fun p _ q _ => p = q ∧ rg 0 1009 p) (fX4_shineOf a (a + 3 + i) r d x) (fX8_shineOf (nI i) r d y) := by
  have key : ∀ v e, rg 0 80 v → ∃ p x1 y1, fX4_shineOf_h30 a (a + 3 + i) r v e x = some (sf (y 100 (9 + 7 * i)) r (cl9 p), x1) ∧ fX8_plainOf (nI i) v e y = some (cl9 p, y1) := by
    intro v e hv
    obtain ⟨p, x1, y1, e1, e2, e3⟩ := plain_rel (a := a) (a1 := a + 3 + i) (u2 := r) (d := e) i8 hL b1 hv
    refine ⟨p, x1, y1, ?_, e3⟩
    rw [e1, ev_h67, e2 _ (by omega), b0]
  unfold fX4_shineOf fX4_shineOf_h15 fX8_shineOf
  rw [ev_of0 i8, bd_e, b0]
  have hv1 : rg 0 80 r := by unfold rg at *; grind
  have hv2 : rg 0 80 (2 * r) := by unfold rg at *; grind
  generalize hK : y 100 (9 + 7 * i) = K at *
  have post : ∀ p, rg 0 1009 (sf K r (cl9 p)) := fun p => sf_rg
  by_cases k1 : K = 1
  · obtain ⟨p, x1, y1, e1, e2⟩ := key r d hv1
    rw [if_neg (by rw [k1]; decide), if_neg (by rw [k1]; decide), e1, if_pos k1, e2, bd_e, within5, bd_e]
    exact R2.ret ⟨by unfold sf; rw [if_pos (Or.inl k1)], post p⟩
  by_cases k2 : K = 2
  · obtain ⟨p, x1, y1, e1, e2⟩ := key r d hv1
    rw [if_neg (by rw [k2]; decide), if_neg (by rw [k2]; decide), e1, if_neg k1, if_pos k2, e2, bd_e]
    exact R2.ret ⟨by unfold sf; rw [if_neg (by rw [k2]; decide), if_pos k2], post p⟩
  by_cases k3 : K = 3
  · obtain ⟨p, x1, y1, e1, e2⟩ := key (2 * r) d hv2
    rw [if_pos k3, if_neg (by rw [k3]; decide), e1, if_neg k1, if_neg k2, if_pos k3, e2, bd_e, within5, bd_e]
    exact R2.ret ⟨by unfold sf; rw [if_pos (Or.inr k3)], post p⟩
  by_cases k4 : K = 4
  · obtain ⟨p, x1, y1, e1, e2⟩ := key r d hv1
    rw [if_neg k3, if_neg (by rw [k4]; decide), e1, if_neg k1, if_neg k2, if_neg k3, if_pos k4, e2, bd_e, jdiv1, st_e, st_e]
    have es : sf K r (cl9 p) = if r ≤ 12 then cl9 p + 10 else jdiv (cl9 p + 10) 2 := by
      unfold sf
      rw [if_neg (by rw [k4]; decide), if_neg k2, if_pos k4]
    have hp := post p
    rw [es] at hp ⊢
    by_cases h12 : r ≤ 12
    · rw [if_pos h12] at hp ⊢
      exact R2.eqR (if_pos h12) (R2.ret ⟨rfl, hp⟩)
    · rw [if_neg h12] at hp ⊢
      exact R2.eqR (if_neg h12) (R2.ret ⟨rfl, hp⟩)
  by_cases k5 : K = 5
  · obtain ⟨p, x1, y1, e1, e2⟩ := key r 0 hv1
    rw [if_neg k3, if_pos k5, e1, if_neg k1, if_neg k2, if_neg k3, if_neg k4, if_pos k5, e2, bd_e]
    exact R2.ret ⟨by unfold sf; rw [if_neg (by rw [k5]; decide), if_neg k2, if_neg k4], post p⟩
  · obtain ⟨p, x1, y1, e1, e2⟩ := key r d hv1
    rw [if_neg k3, if_neg k5, e1, if_neg k1, if_neg k2, if_neg k3, if_neg k4, if_neg k5, e2, bd_e]
    exact R2.ret ⟨by unfold sf; rw [if_neg (by grind), if_neg k2, if_neg k4], post p⟩
