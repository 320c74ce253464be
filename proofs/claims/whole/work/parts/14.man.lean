theorem jushr8 (v : Int32) : ∃ k, k < 16777216 ∧ jushr v 8 = nI k := by
  have h := pk_ushr v 8 8 (by decide)
  have hb : v.toBitVec.toNat < 2 ^ 32 := v.toBitVec.isLt
  refine ⟨v.toBitVec.toNat / 256, by omega, ?_⟩
  unfold jushr
  apply Int32.toBitVec_inj.mp
  apply BitVec.eq_of_toNat_eq
  rw [h, pk_tn (by omega)]
theorem rem_rg {v : Int32} {d : Nat} (h0 : 0 < d) (hd : d < 1000) : ∃ k, k < d ∧ jrem (jushr v 8) (nI d) = nI k := by
  obtain ⟨k, hk, e⟩ := jushr8 v
  rw [e, jrem_nI (by omega) h0 (by omega)]
  exact ⟨k % d, Nat.mod_lt _ h0, rfl⟩
theorem tk_nI {K : Int32} {r : Int32} (hr : rg 1 20 r) : ∃ k, k < 20 ∧ tk K r = nI k := by
  have h0 : ¬ r < 0 := by unfold rg at hr; grind
  obtain ⟨q, hq, rfl⟩ := nI_of h0
  have hq2 : q ≤ 20 := (nI_leI hq (by omega)).mp hr.2
  unfold tk
  have d4 : jdiv (nI q) 4 = nI (q / 4) := jdiv_nI (d := 4) (by omega) (by omega) (by omega)
  have d6 : jdiv (nI q) 6 = nI (q / 6) := jdiv_nI (d := 6) (by omega) (by omega) (by omega)
  have d2 : jdiv (nI q) 2 = nI (q / 2) := jdiv_nI (d := 2) (by omega) (by omega) (by omega)
  rw [d4, d6, d2, show (1 : Int32) + nI (q / 4) = nI (1 + q / 4) from nI_add 1 _, show (1 : Int32) + nI (q / 6) = nI (1 + q / 6) from nI_add 1 _, show (3 : Int32) + nI (q / 2) = nI (3 + q / 2) from nI_add 3 _, show (1 : Int32) + nI (q / 2) = nI (1 + q / 2) from nI_add 1 _]
  split
  · exact ⟨_, by omega, rfl⟩
  split
  · exact ⟨_, by omega, rfl⟩
  split
  · exact ⟨_, by omega, rfl⟩
  · exact ⟨_, by omega, rfl⟩
theorem tk_rg {K r : Int32} (hr : rg 1 20 r) : rg 0 99 (tk K r) := by
  obtain ⟨k, hk, e⟩ := tk_nI (K := K) hr
  rw [e]
  exact rg_nI (b := 99) (by omega) (by omega)
theorem LW.mono {x x1 : XS} {L L1 M M1 : Nat → Int32} {nt : Nat} (h : LW x L M nt) (hx : ∀ j, 41 ≤ j → j < 71 → x1 j = x j) (hL : L1 = L) (hM : ∀ k, 65 ≤ k → M1 k = M k) (h8 : M1 8 = M 8) : LW x1 L1 M1 nt := by
  obtain ⟨h14, h2, h3, h4⟩ := h
  refine ⟨h14, by rw [h8]; exact h2, fun t ht => ?_, fun ky hk => ?_⟩
  · obtain ⟨a, b, c1, c2, c3, c4, c5, c6, c7, c8, c9⟩ := h3 t ht
    refine ⟨a, b, c1, c2, by rw [hx _ (by omega) (by omega)]; exact c3, by rw [hx _ (by omega) (by omega)]; exact c4, by rw [hM _ (by omega)]; exact c5, by rw [hM _ (by omega), hx _ (by omega) (by omega)]; exact c6, fun k hk => by rw [hM _ (by omega), hx _ (by omega) (by omega)]; exact c7 k hk, fun e k hk => by rw [hM _ (by omega)]; exact c8 e k hk, ?_⟩
    have e : (fun k => M1 (93 + 96 * t + k)) = fun k => M (93 + 96 * t + k) := funext fun k => hM _ (by omega)
    rw [e]; exact c9
  · rw [hL]
    rcases h4 ky hk with ⟨a, b⟩ | ⟨t, ht, a, b, c⟩
    · exact Or.inl ⟨a, fun t ht => by rw [hM _ (by omega)]; exact b t ht⟩
    · exact Or.inr ⟨t, ht, a, by rw [hM _ (by omega)]; exact b, fun s h1 h2 => by rw [hM _ (by omega)]; exact c s h1 h2⟩
/-- the sum of one fact over n boys -/
def sumK (M : Nat → Int32) (k : Nat) : Nat → Int32
  | 0 => 0
  | n + 1 => sumK M k n + M (9 + 7 * n + k)
theorem sumK_eq {M M1 : Nat → Int32} {k : Nat} : ∀ n, (∀ i, i < n → M1 (9 + 7 * i + k) = M (9 + 7 * i + k)) → sumK M1 k n = sumK M k n := by
  intro n
  induction n with
  | zero => intro _; rfl
  | succ n ih =>
    intro h
    simp only [sumK]
    rw [ih (fun i hi => h i (by omega)), h n (by omega)]
theorem sumK_one {M M1 : Nat → Int32} {k j : Nat} : ∀ n, j < n → (∀ i, i < n → i ≠ j → M1 (9 + 7 * i + k) = M (9 + 7 * i + k)) → M1 (9 + 7 * j + k) = M (9 + 7 * j + k) + 1 → sumK M1 k n = sumK M k n + 1 := by
  intro n
  induction n with
  | zero => intro h; exact absurd h (by omega)
  | succ n ih =>
    intro hj h h1
    simp only [sumK]
    by_cases e : j = n
    · subst e
      rw [sumK_eq j (fun i hi => h i (by omega) (by omega)), h1]
      grind
    · rw [ih (by omega) (fun i hi hne => h i (by omega) hne) h1, h n (by omega) (fun q => e q.symm)]
      grind
/-- what no minute changes in the model's row -/
def RS (y y1 : XS) : Prop := (∀ k, 65 ≤ k → y1 100 k = y 100 k) ∧ y1 100 8 = y 100 8
theorem RS.rf {y : XS} : RS y y := ⟨fun _ _ => rfl, rfl⟩
theorem RS.tr {y y1 y2 : XS} (h : RS y y1) (g : RS y1 y2) : RS y y2 := ⟨fun k hk => (g.1 k hk).trans (h.1 k hk), g.2.trans h.2⟩
theorem PR_serve {a n j : Nat} {x y x' y' : XS} {t p s o : Int32} (h : PR a n x y) (hj : j < n) (ht : rg 0 99 t) (e1 : ∀ k, x' a k = if k = 5 then o else x a k)
    (e2 : ∀ i k, i < 8 → x' (a + 3 + i) k = if i = j then (if k = 4 then p else if k = 5 then t else if k = 6 then s else x (a + 3 + i) k) else x (a + 3 + i) k)
    (e3 : ∀ k, y' 100 k = if k = 6 then o else if k = 9 + 7 * j + 4 then p else if k = 9 + 7 * j + 5 then t else if k = 9 + 7 * j + 6 then s else y 100 k) (e4 : y' 99 4 = y 99 4) : PR a n x' y' := by
  obtain ⟨h8, h1, h2, h3, h4, h5, h6, h7, h9, h10, h11, h12, h13, hb⟩ := h
  refine ⟨h8, ?_, ?_, ?_, ?_, ?_, ?_, ?_, ?_, ?_, ?_, ?_, ?_, ?_⟩
  · rw [e3]; grind
  · rw [e1]; grind
  · rw [e1, e3]; grind
  · rw [e1, e3]; grind
  · rw [e1, e3]; grind
  · rw [e1, e3]; grind
  · rw [e1, e3]; grind
  · rw [e1, e3]; grind
  · rw [e1, e3]; grind
  · rw [e1, e3]; grind
  · rw [e3]; grind
  · rw [e1, e4]; grind
  · intro i hi
    obtain ⟨g1, g2⟩ := hb i hi
    refine ⟨fun k hk => ?_, ?_⟩
    · rw [e2 i k (by omega), e3]
      have := g1 k hk
      by_cases q : i = j
      · subst q
        rw [if_pos rfl]
        grind
      · rw [if_neg q]
        grind
    · unfold BOK at *
      rw [e3, e3, e3, e3, e3]
      by_cases q : i = j
      · subst q; grind
      · grind
