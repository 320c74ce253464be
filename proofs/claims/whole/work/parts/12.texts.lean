/-- class items and model codes of the signs -/
def sgs : List (Int32 × Int32) := [(10124, -1), (10038, -2), (10060, -3), (10061, -4), (10062, -5), (10043, -6), (10045, -7), (10042, -8), (10047, -9), (10033, -10)]
def cR (c m : Int32) : Prop := (0 ≤ c ∧ c ≤ 9999 ∧ m = c) ∨ (c = -1 ∧ m = 10000) ∨ (c = -2 ∧ m = 10001) ∨ (c = -3 ∧ m = 10002) ∨ (c, m) ∈ sgs
/-- the depth of the stack -/
def dpt (m : Int32) (d : Nat) : Option Nat := if 0 ≤ m then some (d + 1) else if m = -10 then (if 1 ≤ d then some d else none) else (if 2 ≤ d then some (d - 1) else none)
def dps (C : Nat → Int32) : Nat → Option Nat
  | 0 => some 0
  | k + 1 => (dps C k).bind (dpt (C k))
theorem dps_le {C : Nat → Int32} : ∀ (k d : Nat), dps C k = some d → d ≤ k := by
  intro k
  induction k with
  | zero => intro d h; simp [dps] at h; omega
  | succ k ih =>
    intro d h
    simp only [dps, Option.bind_eq_some_iff] at h
    obtain ⟨a, h1, h2⟩ := h
    have := ih a h1
    unfold dpt at h2
    grind
/-- text t: the class's cells against the model's row -/
def TX (x : XS) (M : Nat → Int32) (t : Nat) : Prop := ∃ ky sz : Nat, ky < 3 ∧ sz ≤ 96 ∧ x (41 + 2 * t) 1 = nI ky ∧ x (41 + 2 * t) 3 = nI sz ∧ M (65 + 2 * t) = nI (1000 * ky + sz) ∧ M (65 + 2 * t + 1) = x (41 + 2 * t) 2 ∧ (∀ k, k < sz → cR (x (41 + 2 * t + 1) k) (M (93 + 96 * t + k))) ∧ (ky ≠ 0 → ∀ k, k < sz → M (93 + 96 * t + k) ≠ 10002) ∧ dps (fun k => M (93 + 96 * t + k)) sz = some 1
theorem sgs_c {c m : Int32} (h : (c, m) ∈ sgs) : (c = 10124 ∧ m = -1) ∨ (c = 10038 ∧ m = -2) ∨ (c = 10060 ∧ m = -3) ∨ (c = 10061 ∧ m = -4) ∨ (c = 10062 ∧ m = -5) ∨ (c = 10043 ∧ m = -6) ∨ (c = 10045 ∧ m = -7) ∨ (c = 10042 ∧ m = -8) ∨ (c = 10047 ∧ m = -9) ∨ (c = 10033 ∧ m = -10) := by
  unfold sgs at h
  simp only [List.mem_cons, Prod.mk.injEq, List.not_mem_nil, or_false] at h
  exact h
def jn (s a b : Int32) : Int32 := if s = 124 then (if a = 0 ∧ b = 0 then 0 else 1) else if s = 38 then (if a = 0 ∨ b = 0 then 0 else 1) else if s = 60 then (if a < b then 1 else 0) else if s = 61 then (if a = b then 1 else 0) else if s = 62 then (if b < a then 1 else 0) else if s = 43 then a + b else if s = 45 then a - b else if s = 42 then a * b else (if b = 0 then 0 else jdiv a b)
theorem ev_joined {s a b : Int32} {x : XS} : fX6_joined s a b x = some (jn s a b, x) := by
  have e : ∀ k : Option (Int32 × XS), ¬ b = 0 → gd (decide (¬ b = 0)) k = k := fun k h => gd_e (decide_eq_true h)
  simp only [fX6_joined, jn, st_e]
  grind (splits := 25)
theorem ev_two {c m a b : Int32} {y : XS} (h : (c, m) ∈ sgs) (hm : ¬ m = -10) : fX8_two m a b y = some (jn (c - 10000) a b, y) := by
  have e : ∀ k : Option (Int32 × XS), ¬ b = 0 → gd (decide (¬ b = 0)) k = k := fun k h => gd_e (decide_eq_true h)
  rcases sgs_c h with ⟨rfl, rfl⟩ | ⟨rfl, rfl⟩ | ⟨rfl, rfl⟩ | ⟨rfl, rfl⟩ | ⟨rfl, rfl⟩ | ⟨rfl, rfl⟩ | ⟨rfl, rfl⟩ | ⟨rfl, rfl⟩ | ⟨rfl, rfl⟩ | ⟨rfl, rfl⟩
  · rw [show (10124 : Int32) - 10000 = 124 from rfl]; simp only [fX8_two, jn, st_e]; grind
  · rw [show (10038 : Int32) - 10000 = 38 from rfl]; simp only [fX8_two, jn, st_e]; grind
  · rw [show (10060 : Int32) - 10000 = 60 from rfl]; simp only [fX8_two, jn, st_e]; grind
  · rw [show (10061 : Int32) - 10000 = 61 from rfl]; simp only [fX8_two, jn, st_e]; grind
  · rw [show (10062 : Int32) - 10000 = 62 from rfl]; simp only [fX8_two, jn, st_e]; grind
  · rw [show (10043 : Int32) - 10000 = 43 from rfl]; simp only [fX8_two, jn, st_e]; grind
  · rw [show (10045 : Int32) - 10000 = 45 from rfl]; simp only [fX8_two, jn, st_e]; grind
  · rw [show (10042 : Int32) - 10000 = 42 from rfl]; simp only [fX8_two, jn, st_e]; grind
  · rw [show (10047 : Int32) - 10000 = 47 from rfl]; simp only [fX8_two, jn, st_e]; grind
  · exact absurd rfl hm
theorem cI93 (t k : Nat) : (93 + 96 * nI t) + nI k = nI (93 + 96 * t + k) := by
  rw [show (93 : Int32) = nI 93 from rfl, show (96 : Int32) = nI 96 from rfl, pk_mul, nI_add, nI_add]
theorem upd_lt {x y : XS} {c1 c2 d : Nat} {v : Int32} (h : ∀ i, i < d → x c1 i = y c2 i) : ∀ i, i < d + 1 → wr x c1 d v c1 i = wr y c2 d v c2 i := by
  intro i hi
  rw [wr_at, wr_at, if_pos rfl, if_pos rfl]
  by_cases e : i = d
  · rw [if_pos e, if_pos e]
  · rw [if_neg e, if_neg e]; exact h i (by omega)
theorem upd_at {x y : XS} {c1 c2 d e : Nat} {v : Int32} (he : e ≤ d) (h : ∀ i, i < d → x c1 i = y c2 i) : ∀ i, i < e → wr x c1 (e - 1) v c1 i = wr y c2 (e - 1) v c2 i := by
  intro i hi
  rw [wr_at, wr_at, if_pos rfl, if_pos rfl]
  by_cases q : i = e - 1
  · rw [if_pos q, if_pos q]
  · rw [if_neg q, if_neg q]; exact h i (by omega)
/-- the two stacks work a text out alike -/
theorem val_loop {t sz : Nat} {X1 X2 M F : Nat → Int32} {u1 u2 u3 : Int32} (ht : t < 14) (hsz : sz ≤ 96) (hX1 : X1 3 = nI sz) (hc : ∀ k, k < sz → cR (X2 k) (M (93 + 96 * t + k))) (hF0 : F 0 = u1) (hF1 : F 1 = u2) (hF2 : F 2 = u3 ∨ ∀ k, k < sz → M (93 + 96 * t + k) ≠ 10002) (hend : dps (fun k => M (93 + 96 * t + k)) sz = some 1) :
    ∀ (e k d : Nat) (x y : XS), k + e = sz → dps (fun k => M (93 + 96 * t + k)) k = some d → x (41 + 2 * t) = X1 → x (41 + 2 * t + 1) = X2 → y 100 = M → y 111 = F → (∀ i, i < d → x 40 i = y 110 i) → ∀ f g : Nat, e < f → e < g →
    R2 (fun r _ q _ => r = q) (lX6_value_h6 (41 + 2 * t) f u1 u2 u3 (nI d) (nI k) x) (lX8_worksOut_h21 g (nI t) (nI d) (nI sz) (nI k) y) := by
  have back : ∀ (k d' : Nat), k < sz → ∀ d, dps (fun k => M (93 + 96 * t + k)) k = some d → dpt (M (93 + 96 * t + k)) d = some d' → dps (fun k => M (93 + 96 * t + k)) (k + 1) = some d' := by
    intro k d' _ d h1 h2
    simp only [dps, h1]
    exact h2
  have pre : ∀ (e k : Nat), k + e = sz → ∃ d, dps (fun k => M (93 + 96 * t + k)) k = some d := by
    intro e
    induction e with
    | zero => intro k hk; exact ⟨1, by rw [show k = sz by omega]; exact hend⟩
    | succ e ih =>
      intro k hk
      obtain ⟨d, hd⟩ := ih (k + 1) (by omega)
      simp only [dps, Option.bind_eq_some_iff] at hd
      exact ⟨_, hd.choose_spec.1⟩
  intro e
  induction e with
  | zero =>
    intro k d x y hk hd e1 e2 e3 e4 hst f g hf hg
    obtain ⟨f, rfl⟩ : ∃ q, f = q + 1 := ⟨f - 1, by omega⟩
    obtain ⟨g, rfl⟩ : ∃ q, g = q + 1 := ⟨g - 1, by omega⟩
    show R2 _ (bX6_value_h6 (41 + 2 * t) (lX6_value_h6 (41 + 2 * t) f) u1 u2 u3 (nI d) (nI k) x) (bX8_worksOut_h21 (lX8_worksOut_h21 g) (nI t) (nI d) (nI sz) (nI k) y)
    have hks : k = sz := by omega
    subst hks
    have hd1 : d = 1 := by rw [hend] at hd; exact (Option.some.inj hd).symm
    subst hd1
    unfold bX6_value_h6 bX8_worksOut_h21
    rw [e1, hX1, if_pos (Int32.le_refl _), if_pos (Int32.le_refl _), if_neg (by decide)]
    refine R2.gL (by decide) (R2.gR (by decide) ?_)
    exact R2.ret (hst 0 (by omega))
  | succ e ih =>
    intro k d x y hk hd e1 e2 e3 e4 hst f g hf hg
    obtain ⟨f, rfl⟩ : ∃ q, f = q + 1 := ⟨f - 1, by omega⟩
    obtain ⟨g, rfl⟩ : ∃ q, g = q + 1 := ⟨g - 1, by omega⟩
    have hdk := dps_le _ _ hd
    obtain ⟨d', hd'⟩ := pre e (k + 1) (by omega)
    have hdp : dpt (M (93 + 96 * t + k)) d = some d' := by
      simp only [dps, hd] at hd'
      exact hd'
    show R2 _ (bX6_value_h6 (41 + 2 * t) (lX6_value_h6 (41 + 2 * t) f) u1 u2 u3 (nI d) (nI k) x) (bX8_worksOut_h21 (lX8_worksOut_h21 g) (nI t) (nI d) (nI sz) (nI k) y)
    have hlt : ¬ nI sz ≤ nI k := nI_ge (by omega) (by omega)
    have h96 : ¬ (96 : Int32) ≤ nI d := by rw [show (96 : Int32) = nI 96 from rfl]; exact nI_ge (by omega) (by omega)
    unfold bX6_value_h6 bX8_worksOut_h21
    rw [e1, hX1, if_neg hlt, if_neg hlt, cI93]
    refine R2.gL (inb_nI (by omega) (by omega)) (R2.gR (inb_nI (by omega) (by omega)) (R2.sL (R2.sR ?_)))
    rw [ix_nI (i := k) (by omega), ix_nI (i := 93 + 96 * t + k) (by omega), e2, e3]
    have hcr := hc k (by omega)
    have hF2k : F 2 = u3 ∨ M (93 + 96 * t + k) ≠ 10002 := hF2.imp id (fun h => h k (by omega))
    generalize X2 k = cc at *
    generalize M (93 + 96 * t + k) = mm at *
    -- what goes on behind a push
    have push : ∀ v : Int32, d' = d + 1 → R2 (fun r _ q _ => r = q) (st_ (wr x 40 d v) fun x_1 => st_ (nI d + 1) fun v_1 => fX6_value_h175 (41 + 2 * t) (lX6_value_h6 (41 + 2 * t) f) u1 u2 u3 v_1 (nI k) x_1) (st_ (wr y 110 d v) fun x_1 => st_ (nI d + 1) fun v_1 => st_ (nI k + 1) fun v_2 => lX8_worksOut_h21 g (nI t) v_1 (nI sz) v_2 x_1) := by
      intro v hd1
      simp only [st_e, fX6_value_h175, nI_1]
      refine ih (k + 1) (d + 1) _ _ (by omega) (by rw [← hd1]; exact hd') ?_ ?_ ?_ ?_ (upd_lt hst) f g (by omega) (by omega)
      · rw [wr_ne (by omega)]; exact e1
      · rw [wr_ne (by omega)]; exact e2
      · rw [wr_ne (by omega)]; exact e3
      · rw [wr_ne (by omega)]; exact e4
    have in96 : inb (nI d) 96 = true := inb_nI (by omega) (by omega)
    rcases hcr with ⟨h0, h9, rfl⟩ | ⟨rfl, rfl⟩ | ⟨rfl, rfl⟩ | ⟨rfl, rfl⟩ | hs
    · have n0 : ¬ mm < 0 := by grind
      have hd1 : d' = d + 1 := by unfold dpt at hdp; grind
      rw [if_neg (show ¬ mm = 10033 by grind), if_pos (show mm < 10000 by grind), if_neg h96, if_neg n0, if_neg n0, if_neg (show ¬ 10000 ≤ mm by grind)]
      refine R2.gL in96 (R2.gR in96 ?_)
      rw [ix_nI (by omega)]
      exact push mm hd1
    · have hd1 : d' = d + 1 := by unfold dpt at hdp; grind
      rw [if_neg (show ¬ (-1 : Int32) = 10033 by decide), if_pos (show (-1 : Int32) < 10000 by decide), if_neg h96, if_pos (show (-1 : Int32) < 0 by decide), if_pos rfl, if_neg (show ¬ (10000 : Int32) < 0 by decide), if_pos (Int32.le_refl _)]
      refine R2.gL in96 (R2.gR (by decide) (R2.gR in96 ?_))
      rw [ix_nI (by omega), show ix ((10000 : Int32) - 10000) = 0 from by decide, e4, hF0]
      exact push u1 hd1
    · have hd1 : d' = d + 1 := by unfold dpt at hdp; grind
      rw [if_neg (show ¬ (-2 : Int32) = 10033 by decide), if_pos (show (-2 : Int32) < 10000 by decide), if_neg h96, if_pos (show (-2 : Int32) < 0 by decide), if_neg (show ¬ (-2 : Int32) = -1 by decide), if_pos rfl, if_neg (show ¬ (10001 : Int32) < 0 by decide), if_pos (show (10000 : Int32) ≤ 10001 by decide)]
      refine R2.gL in96 (R2.gR (by decide) (R2.gR in96 ?_))
      rw [ix_nI (by omega), show ix ((10001 : Int32) - 10000) = 1 from by decide, e4, hF1]
      exact push u2 hd1
    · have hd1 : d' = d + 1 := by unfold dpt at hdp; grind
      have hF3 : F 2 = u3 := hF2k.resolve_right (fun h => h rfl)
      rw [if_neg (show ¬ (-3 : Int32) = 10033 by decide), if_pos (show (-3 : Int32) < 10000 by decide), if_neg h96, if_pos (show (-3 : Int32) < 0 by decide), if_neg (show ¬ (-3 : Int32) = -1 by decide), if_neg (show ¬ (-3 : Int32) = -2 by decide), if_neg (show ¬ (10002 : Int32) < 0 by decide), if_pos (show (10000 : Int32) ≤ 10002 by decide)]
      refine R2.gL in96 (R2.gR (by decide) (R2.gR in96 ?_))
      rw [ix_nI (by omega), show ix ((10002 : Int32) - 10000) = 2 from by decide, e4, hF3]
      exact push u3 hd1
    · have hm0 : mm < 0 ∧ 10000 ≤ cc ∧ (cc = 10033 ↔ mm = -10) := by
        rcases sgs_c hs with ⟨rfl, rfl⟩ | ⟨rfl, rfl⟩ | ⟨rfl, rfl⟩ | ⟨rfl, rfl⟩ | ⟨rfl, rfl⟩ | ⟨rfl, rfl⟩ | ⟨rfl, rfl⟩ | ⟨rfl, rfl⟩ | ⟨rfl, rfl⟩ | ⟨rfl, rfl⟩ <;> decide
      rw [if_pos hm0.1]
      by_cases hnot : mm = -10
      · have hd1 : d' = d ∧ 1 ≤ d := by unfold dpt at hdp; grind
        have h1 : ¬ nI d < 1 := by rw [show (1 : Int32) = nI 1 from rfl]; exact nI_nlt (by omega) (by omega)
        have em : nI d - 1 = nI (d - 1) := by rw [show (1 : Int32) = nI 1 from rfl]; exact pk_sub (by omega)
        have inm : inb (nI (d - 1)) 96 = true := inb_nI (by omega) (by omega)
        rw [if_pos (hm0.2.2.mpr hnot), if_pos hnot, if_neg h1, em]
        refine R2.gL inm (R2.gR inm ?_)
        rw [ix_nI (i := d - 1) (by omega), hst (d - 1) (by omega)]
        have fin : ∀ v : Int32, R2 (fun r _ q _ => r = q) (gd (inb (nI (d - 1)) 96) (st_ (wr x 40 (d - 1) v) fun x_1 => fX6_value_h175 (41 + 2 * t) (lX6_value_h6 (41 + 2 * t) f) u1 u2 u3 (nI d) (nI k) x_1)) (gd (inb (nI (d - 1)) 96) (st_ (wr y 110 (d - 1) v) fun x_1 => st_ (nI k + 1) fun v_2 => lX8_worksOut_h21 g (nI t) (nI d) (nI sz) v_2 x_1)) := by
          intro v
          refine R2.gL inm (R2.gR inm ?_)
          simp only [st_e, fX6_value_h175, nI_1]
          refine ih (k + 1) d _ _ (by omega) (by rw [← hd1.1]; exact hd') ?_ ?_ ?_ ?_ (upd_at (Nat.le_refl d) hst) f g (by omega) (by omega)
          · rw [wr_ne (by omega)]; exact e1
          · rw [wr_ne (by omega)]; exact e2
          · rw [wr_ne (by omega)]; exact e3
          · rw [wr_ne (by omega)]; exact e4
        exact R2.ite (fun _ => fin 1) (fun _ => fin 0)
      · have hd1 : d' = d - 1 ∧ 2 ≤ d := by unfold dpt at hdp; grind
        have h1 : ¬ nI d < 2 := by rw [show (2 : Int32) = nI 2 from rfl]; exact nI_nlt (by omega) (by omega)
        have em : nI d - 1 = nI (d - 1) := by rw [show (1 : Int32) = nI 1 from rfl]; exact pk_sub (by omega)
        have em2 : nI d - 2 = nI (d - 2) := by rw [show (2 : Int32) = nI 2 from rfl]; exact pk_sub (by omega)
        have em3 : nI d + -1 = nI (d - 1) := by rw [← em]; grind
        have em4 : nI (d - 1) - 1 = nI (d - 2) := by rw [show (1 : Int32) = nI 1 from rfl, pk_sub (by omega)]; rfl
        have inm : inb (nI (d - 1)) 96 = true := inb_nI (by omega) (by omega)
        have inm2 : inb (nI (d - 2)) 96 = true := inb_nI (by omega) (by omega)
        rw [if_neg (fun h => hnot (hm0.2.2.mp h)), if_neg hnot, if_neg (show ¬ cc < 10000 by grind), if_neg h1]
        refine R2.sR ?_
        rw [em3, em4, em, em2]
        refine R2.gL inm2 (R2.gL inm (R2.gR inm2 (R2.gR inm (R2.bL ev_joined (R2.bR (ev_two hs hnot) (R2.gL inm2 (R2.gR inm2 ?_)))))))
        simp only [st_e, fX6_value_h175, nI_1]
        rw [ix_nI (i := d - 1) (by omega), ix_nI (i := d - 2) (by omega), hst (d - 1) (by omega), hst (d - 2) (by omega)]
        refine ih (k + 1) (d - 1) _ _ (by omega) (by rw [← hd1.1]; exact hd') ?_ ?_ ?_ ?_ (upd_at (e := d - 1) (by omega) hst) f g (by omega) (by omega)
        · rw [wr_ne (by omega)]; exact e1
        · rw [wr_ne (by omega)]; exact e2
        · rw [wr_ne (by omega)]; exact e3
        · rw [wr_ne (by omega)]; exact e4
