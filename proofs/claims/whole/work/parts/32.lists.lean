def LK (F : Nat → Int32) : List Int32 → Prop
  | [] => True
  | m :: D => F D.length = m ∧ LK F D
theorem LK.mono {F F1 : Nat → Int32} : ∀ {D : List Int32}, LK F D → (∀ i, i < D.length → F1 i = F i) → LK F1 D := by
  intro D
  induction D with
  | nil => intro _ _; exact True.intro
  | cons m D ih =>
    intro h hi
    exact ⟨by rw [hi _ (by simp)]; exact h.1, ih h.2 (fun i a => hi i (by simp; omega))⟩
def rk (v : Int32) : Int32 := if v = -1 then 1 else if v = -2 then 2 else if v < -5 then (if v < -7 then (if v < -9 then 6 else 5) else 4) else 3
theorem ev_rank {v : Int32} {y : XS} : fX8_rank v y = some (rk v, y) := by
  unfold fX8_rank rk; grind
def sgn (m : Int32) : Int32 := if m = 38 then -2 else if m = 42 then -8 else if m = 43 then -6 else if m = 45 then -7 else if m = 47 then -9 else if m = 60 then -3 else if m = 61 then -4 else if m = 62 then -5 else if m = 124 then -1 else 0
def lvo (m : Int32) : Int32 := if m = 38 then 1 else if m = 42 then 4 else if m = 43 then 3 else if m = 45 then 3 else if m = 47 then 4 else if m = 60 then 2 else if m = 61 then 2 else if m = 62 then 2 else if m = 124 then 0 else -1
theorem ev_signHere {y : XS} : fX8_signHere y = some (if y 99 10 = 3 then sgn (y 99 11) else 0, y) := by
  unfold fX8_signHere sgn
  simp only [st_e]
  grind (splits := 25)
theorem ev_levelOf {v : Int32} {x : XS} : fX5_levelOf v x = some (lvo v, x) := by
  unfold fX5_levelOf lvo
  grind (splits := 25)
theorem lv_cases (m : Int32) : (lvo m = -1 ∧ sgn m = 0) ∨ (∃ l : Nat, l < 5 ∧ lvo m = nI l ∧ rk (sgn m) = nI (l + 1) ∧ -9 ≤ sgn m ∧ sgn m ≤ -1) := by
  by_cases c1 : m = 38
  · subst c1; exact Or.inr ⟨1, by decide⟩
  by_cases c2 : m = 42
  · subst c2; exact Or.inr ⟨4, by decide⟩
  by_cases c3 : m = 43
  · subst c3; exact Or.inr ⟨3, by decide⟩
  by_cases c4 : m = 45
  · subst c4; exact Or.inr ⟨3, by decide⟩
  by_cases c5 : m = 47
  · subst c5; exact Or.inr ⟨4, by decide⟩
  by_cases c6 : m = 60
  · subst c6; exact Or.inr ⟨2, by decide⟩
  by_cases c7 : m = 61
  · subst c7; exact Or.inr ⟨2, by decide⟩
  by_cases c8 : m = 62
  · subst c8; exact Or.inr ⟨2, by decide⟩
  by_cases c9 : m = 124
  · subst c9; exact Or.inr ⟨0, by decide⟩
  exact Or.inl ⟨by unfold lvo; grind, by unfold sgn; grind⟩
theorem chR.lvl {b m : Int32} (h : chR b m) : lvo b = lvo m := by
  rcases h with ⟨rfl, -⟩ | ⟨h1, h2⟩
  · rfl
  · unfold lvo; grind (splits := 25)
/-- the class's item for a code of the model -/
def ce (m : Int32) : Int32 := if 0 ≤ m then (if m ≤ 9999 then m else 9999 - m) else if m = -1 then 10124 else if m = -2 then 10038 else if m = -3 then 10060 else if m = -4 then 10061 else if m = -5 then 10062 else if m = -6 then 10043 else if m = -7 then 10045 else if m = -8 then 10042 else if m = -9 then 10047 else 10033
theorem ce_sgn {b m : Int32} (h : chR b m) (hl : lvo m ≠ -1) : ce (sgn m) = 10000 + b := by
  have hb : b = m := by
    rcases h with ⟨rfl, -⟩ | ⟨h1, h2⟩
    · rfl
    · exact absurd (show lvo m = -1 by unfold lvo; grind (splits := 25)) hl
  subst hb
  by_cases c1 : b = 38
  · subst c1; decide
  by_cases c2 : b = 42
  · subst c2; decide
  by_cases c3 : b = 43
  · subst c3; decide
  by_cases c4 : b = 45
  · subst c4; decide
  by_cases c5 : b = 47
  · subst c5; decide
  by_cases c6 : b = 60
  · subst c6; decide
  by_cases c7 : b = 61
  · subst c7; decide
  by_cases c8 : b = 62
  · subst c8; decide
  by_cases c9 : b = 124
  · subst c9; decide
  exact absurd (show lvo b = -1 by unfold lvo; grind (splits := 25)) hl
def okc (ky : Nat) (m : Int32) : Prop := (0 ≤ m ∧ m ≤ 9999) ∨ m = 10000 ∨ m = 10001 ∨ (m = 10002 ∧ ky = 0) ∨ (-10 ≤ m ∧ m ≤ -1)
theorem neg_cases {m : Int32} (h : -10 ≤ m ∧ m ≤ -1) : m = -1 ∨ m = -2 ∨ m = -3 ∨ m = -4 ∨ m = -5 ∨ m = -6 ∨ m = -7 ∨ m = -8 ∨ m = -9 ∨ m = -10 := by grind
theorem okc.cR {ky : Nat} {m : Int32} (h : okc ky m) : cR (ce m) m := by
  rcases h with ⟨a, b⟩ | rfl | rfl | ⟨rfl, -⟩ | h
  · exact Or.inl (by unfold ce; rw [if_pos a, if_pos b]; exact ⟨a, b, rfl⟩)
  · exact Or.inr (Or.inl (by decide))
  · exact Or.inr (Or.inr (Or.inl (by decide)))
  · exact Or.inr (Or.inr (Or.inr (Or.inl (by decide))))
  · refine Or.inr (Or.inr (Or.inr (Or.inr ?_)))
    rcases neg_cases h with rfl | rfl | rfl | rfl | rfl | rfl | rfl | rfl | rfl | rfl <;> decide
def dlr : List Int32 → Option Nat
  | [] => some 0
  | m :: D => (dlr D).bind (dpt m)
theorem dps_dlr {F : Nat → Int32} : ∀ {D : List Int32}, LK F D → dps F D.length = dlr D := by
  intro D
  induction D with
  | nil => intro _; rfl
  | cons m D ih =>
    intro h
    show (dps F D.length).bind (dpt (F D.length)) = (dlr D).bind (dpt m)
    rw [ih h.2, h.1]
def MD (ky nu : Nat) (C W : List Int32) (y : XS) : Prop := y 99 13 = nI ky ∧ y 99 17 = nI C.length ∧ y 99 18 = nI nu ∧ y 99 20 = nI W.length ∧ LK (y 107) C ∧ LK (y 108) W
def CL (a ky nu : Nat) (D : List Int32) (x : XS) : Prop := x a 1 = nI ky ∧ x a 2 = nI nu ∧ x a 3 = nI D.length ∧ LK (x (a + 1)) (D.map ce)
theorem LK.push {F F1 : Nat → Int32} {D : List Int32} {m : Int32} (h : LK F D) (h1 : ∀ i, F1 i = if i = D.length then m else F i) : LK F1 (m :: D) :=
  ⟨by rw [h1, if_pos rfl], h.mono (fun i hi => by rw [h1, if_neg (by omega)])⟩
theorem nI_m1 (n : Nat) : nI (n + 1) - 1 = nI n := nI_pred n
theorem settle_rel {ky nu : Nat} {W : List Int32} {r : Int32} (hW : W = [] ∨ ∃ h W1, W = h :: W1 ∧ (h = -11 ∨ rk h < r)) : ∀ (P C : List Int32) (y : XS), MD ky nu C (P ++ W) y → (∀ s, s ∈ P → s ≠ -11 ∧ ¬ rk s < r) → C.length + P.length + W.length ≤ 96 → ∀ f, P.length < f → ∃ y1, lX8_settle_h0 f r y = some ((), y1) ∧ MD ky nu (P.reverse ++ C) W y1 ∧ (∀ j, j ≠ 99 → j ≠ 107 → y1 j = y j) ∧ ∀ k, k ≠ 17 → k ≠ 20 → y1 99 k = y 99 k := by
  intro P
  induction P with
  | nil =>
    intro C y h _ hl f hf
    obtain ⟨f, rfl⟩ : ∃ q, f = q + 1 := ⟨f - 1, by omega⟩
    refine ⟨y, ?_, h, fun _ _ _ => rfl, fun _ _ _ => rfl⟩
    show bX8_settle_h0 (lX8_settle_h0 f) r y = _
    unfold bX8_settle_h0
    obtain ⟨-, -, -, h20, -, hK⟩ := h
    rcases hW with rfl | ⟨s, W1, rfl, hs⟩
    · rw [h20, if_pos (by decide)]
    · have e : y 99 20 = nI (W1.length + 1) := h20
      have hK1 : y 108 W1.length = s := hK.1
      simp only [List.length_cons] at hl
      rw [e, if_neg (nI_nle (by omega) (by omega)), nI_m1, gd_e (inb_nI (by omega) (by omega)), gd_e (inb_nI (by omega) (by omega)), ix_nI (by omega), hK1]
      by_cases c : s = -11
      · rw [if_pos c]
      · rw [if_neg c, ev_rank, bd_e, if_pos (hs.resolve_left c)]
  | cons s P ih =>
    intro C y h hP hl f hf
    obtain ⟨f, rfl⟩ : ∃ q, f = q + 1 := ⟨f - 1, by simp at hf; omega⟩
    simp only [List.length_cons] at hl hf
    obtain ⟨h13, h17, h18, h20, hC, hK⟩ := h
    have e : y 99 20 = nI ((P ++ W).length + 1) := h20
    have hK1 : y 108 (P ++ W).length = s := hK.1
    have hlen : (P ++ W).length = P.length + W.length := List.length_append
    obtain ⟨n11, hr⟩ := hP s (by simp)
    obtain ⟨Y, hY⟩ : ∃ Y, Y = wr (wr (wr y 99 20 (nI (P ++ W).length)) 107 C.length s) 99 17 (nI (C.length + 1)) := ⟨_, rfl⟩
    have hM : MD ky nu (s :: C) (P ++ W) Y := by
      refine ⟨by rw [hY]; grind [wr_at], by rw [hY]; grind [wr_at], by rw [hY]; grind [wr_at], by rw [hY]; grind [wr_at], ?_, ?_⟩
      · refine hC.push (fun i => ?_)
        rw [hY, wr_ne (j := 107) (by omega), wr_at, if_pos rfl, wr_ne (j := 107) (by omega)]
      · refine hK.2.mono (fun i _ => ?_)
        rw [hY, wr_ne (j := 108) (by omega), wr_ne (j := 108) (by omega), wr_ne (j := 108) (by omega)]
    obtain ⟨y1, e1, e2, e3, e4⟩ := ih (s :: C) Y hM (fun s' hs' => hP s' (by simp [hs'])) (by simp only [List.length_cons]; omega) f (by omega)
    refine ⟨y1, ?_, ?_, fun j a b => ?_, fun k a b => ?_⟩
    · show bX8_settle_h0 (lX8_settle_h0 f) r y = _
      unfold bX8_settle_h0
      have w1 : wr y 99 20 (nI (P ++ W).length) 99 20 = nI (P ++ W).length := by rw [wr_at, if_pos rfl, if_pos rfl]
      have w2 : wr y 99 20 (nI (P ++ W).length) 99 17 = nI C.length := by rw [wr_at, if_pos rfl, if_neg (by omega)]; exact h17
      have w3 : wr y 99 20 (nI (P ++ W).length) 108 (P ++ W).length = s := by rw [wr_ne (by omega)]; exact hK1
      have w4 : wr (wr y 99 20 (nI (P ++ W).length)) 107 C.length s 99 17 + 1 = nI (C.length + 1) := by rw [wr_ne (by omega), w2, nI_1]
      rw [e, if_neg (nI_nle (by omega) (by omega)), nI_m1, gd_e (inb_nI (by omega) (by omega)), gd_e (inb_nI (by omega) (by omega)), ix_nI (by omega), hK1, if_neg n11, ev_rank, bd_e, if_neg hr, e, nI_m1, st_e, w1, w2, gd_e (inb_nI (by omega) (by omega)), gd_e (inb_nI (by omega) (by omega)), ix_nI (by omega), ix_nI (by omega), w3, st_e, st_e, w4, ← hY]
      exact e1
    · simpa using e2
    · rw [e3 j a b, hY, wr_ne a, wr_ne b, wr_ne a]
    · rw [e4 k a b, hY, wr_at, if_pos rfl, if_neg a, wr_ne (by omega), wr_at, if_pos rfl, if_neg b]
def ctn (F : Nat → Int32) : Nat → Nat
  | 0 => 0
  | i + 1 => ctn F i + if F i = -10 then 1 else 0
theorem ctn_LK {F : Nat → Int32} : ∀ {W : List Int32}, LK F W → ctn F W.length = W.count (-10) := by
  intro W
  induction W with
  | nil => intro _; rfl
  | cons m W ih =>
    intro h
    show ctn F W.length + (if F W.length = -10 then 1 else 0) = _
    rw [ih h.2, h.1, List.count_cons]
    by_cases c : m = -10
    · rw [if_pos c, c]; rfl
    · rw [if_neg c, if_neg (by simpa using c)]
theorem nots_loop {w : Nat} {y : XS} (hw : w ≤ 96) (h : y 99 20 = nI w) : ∀ d i, i + d = w → ∀ f, d < f → lX8_notsOpen_h4 f (nI (ctn (y 108) i)) (nI i) y = some (nI (ctn (y 108) w), y) := by
  intro d
  induction d with
  | zero =>
    intro i hi f hf
    obtain ⟨f, rfl⟩ : ∃ q, f = q + 1 := ⟨f - 1, by omega⟩
    show bX8_notsOpen_h4 (lX8_notsOpen_h4 f) _ _ y = _
    unfold bX8_notsOpen_h4
    rw [h, show i = w by omega, if_pos (Int32.le_refl _)]
  | succ d ih =>
    intro i hi f hf
    obtain ⟨f, rfl⟩ : ∃ q, f = q + 1 := ⟨f - 1, by omega⟩
    show bX8_notsOpen_h4 (lX8_notsOpen_h4 f) _ _ y = _
    unfold bX8_notsOpen_h4
    have := ih (i + 1) (by omega) f (by omega)
    rw [h, if_neg (nI_ge (by omega) (by omega)), gd_e (inb_nI (by omega) (by omega)), ix_nI (by omega), ← this]
    simp only [st_e, nI_1]
    by_cases c : y 108 i = -10
    · rw [if_pos c, show ctn (y 108) (i + 1) = ctn (y 108) i + 1 by show ctn (y 108) i + (if y 108 i = -10 then 1 else 0) = _; rw [if_pos c]]
    · rw [if_neg c, show ctn (y 108) (i + 1) = ctn (y 108) i by show ctn (y 108) i + (if y 108 i = -10 then 1 else 0) = _; rw [if_neg c]; rfl, Int32.add_zero]
theorem ev_nots {ky nu : Nat} {C W : List Int32} {y : XS} (h : MD ky nu C W y) (hw : W.length ≤ 96) : fX8_notsOpen y = some (nI (W.count (-10)), y) := by
  obtain ⟨-, -, -, h20, -, hK⟩ := h
  have := nots_loop hw h20 W.length 0 (by omega) FU (by unfold FU; omega)
  rw [ctn_LK hK] at this
  exact this
