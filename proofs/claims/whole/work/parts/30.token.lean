def chR (b m : Int32) : Prop := (b = m ∧ 0 ≤ m ∧ m < 128) ∨ (b < 0 ∧ 128 ≤ m)
def chN (k : Nat) : Prop := ((nI k).toInt8.toInt32 = nI k ∧ 0 ≤ nI k ∧ nI k < 128) ∨ ((nI k).toInt8.toInt32 < 0 ∧ 128 ≤ nI k)
theorem byR_all : ∀ a b : Fin 16, ((nI (16 * a.val + b.val)).toInt8.toInt32 = nI (16 * a.val + b.val) ∧ 0 ≤ nI (16 * a.val + b.val) ∧ nI (16 * a.val + b.val) < 128) ∨ ((nI (16 * a.val + b.val)).toInt8.toInt32 < 0 ∧ 128 ≤ nI (16 * a.val + b.val)) := by decide
theorem byR.ch {b m : Int32} (h : byR b m) : chR b m := by
  obtain ⟨k, hk, rfl, rfl⟩ := h
  have := byR_all ⟨k / 16, by omega⟩ ⟨k % 16, by omega⟩
  rw [show 16 * (k / 16) + k % 16 = k by omega] at this
  exact this
abbrev isl (b : Int32) : Prop := 97 ≤ b ∧ b ≤ 122
abbrev isd (b : Int32) : Prop := 48 ≤ b ∧ b ≤ 57
theorem chR.lt {b m : Int32} (h : chR b m) : isl b ↔ isl m := by unfold chR at h; unfold isl; grind
theorem chR.dg {b m : Int32} (h : chR b m) : isd b ↔ isd m := by unfold chR at h; unfold isd; grind
theorem chR.sp {b m : Int32} (h : chR b m) : b = 32 ↔ m = 32 := by unfold chR at h; grind
theorem chR.eq {b m k : Int32} (h : chR b m) (h0 : 0 ≤ k) (h1 : k < 128) : b = k ↔ m = k := by unfold chR at h; grind
/-- the first place at or after q, of d places, where P fails -/
def fst1 (P : Nat → Bool) : Nat → Nat → Nat
  | 0, q => q
  | d + 1, q => if P q = true then fst1 P d (q + 1) else q
theorem fst1_ge {P : Nat → Bool} : ∀ d q, q ≤ fst1 P d q ∧ fst1 P d q ≤ q + d := by
  intro d
  induction d with
  | zero => intro q; exact ⟨Nat.le_refl _, Nat.le_refl _⟩
  | succ d ih =>
    intro q
    have := ih (q + 1)
    unfold fst1
    by_cases c : P q = true
    · rw [if_pos c]; omega
    · rw [if_neg c]; omega
theorem fst1_in {P : Nat → Bool} : ∀ d q i, q ≤ i → i < fst1 P d q → P i = true := by
  intro d
  induction d with
  | zero => intro q i h1 h2; unfold fst1 at h2; omega
  | succ d ih =>
    intro q i h1 h2
    unfold fst1 at h2
    by_cases c : P q = true
    · rw [if_pos c] at h2
      by_cases e : i = q
      · rw [e]; exact c
      · exact ih (q + 1) i (by omega) h2
    · rw [if_neg c] at h2; omega
theorem fst1_at {P : Nat → Bool} : ∀ d q, fst1 P d q < q + d → ¬ P (fst1 P d q) = true := by
  intro d
  induction d with
  | zero => intro q h2; unfold fst1 at h2; omega
  | succ d ih =>
    intro q h2
    unfold fst1 at h2 ⊢
    by_cases c : P q = true
    · rw [if_pos c] at h2 ⊢; exact ih (q + 1) (by omega)
    · rw [if_neg c]; exact c
theorem fst1_cong {P R : Nat → Bool} : ∀ d q, (∀ i, q ≤ i → i < q + d → P i = R i) → fst1 P d q = fst1 R d q := by
  intro d
  induction d with
  | zero => intro q _; rfl
  | succ d ih =>
    intro q h
    unfold fst1
    rw [h q (by omega) (by omega), ih (q + 1) (fun i a b => h i (by omega) (by omega))]
theorem cv_lt {v : Int32} {x : XS} : fX5_isLetter v x = some (if isl v then 1 else 0, x) := by
  unfold fX5_isLetter isl; grind
theorem cv_dg {v : Int32} {x : XS} : fX5_isDigit v x = some (if isd v then 1 else 0, x) := by
  unfold fX5_isDigit isd; grind
theorem mv_lt {i L : Nat} {y : XS} (h7 : y 99 7 = nI L) (hL : L ≤ 96) (hi : i ≤ L) : fX8_isLetter (nI i) y = some (if i < L ∧ isl (y 104 i) then 1 else 0, y) := by
  unfold fX8_isLetter isl
  rw [h7]
  by_cases c : i < L
  · rw [if_neg (nI_ge c (by omega)), gd_e (inb_nI (by omega) (by omega)), gd_e (inb_nI (by omega) (by omega)), ix_nI (by omega)]
    grind
  · rw [if_pos (nI_le (by omega) (by omega)), if_neg (by omega)]
theorem mv_dg {i L : Nat} {y : XS} (h7 : y 99 7 = nI L) (hL : L ≤ 96) (hi : i ≤ L) : fX8_isFigure (nI i) y = some (if i < L ∧ isd (y 104 i) then 1 else 0, y) := by
  unfold fX8_isFigure isd
  rw [h7]
  by_cases c : i < L
  · rw [if_neg (nI_ge c (by omega)), gd_e (inb_nI (by omega) (by omega)), gd_e (inb_nI (by omega) (by omega)), ix_nI (by omega)]
    grind
  · rw [if_pos (nI_le (by omega) (by omega)), if_neg (by omega)]
def Pd (f : Int32 → Prop) [DecidablePred f] (B : Nat → Int32) (i : Nat) : Bool := decide (f (B i))
theorem c_sp {L : Nat} {B : Nat → Int32} (hL : L ≤ 96) : ∀ d q (x : XS), q + d = L → x 2 2 = nI L → x 2 5 = nI q → x 3 = B → ∀ f, d < f → lX5_step_h0 f x = fX5_step_h38 (wr x 2 5 (nI (fst1 (Pd (fun b => b = 32) B) d q))) := by
  intro d
  induction d with
  | zero =>
    intro q x hq h2 h5 h3 f hf
    obtain ⟨f, rfl⟩ : ∃ q, f = q + 1 := ⟨f - 1, by omega⟩
    show bX5_step_h0 (lX5_step_h0 f) x = _
    unfold bX5_step_h0
    rw [h2, h5, if_pos (nI_le (by omega) (by omega)), show fst1 (Pd (fun b => b = 32) B) 0 q = q from rfl, wr_same h5]
  | succ d ih =>
    intro q x hq h2 h5 h3 f hf
    obtain ⟨f, rfl⟩ : ∃ q, f = q + 1 := ⟨f - 1, by omega⟩
    show bX5_step_h0 (lX5_step_h0 f) x = _
    unfold bX5_step_h0
    rw [h2, h5, if_neg (nI_ge (by omega) (by omega)), gd_e (inb_nI (by omega) (by omega)), ix_nI (by omega), h3]
    by_cases c : B q = 32
    · rw [if_pos c, st_e, nI_1, ih (q + 1) _ (by omega) (by rw [wr_at, if_pos rfl, if_neg (by omega)]; exact h2) (by rw [wr_at, if_pos rfl, if_pos rfl]) (by rw [wr_ne (by omega)]; exact h3) f (by omega)]
      rw [show fst1 (Pd (fun b => b = 32) B) (d + 1) q = fst1 (Pd (fun b => b = 32) B) d (q + 1) from if_pos (decide_eq_true c)]
      congr 1
      funext j k
      grind [wr_at]
    · rw [if_neg c, show fst1 (Pd (fun b => b = 32) B) (d + 1) q = q from if_neg (by unfold Pd; simpa using c), wr_same h5]
theorem c_lt {L : Nat} {B : Nat → Int32} (hL : L ≤ 96) : ∀ d q (x : XS), q + d = L → x 2 2 = nI L → x 2 5 = nI q → x 3 = B → ∀ f, d < f → lX5_step_h83 f x = fX5_step_h196 (wr x 2 5 (nI (fst1 (Pd isl B) d q))) := by
  intro d
  induction d with
  | zero =>
    intro q x hq h2 h5 h3 f hf
    obtain ⟨f, rfl⟩ : ∃ q, f = q + 1 := ⟨f - 1, by omega⟩
    show bX5_step_h83 (lX5_step_h83 f) x = _
    unfold bX5_step_h83
    rw [h2, h5, if_pos (nI_le (by omega) (by omega)), show fst1 (Pd isl B) 0 q = q from rfl, wr_same h5]
  | succ d ih =>
    intro q x hq h2 h5 h3 f hf
    obtain ⟨f, rfl⟩ : ∃ q, f = q + 1 := ⟨f - 1, by omega⟩
    show bX5_step_h83 (lX5_step_h83 f) x = _
    unfold bX5_step_h83
    rw [h2, h5, if_neg (nI_ge (by omega) (by omega)), gd_e (inb_nI (by omega) (by omega)), ix_nI (by omega), h3, cv_lt, bdif, h5]
    by_cases c : isl (B q)
    · rw [if_pos c, st_e, nI_1, ih (q + 1) _ (by omega) (by rw [wr_at, if_pos rfl, if_neg (by omega)]; exact h2) (by rw [wr_at, if_pos rfl, if_pos rfl]) (by rw [wr_ne (by omega)]; exact h3) f (by omega)]
      rw [show fst1 (Pd isl B) (d + 1) q = fst1 (Pd isl B) d (q + 1) from if_pos (decide_eq_true c)]
      congr 1
      funext j k
      grind [wr_at]
    · rw [if_neg c, show fst1 (Pd isl B) (d + 1) q = q from if_neg (by unfold Pd; simpa using c), wr_same h5]
theorem c_dg {L : Nat} {B : Nat → Int32} (hL : L ≤ 96) : ∀ d q (x : XS), q + d = L → x 2 2 = nI L → x 2 5 = nI q → x 3 = B → ∀ f, d < f → lX5_step_h142 f x = fX5_step_h196 (wr x 2 5 (nI (fst1 (Pd isd B) d q))) := by
  intro d
  induction d with
  | zero =>
    intro q x hq h2 h5 h3 f hf
    obtain ⟨f, rfl⟩ : ∃ q, f = q + 1 := ⟨f - 1, by omega⟩
    show bX5_step_h142 (lX5_step_h142 f) x = _
    unfold bX5_step_h142
    rw [h2, h5, if_pos (nI_le (by omega) (by omega)), show fst1 (Pd isd B) 0 q = q from rfl, wr_same h5]
  | succ d ih =>
    intro q x hq h2 h5 h3 f hf
    obtain ⟨f, rfl⟩ : ∃ q, f = q + 1 := ⟨f - 1, by omega⟩
    show bX5_step_h142 (lX5_step_h142 f) x = _
    unfold bX5_step_h142
    rw [h2, h5, if_neg (nI_ge (by omega) (by omega)), gd_e (inb_nI (by omega) (by omega)), ix_nI (by omega), h3, cv_dg, bdif, h5]
    by_cases c : isd (B q)
    · rw [if_pos c, st_e, nI_1, ih (q + 1) _ (by omega) (by rw [wr_at, if_pos rfl, if_neg (by omega)]; exact h2) (by rw [wr_at, if_pos rfl, if_pos rfl]) (by rw [wr_ne (by omega)]; exact h3) f (by omega)]
      rw [show fst1 (Pd isd B) (d + 1) q = fst1 (Pd isd B) d (q + 1) from if_pos (decide_eq_true c)]
      congr 1
      funext j k
      grind [wr_at]
    · rw [if_neg c, show fst1 (Pd isd B) (d + 1) q = q from if_neg (by unfold Pd; simpa using c), wr_same h5]
theorem m_sp {L : Nat} {M : Nat → Int32} (hL : L ≤ 96) : ∀ d q (y : XS), q + d = L → y 99 7 = nI L → y 99 8 = nI q → y 104 = M → ∀ f, d < f → lX8_go_h0 f y = fX8_go_h38 (wr y 99 8 (nI (fst1 (Pd (fun b => b = 32) M) d q))) := by
  intro d
  induction d with
  | zero =>
    intro q x hq h2 h5 h3 f hf
    obtain ⟨f, rfl⟩ : ∃ q, f = q + 1 := ⟨f - 1, by omega⟩
    show bX8_go_h0 (lX8_go_h0 f) x = _
    unfold bX8_go_h0
    rw [h2, h5, if_pos (nI_le (by omega) (by omega)), show fst1 (Pd (fun b => b = 32) M) 0 q = q from rfl, wr_same h5]
  | succ d ih =>
    intro q x hq h2 h5 h3 f hf
    obtain ⟨f, rfl⟩ : ∃ q, f = q + 1 := ⟨f - 1, by omega⟩
    show bX8_go_h0 (lX8_go_h0 f) x = _
    unfold bX8_go_h0
    rw [h2, h5, if_neg (nI_ge (by omega) (by omega)), gd_e (inb_nI (by omega) (by omega)), ix_nI (by omega), h3]
    by_cases c : M q = 32
    · rw [if_pos c, st_e, nI_1, ih (q + 1) _ (by omega) (by rw [wr_at, if_pos rfl, if_neg (by omega)]; exact h2) (by rw [wr_at, if_pos rfl, if_pos rfl]) (by rw [wr_ne (by omega)]; exact h3) f (by omega)]
      rw [show fst1 (Pd (fun b => b = 32) M) (d + 1) q = fst1 (Pd (fun b => b = 32) M) d (q + 1) from if_pos (decide_eq_true c)]
      congr 1
      funext j k
      grind [wr_at]
    · rw [if_neg c, show fst1 (Pd (fun b => b = 32) M) (d + 1) q = q from if_neg (by unfold Pd; simpa using c), wr_same h5]
theorem m_lt {L : Nat} {M : Nat → Int32} {u : Int32} (hL : L ≤ 96) : ∀ d q (y : XS), q + d = L → y 99 7 = nI L → y 99 8 = nI q → y 104 = M → ∀ f, d < f → lX8_go_h93 f u y = fX8_go_h127 (if u = 0 then 1 else 4) (wr y 99 8 (nI (fst1 (Pd isl M) d q))) := by
  intro d
  induction d with
  | zero =>
    intro q x hq h2 h5 h3 f hf
    obtain ⟨f, rfl⟩ : ∃ q, f = q + 1 := ⟨f - 1, by omega⟩
    show bX8_go_h93 (lX8_go_h93 f) u x = _
    unfold bX8_go_h93
    rw [h5, mv_lt h2 hL (by omega), bdif, if_neg (by omega), show fst1 (Pd isl M) 0 q = q from rfl, wr_same h5]
    by_cases c : u = 0
    · rw [if_pos c, if_pos c]
    · rw [if_neg c, if_neg c]
  | succ d ih =>
    intro q x hq h2 h5 h3 f hf
    obtain ⟨f, rfl⟩ : ∃ q, f = q + 1 := ⟨f - 1, by omega⟩
    show bX8_go_h93 (lX8_go_h93 f) u x = _
    unfold bX8_go_h93
    rw [h5, mv_lt h2 hL (by omega), bdif, h3]
    by_cases c : isl (M q)
    · rw [if_pos ⟨by omega, c⟩, st_e, h5, nI_1, ih (q + 1) _ (by omega) (by rw [wr_at, if_pos rfl, if_neg (by omega)]; exact h2) (by rw [wr_at, if_pos rfl, if_pos rfl]) (by rw [wr_ne (by omega)]; exact h3) f (by omega)]
      rw [show fst1 (Pd isl M) (d + 1) q = fst1 (Pd isl M) d (q + 1) from if_pos (decide_eq_true c)]
      congr 1
      funext j k
      grind [wr_at]
    · rw [if_neg (fun q => c q.2), show fst1 (Pd isl M) (d + 1) q = q from if_neg (by unfold Pd; simpa using c), wr_same h5]
      by_cases c : u = 0
      · rw [if_pos c, if_pos c]
      · rw [if_neg c, if_neg c]
/-- the value of k digits from p on -/
def dv (M : Nat → Int32) (p : Nat) : Nat → Int32
  | 0 => 0
  | k + 1 => 10 * dv M p k + M (p + k) - 48
def go2 (u : Int32) (n : Nat) (y : XS) : Option (Unit × XS) := some ((), wr (wr y 99 10 (if u = 0 ∧ n ≤ 4 then 2 else 4)) 99 12 (y 99 8))
theorem m_dg {L p : Nat} {M : Nat → Int32} {u : Int32} (hL : L ≤ 96) : ∀ d k (y : XS), p + k + d = L → y 99 7 = nI L → y 99 8 = nI (p + k) → y 99 9 = nI p → y 99 11 = dv M p (min k 4) → y 104 = M → ∀ f, d < f → lX8_go_h170 f u y = go2 u (fst1 (Pd isd M) d (p + k) - p) (wr (wr y 99 11 (dv M p (min (fst1 (Pd isd M) d (p + k) - p) 4))) 99 8 (nI (fst1 (Pd isd M) d (p + k)))) := by
  intro d
  have stop : ∀ (k : Nat) (y : XS), p + k ≤ L → y 99 8 = nI (p + k) → y 99 9 = nI p → y 99 11 = dv M p (min k 4) → (if u = 0 then (if ((y 99 8) - (y 99 9)) ≤ 4 then (st_ (wr y 99 10 2) (fun x_27 => (st_ (wr x_27 99 12 (x_27 99 8)) (fun x_28 => (some ((), x_28)))))) else (st_ (wr y 99 10 4) (fun x_29 => (st_ (wr x_29 99 12 (x_29 99 8)) (fun x_30 => (some ((), x_30))))))) else (st_ (wr y 99 10 4) (fun x_24 => (st_ (wr x_24 99 12 (x_24 99 8)) (fun x_25 => (some ((), x_25))))))) = go2 u k (wr (wr y 99 11 (dv M p (min k 4))) 99 8 (nI (p + k))) := by
    intro k y hk h8 h9 h11
    rw [wr_same h11, wr_same h8, h8, h9, show nI (p + k) - nI p = nI k by rw [← nI_add]; grind]
    have w8 : ∀ v, wr y 99 10 v 99 8 = y 99 8 := fun v => by rw [wr_at, if_pos rfl, if_neg (by omega)]
    unfold go2
    simp only [st_e, w8]
    by_cases c : u = 0
    · rw [if_pos c]
      by_cases c4 : k ≤ 4
      · rw [if_pos (show nI k ≤ 4 from nI_le (b := 4) c4 (by omega)), if_pos ⟨c, c4⟩]
      · rw [if_neg (show ¬ nI k ≤ 4 from nI_ge (a := 4) (by omega) (by omega)), if_neg (fun q => c4 q.2)]
    · rw [if_neg c, if_neg (fun q => c q.1)]
  induction d with
  | zero =>
    intro k y hk h7 h8 h9 h11 h3 f hf
    obtain ⟨f, rfl⟩ : ∃ q, f = q + 1 := ⟨f - 1, by omega⟩
    show bX8_go_h170 (lX8_go_h170 f) u y = _
    unfold bX8_go_h170
    rw [show (bd (fX8_isFigure (y 99 8) y)) = bd (some (if p + k < L ∧ isd (y 104 (p + k)) then 1 else 0, y)) by rw [h8, mv_dg h7 hL (by omega)], bdif, if_neg (by omega), show fst1 (Pd isd M) 0 (p + k) = p + k from rfl, show p + k - p = k by omega]
    exact stop k y (by omega) h8 h9 h11
  | succ d ih =>
    intro k y hk h7 h8 h9 h11 h3 f hf
    obtain ⟨f, rfl⟩ : ∃ q, f = q + 1 := ⟨f - 1, by omega⟩
    show bX8_go_h170 (lX8_go_h170 f) u y = _
    unfold bX8_go_h170
    rw [show (bd (fX8_isFigure (y 99 8) y)) = bd (some (if p + k < L ∧ isd (y 104 (p + k)) then 1 else 0, y)) by rw [h8, mv_dg h7 hL (by omega)], bdif]
    by_cases c : isd (M (p + k))
    · rw [if_pos (by rw [h3]; exact ⟨by omega, c⟩), show fst1 (Pd isd M) (d + 1) (p + k) = fst1 (Pd isd M) d (p + (k + 1)) from if_pos (decide_eq_true c)]
      have hd : y 99 8 - y 99 9 = nI k := by rw [h8, h9, ← nI_add]; grind
      have hb : inb (y 99 8) 96 = true := by rw [h8]; exact inb_nI (by omega) (by omega)
      have e8 : ∀ v, wr y 99 11 v 99 8 + 1 = nI (p + (k + 1)) := fun v => by rw [wr_at, if_pos rfl, if_neg (by omega), h8, nI_1]; rfl
      have h4 : y 104 (ix (y 99 8)) = M (p + k) := by rw [h8, ix_nI (by omega), h3]
      rw [hd, gd_e hb, h4, h11]
      simp only [st_e, e8]
      have fin : ∀ v, v = dv M p (min (k + 1) 4) → lX8_go_h170 f u (wr (wr y 99 11 v) 99 8 (nI (p + (k + 1)))) = go2 u (fst1 (Pd isd M) d (p + (k + 1)) - p) (wr (wr y 99 11 (dv M p (min (fst1 (Pd isd M) d (p + (k + 1)) - p) 4))) 99 8 (nI (fst1 (Pd isd M) d (p + (k + 1))))) := by
        intro v hv
        rw [ih (k + 1) (wr (wr y 99 11 v) 99 8 (nI (p + (k + 1)))) (by omega) (by grind [wr_at]) (by grind [wr_at]) (by grind [wr_at]) (by grind [wr_at]) (by rw [wr_ne (by omega), wr_ne (by omega)]; exact h3) f (by omega)]
        congr 1
        funext j k
        grind [wr_at]
      by_cases c4 : 4 ≤ k
      · rw [if_pos (show (4 : Int32) ≤ nI k from nI_le (a := 4) c4 (by omega))]
        exact fin _ (by rw [show min k 4 = 4 by omega, show min (k + 1) 4 = 4 by omega])
      · rw [if_neg (show ¬ (4 : Int32) ≤ nI k from nI_ge (b := 4) (by omega) (by omega))]
        exact fin _ (by rw [show min k 4 = k by omega, show min (k + 1) 4 = k + 1 by omega]; rfl)
    · rw [if_neg (by rw [h3]; exact fun q => c q.2), show fst1 (Pd isd M) (d + 1) (p + k) = p + k from if_neg (by unfold Pd; simpa using c), show p + k - p = k by omega]
      exact stop k y (by omega) h8 h9 h11
