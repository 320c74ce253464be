def sTm (i : Nat) : Term := ([.string "ShoeCorner$Tape" 48, .string "ShoeCorner$Tape" 54, .string "ShoeCorner$Tape" 56, .string "ShoeCorner$Text" 45, .string "ShoeCorner$Text" 47, .string "ShoeCorner$Text" 49] : List Term).getD i (.arg 0)
theorem arrP {s : State} {args : Array Value} {ty : FieldType} (h : (Cond.arrayClass ty).before args s = true) : ∃ cA : ClassId, ArrOfT s cA ty ∧ s.vm.findClass ("[" ++ ty.toString) = some cA := by
  obtain ⟨cA, kA, comp, h1, h2, h3⟩ := Cond.arrayClass_spec h
  exact ⟨cA, fun n z => ⟨(fun k q => by cases q), kA, h2, comp, h3⟩, h1⟩
theorem arrO {s : State} {C : String} (h : va_AO C s) : ∃ cA : ClassId, ArrOfT s cA (.object C) ∧ va_RA s cA (.object C) := by
  obtain ⟨comp, cA, kA, h1, h2, h3, h4, h5⟩ := Cond.arrayOver_spec (va_AO.use (A := #[]) h)
  exact ⟨cA, fun n z => ⟨(fun k q => by cases q), kA, h3, comp, h4⟩, kA, comp, h3, h4, h1, h5⟩
set_option maxRecDepth 100000 in
theorem K_start {s : State} {args : Array Value} (hts : ∀ w ∈ lw_tbl, w.before args s = true) : ∃ (D : va_G) (ar : Nat → ClassId), (∀ (c : Nat) (q : vw_C), vwCl[c]? = some q → u_Kn s q.1 q.2.1 q.2.2 (D.1 c) (D.2 c)) ∧ ∀ (k : Nat) (q : ClassId × FieldType), ([(ar 8, .int), (ar 9, .byte), (ar 10, .char), (ar 11, .boolean), (ar 12, .object "ShoeCorner$Boy"), (ar 13, .object "ShoeCorner$Sheet"), (ar 14, .object "ShoeCorner$Slot"), (ar 15, .object "ShoeCorner$Text"), (ar 16, .object "ShoeCorner$Text")] : List (ClassId × FieldType))[k]? = some q → ArrOfT s q.1 q.2 ∧ va_RA s q.1 q.2 := by
  have hw : ∀ w ∈ gT, w.before args s = true := fun w h => hts w (List.mem_filter.mp h).1
  obtain ⟨c0, i0, k0⟩ := u_known hw giX0 (hw _ g_63)
  obtain ⟨c1, i1, k1⟩ := u_known hw giX2 (hw _ g_182)
  obtain ⟨c2, i2, k2⟩ := u_known hw giX3 (hw _ g_200)
  obtain ⟨c3, i3, k3⟩ := u_known hw giX4 (hw _ g_55)
  obtain ⟨c4, i4, k4⟩ := u_known hw giX5 (hw _ g_28)
  obtain ⟨c5, i5, k5⟩ := u_known hw giX6 (hw _ g_153)
  obtain ⟨c6, i6, k6⟩ := u_known hw giX7 (hw _ g_18)
  obtain ⟨c7, i7, k7⟩ := u_known hw giX8 (hw _ g_800)
  obtain ⟨a8, p8, q8⟩ := arrP (hw _ g_181)
  obtain ⟨a9, p9, q9⟩ := arrP (hw _ g_53)
  obtain ⟨a10, p10, q10⟩ := arrP (hw _ g_908)
  obtain ⟨a11, p11, q11⟩ := arrP (hw _ g_909)
  obtain ⟨a12, p12, q12⟩ := arrO (C := "ShoeCorner$Boy") (va_AO.of (hts _ (tw 61 (by decide +kernel))))
  obtain ⟨a13, p13, q13⟩ := arrO (C := "ShoeCorner$Sheet") (va_AO.of (hts _ (tw 150 (by decide +kernel))))
  obtain ⟨a14, p14, q14⟩ := arrO (C := "ShoeCorner$Slot") (va_AO.of (hts _ (tw 152 (by decide +kernel))))
  obtain ⟨a15, p15, q15⟩ := arrO (C := "ShoeCorner$Text") (va_AO.of (hts _ (tw 26 (by decide +kernel))))
  refine ⟨((fun c => ([c0, c1, c2, c3, c4, c5, c6, c7] : List ClassId).getD c c0), fun c => ([i0, i1, i2, i3, i4, i5, i6, i7] : List (Nat → Nat)).getD c i0), fun t => ([a8, a9, a10, a11, a12, a13, a14, a15, a15] : List ClassId).getD (t - 8) a8, fun c q h => ?_, fun k q h => ?_⟩
  · have hc : c < 8 := (List.getElem?_eq_some_iff.mp h).1
    rcases (show c = 0 ∨ c = 1 ∨ c = 2 ∨ c = 3 ∨ c = 4 ∨ c = 5 ∨ c = 6 ∨ c = 7 by omega) with rfl | rfl | rfl | rfl | rfl | rfl | rfl | rfl
    · cases h; exact k0
    · cases h; exact k1
    · cases h; exact k2
    · cases h; exact k3
    · cases h; exact k4
    · cases h; exact k5
    · cases h; exact k6
    · cases h; exact k7
  · have hc : k < 9 := (List.getElem?_eq_some_iff.mp h).1
    rcases (show k = 0 ∨ k = 1 ∨ k = 2 ∨ k = 3 ∨ k = 4 ∨ k = 5 ∨ k = 6 ∨ k = 7 ∨ k = 8 by omega) with rfl | rfl | rfl | rfl | rfl | rfl | rfl | rfl | rfl
    · cases h; exact ⟨p8, q8⟩
    · cases h; exact ⟨p9, q9⟩
    · cases h; exact ⟨p10, q10⟩
    · cases h; exact ⟨p11, q11⟩
    · cases h; exact ⟨p12, q12⟩
    · cases h; exact ⟨p13, q13⟩
    · cases h; exact ⟨p14, q14⟩
    · cases h; exact ⟨p15, q15⟩
    · cases h; exact ⟨p15, q15⟩
set_option maxRecDepth 100000 in
theorem E_start {s : State} {args : Array Value} (hts : ∀ w ∈ lw_tbl, w.before args s = true) (hgv : (Jvm.Cond.and given_1 narrow_1).before args s = true) {A : Nat → Prop} (hA : ∀ a : Nat, a < s.heap.size → ¬ A a) : ∃ ad : Nat → Nat, va_Z "ShoeCorner$Kinds" "ABOVE" "[I" (.ref (ad 0)) A s s.heap ∧ va_T .int (ad 0) 6 (fun j => .int (sAbove.getD j 0)) A s s.heap ∧ vk_S 6 slen sbyt (fun i => ad (1 + i)) (fun i => ad (7 + i)) A s s.heap ∧ (vk_R "ShoeCorner$Tape" 48 "shine" (ad 1) s ∧ vk_R "ShoeCorner$Tape" 54 "fee" (ad 2) s ∧ vk_R "ShoeCorner$Tape" 56 "fine" (ad 3) s ∧ vk_R "ShoeCorner$Text" 45 "rdp" (ad 4) s ∧ vk_R "ShoeCorner$Text" 47 "ls" (ad 5) s ∧ vk_R "ShoeCorner$Text" 49 "pd" (ad 6) s) ∧ va_Z "java/lang/String" "COMPACT_STRINGS" "Z" (.int 1) A s s.heap ∧ va_Zq "jdk/internal/util/Preconditions" "SIOOBE_FORMATTER" "Ljava/util/function/BiFunction;" A s s.heap := by
  have hs := flat_of_before _ hgv
  have hel : ∀ j : Nat, j < 6 → (Cond.eq (.elem (.static "ShoeCorner$Kinds" "ABOVE" "[I") (.int (Int32.ofNat j))) (.int (sAbove.getD j 0))).before args s = true := by
    intro j hj
    rcases (show j = 0 ∨ j = 1 ∨ j = 2 ∨ j = 3 ∨ j = 4 ∨ j = 5 by omega) with rfl | rfl | rfl | rfl | rfl | rfl
    · exact hs (Cond.eq (.elem (.static "ShoeCorner$Kinds" "ABOVE" "[I") (.int 0)) (.int (-1))) (by decide +kernel)
    · exact hs (Cond.eq (.elem (.static "ShoeCorner$Kinds" "ABOVE" "[I") (.int 1)) (.int 0)) (by decide +kernel)
    · exact hs (Cond.eq (.elem (.static "ShoeCorner$Kinds" "ABOVE" "[I") (.int 2)) (.int 0)) (by decide +kernel)
    · exact hs (Cond.eq (.elem (.static "ShoeCorner$Kinds" "ABOVE" "[I") (.int 3)) (.int 1)) (by decide +kernel)
    · exact hs (Cond.eq (.elem (.static "ShoeCorner$Kinds" "ABOVE" "[I") (.int 4)) (.int 2)) (by decide +kernel)
    · exact hs (Cond.eq (.elem (.static "ShoeCorner$Kinds" "ABOVE" "[I") (.int 5)) (.int 0)) (by decide +kernel)
  obtain ⟨t, ht, hT⟩ := va_Tof (tm := (.static "ShoeCorner$Kinds" "ABOVE" "[I")) (ty := .int) (N := 6) (f := fun j => .int (sAbove.getD j 0)) (A := A) (by decide) (hs _ (by decide +kernel)) (va_eqt (hs (Cond.eq (.length (.static "ShoeCorner$Kinds" "ABOVE" "[I")) (.int 6)) (by decide +kernel))) (fun j hj => va_eqt (hel j hj)) hA
  have hZ := va_Zof (A := A) (hts _ (tw 338 (by decide +kernel))) (hts _ (tw 9 (by decide +kernel))) ht hA
  have hN : ∀ i : Nat, i < 6 → slen.getD i 0 < 2 ^ 31 := by
    intro i hi
    rcases (show i = 0 ∨ i = 1 ∨ i = 2 ∨ i = 3 ∨ i = 4 ∨ i = 5 by omega) with rfl | rfl | rfl | rfl | rfl | rfl
    · decide
    · decide
    · decide
    · decide
    · decide
    · decide
  have hex : ∀ i : Nat, i < 6 → (Cond.exactly (sTm i) "java/lang/String").before args s = true := by
    intro i hi
    rcases (show i = 0 ∨ i = 1 ∨ i = 2 ∨ i = 3 ∨ i = 4 ∨ i = 5 by omega) with rfl | rfl | rfl | rfl | rfl | rfl
    · exact hs (Cond.exactly (.string "ShoeCorner$Tape" 48) "java/lang/String") (by decide +kernel)
    · exact hs (Cond.exactly (.string "ShoeCorner$Tape" 54) "java/lang/String") (by decide +kernel)
    · exact hs (Cond.exactly (.string "ShoeCorner$Tape" 56) "java/lang/String") (by decide +kernel)
    · exact hs (Cond.exactly (.string "ShoeCorner$Text" 45) "java/lang/String") (by decide +kernel)
    · exact hs (Cond.exactly (.string "ShoeCorner$Text" 47) "java/lang/String") (by decide +kernel)
    · exact hs (Cond.exactly (.string "ShoeCorner$Text" 49) "java/lang/String") (by decide +kernel)
  have hco : ∀ i : Nat, i < 6 → (Cond.eq (.field (sTm i) "java/lang/String" "coder" "B") (.int 0)).before args s = true := by
    intro i hi
    rcases (show i = 0 ∨ i = 1 ∨ i = 2 ∨ i = 3 ∨ i = 4 ∨ i = 5 by omega) with rfl | rfl | rfl | rfl | rfl | rfl
    · exact hs (Cond.eq (.field (.string "ShoeCorner$Tape" 48) "java/lang/String" "coder" "B") (.int 0)) (by decide +kernel)
    · exact hs (Cond.eq (.field (.string "ShoeCorner$Tape" 54) "java/lang/String" "coder" "B") (.int 0)) (by decide +kernel)
    · exact hs (Cond.eq (.field (.string "ShoeCorner$Tape" 56) "java/lang/String" "coder" "B") (.int 0)) (by decide +kernel)
    · exact hs (Cond.eq (.field (.string "ShoeCorner$Text" 45) "java/lang/String" "coder" "B") (.int 0)) (by decide +kernel)
    · exact hs (Cond.eq (.field (.string "ShoeCorner$Text" 47) "java/lang/String" "coder" "B") (.int 0)) (by decide +kernel)
    · exact hs (Cond.eq (.field (.string "ShoeCorner$Text" 49) "java/lang/String" "coder" "B") (.int 0)) (by decide +kernel)
  have har : ∀ i : Nat, i < 6 → (Cond.arrayOf (.field (sTm i) "java/lang/String" "value" "[B") .byte).before args s = true := by
    intro i hi
    rcases (show i = 0 ∨ i = 1 ∨ i = 2 ∨ i = 3 ∨ i = 4 ∨ i = 5 by omega) with rfl | rfl | rfl | rfl | rfl | rfl
    · exact hs (Cond.arrayOf (.field (.string "ShoeCorner$Tape" 48) "java/lang/String" "value" "[B") .byte) (by decide +kernel)
    · exact hs (Cond.arrayOf (.field (.string "ShoeCorner$Tape" 54) "java/lang/String" "value" "[B") .byte) (by decide +kernel)
    · exact hs (Cond.arrayOf (.field (.string "ShoeCorner$Tape" 56) "java/lang/String" "value" "[B") .byte) (by decide +kernel)
    · exact hs (Cond.arrayOf (.field (.string "ShoeCorner$Text" 45) "java/lang/String" "value" "[B") .byte) (by decide +kernel)
    · exact hs (Cond.arrayOf (.field (.string "ShoeCorner$Text" 47) "java/lang/String" "value" "[B") .byte) (by decide +kernel)
    · exact hs (Cond.arrayOf (.field (.string "ShoeCorner$Text" 49) "java/lang/String" "value" "[B") .byte) (by decide +kernel)
  have hle : ∀ i : Nat, i < 6 → (Cond.eq (.length (.field (sTm i) "java/lang/String" "value" "[B")) (.int (Int32.ofNat (slen.getD i 0)))).before args s = true := by
    intro i hi
    rcases (show i = 0 ∨ i = 1 ∨ i = 2 ∨ i = 3 ∨ i = 4 ∨ i = 5 by omega) with rfl | rfl | rfl | rfl | rfl | rfl
    · exact hs (Cond.eq (.length (.field (.string "ShoeCorner$Tape" 48) "java/lang/String" "value" "[B")) (.int 5)) (by decide +kernel)
    · exact hs (Cond.eq (.length (.field (.string "ShoeCorner$Tape" 54) "java/lang/String" "value" "[B")) (.int 3)) (by decide +kernel)
    · exact hs (Cond.eq (.length (.field (.string "ShoeCorner$Tape" 56) "java/lang/String" "value" "[B")) (.int 4)) (by decide +kernel)
    · exact hs (Cond.eq (.length (.field (.string "ShoeCorner$Text" 45) "java/lang/String" "value" "[B")) (.int 3)) (by decide +kernel)
    · exact hs (Cond.eq (.length (.field (.string "ShoeCorner$Text" 47) "java/lang/String" "value" "[B")) (.int 2)) (by decide +kernel)
    · exact hs (Cond.eq (.length (.field (.string "ShoeCorner$Text" 49) "java/lang/String" "value" "[B")) (.int 2)) (by decide +kernel)
  have hel2 : ∀ i : Nat, i < 6 → ∀ j : Nat, j < slen.getD i 0 → (Cond.eq (.elem (.field (sTm i) "java/lang/String" "value" "[B") (.int (Int32.ofNat j))) (.int ((sbyt.getD i []).getD j 0))).before args s = true := by
    intro i hi
    rcases (show i = 0 ∨ i = 1 ∨ i = 2 ∨ i = 3 ∨ i = 4 ∨ i = 5 by omega) with rfl | rfl | rfl | rfl | rfl | rfl
    · intro j hj
      have hj : j < 5 := hj
      rcases (show j = 0 ∨ j = 1 ∨ j = 2 ∨ j = 3 ∨ j = 4 by omega) with rfl | rfl | rfl | rfl | rfl
      · exact hs (Cond.eq (.elem (.field (.string "ShoeCorner$Tape" 48) "java/lang/String" "value" "[B") (.int 0)) (.int 115)) (by decide +kernel)
      · exact hs (Cond.eq (.elem (.field (.string "ShoeCorner$Tape" 48) "java/lang/String" "value" "[B") (.int 1)) (.int 104)) (by decide +kernel)
      · exact hs (Cond.eq (.elem (.field (.string "ShoeCorner$Tape" 48) "java/lang/String" "value" "[B") (.int 2)) (.int 105)) (by decide +kernel)
      · exact hs (Cond.eq (.elem (.field (.string "ShoeCorner$Tape" 48) "java/lang/String" "value" "[B") (.int 3)) (.int 110)) (by decide +kernel)
      · exact hs (Cond.eq (.elem (.field (.string "ShoeCorner$Tape" 48) "java/lang/String" "value" "[B") (.int 4)) (.int 101)) (by decide +kernel)
    · intro j hj
      have hj : j < 3 := hj
      rcases (show j = 0 ∨ j = 1 ∨ j = 2 by omega) with rfl | rfl | rfl
      · exact hs (Cond.eq (.elem (.field (.string "ShoeCorner$Tape" 54) "java/lang/String" "value" "[B") (.int 0)) (.int 102)) (by decide +kernel)
      · exact hs (Cond.eq (.elem (.field (.string "ShoeCorner$Tape" 54) "java/lang/String" "value" "[B") (.int 1)) (.int 101)) (by decide +kernel)
      · exact hs (Cond.eq (.elem (.field (.string "ShoeCorner$Tape" 54) "java/lang/String" "value" "[B") (.int 2)) (.int 101)) (by decide +kernel)
    · intro j hj
      have hj : j < 4 := hj
      rcases (show j = 0 ∨ j = 1 ∨ j = 2 ∨ j = 3 by omega) with rfl | rfl | rfl | rfl
      · exact hs (Cond.eq (.elem (.field (.string "ShoeCorner$Tape" 56) "java/lang/String" "value" "[B") (.int 0)) (.int 102)) (by decide +kernel)
      · exact hs (Cond.eq (.elem (.field (.string "ShoeCorner$Tape" 56) "java/lang/String" "value" "[B") (.int 1)) (.int 105)) (by decide +kernel)
      · exact hs (Cond.eq (.elem (.field (.string "ShoeCorner$Tape" 56) "java/lang/String" "value" "[B") (.int 2)) (.int 110)) (by decide +kernel)
      · exact hs (Cond.eq (.elem (.field (.string "ShoeCorner$Tape" 56) "java/lang/String" "value" "[B") (.int 3)) (.int 101)) (by decide +kernel)
    · intro j hj
      have hj : j < 3 := hj
      rcases (show j = 0 ∨ j = 1 ∨ j = 2 by omega) with rfl | rfl | rfl
      · exact hs (Cond.eq (.elem (.field (.string "ShoeCorner$Text" 45) "java/lang/String" "value" "[B") (.int 0)) (.int 114)) (by decide +kernel)
      · exact hs (Cond.eq (.elem (.field (.string "ShoeCorner$Text" 45) "java/lang/String" "value" "[B") (.int 1)) (.int 100)) (by decide +kernel)
      · exact hs (Cond.eq (.elem (.field (.string "ShoeCorner$Text" 45) "java/lang/String" "value" "[B") (.int 2)) (.int 112)) (by decide +kernel)
    · intro j hj
      have hj : j < 2 := hj
      rcases (show j = 0 ∨ j = 1 by omega) with rfl | rfl
      · exact hs (Cond.eq (.elem (.field (.string "ShoeCorner$Text" 47) "java/lang/String" "value" "[B") (.int 0)) (.int 108)) (by decide +kernel)
      · exact hs (Cond.eq (.elem (.field (.string "ShoeCorner$Text" 47) "java/lang/String" "value" "[B") (.int 1)) (.int 115)) (by decide +kernel)
    · intro j hj
      have hj : j < 2 := hj
      rcases (show j = 0 ∨ j = 1 by omega) with rfl | rfl
      · exact hs (Cond.eq (.elem (.field (.string "ShoeCorner$Text" 49) "java/lang/String" "value" "[B") (.int 0)) (.int 112)) (by decide +kernel)
      · exact hs (Cond.eq (.elem (.field (.string "ShoeCorner$Text" 49) "java/lang/String" "value" "[B") (.int 1)) (.int 100)) (by decide +kernel)
  have hlt : ∀ i j : Nat, i < j → j < 6 → (Cond.not (Cond.eq (sTm i) (sTm j))).before args s = true := by
    intro i j hij hj
    rcases (show (i = 0 ∧ j = 1) ∨ (i = 0 ∧ j = 2) ∨ (i = 0 ∧ j = 3) ∨ (i = 0 ∧ j = 4) ∨ (i = 0 ∧ j = 5) ∨ (i = 1 ∧ j = 2) ∨ (i = 1 ∧ j = 3) ∨ (i = 1 ∧ j = 4) ∨ (i = 1 ∧ j = 5) ∨ (i = 2 ∧ j = 3) ∨ (i = 2 ∧ j = 4) ∨ (i = 2 ∧ j = 5) ∨ (i = 3 ∧ j = 4) ∨ (i = 3 ∧ j = 5) ∨ (i = 4 ∧ j = 5) by omega) with ⟨rfl, rfl⟩ | ⟨rfl, rfl⟩ | ⟨rfl, rfl⟩ | ⟨rfl, rfl⟩ | ⟨rfl, rfl⟩ | ⟨rfl, rfl⟩ | ⟨rfl, rfl⟩ | ⟨rfl, rfl⟩ | ⟨rfl, rfl⟩ | ⟨rfl, rfl⟩ | ⟨rfl, rfl⟩ | ⟨rfl, rfl⟩ | ⟨rfl, rfl⟩ | ⟨rfl, rfl⟩ | ⟨rfl, rfl⟩
    · exact hs (Cond.not (Cond.eq (.string "ShoeCorner$Tape" 48) (.string "ShoeCorner$Tape" 54))) (by decide +kernel)
    · exact hs (Cond.not (Cond.eq (.string "ShoeCorner$Tape" 48) (.string "ShoeCorner$Tape" 56))) (by decide +kernel)
    · exact hs (Cond.not (Cond.eq (.string "ShoeCorner$Tape" 48) (.string "ShoeCorner$Text" 45))) (by decide +kernel)
    · exact hs (Cond.not (Cond.eq (.string "ShoeCorner$Tape" 48) (.string "ShoeCorner$Text" 47))) (by decide +kernel)
    · exact hs (Cond.not (Cond.eq (.string "ShoeCorner$Tape" 48) (.string "ShoeCorner$Text" 49))) (by decide +kernel)
    · exact hs (Cond.not (Cond.eq (.string "ShoeCorner$Tape" 54) (.string "ShoeCorner$Tape" 56))) (by decide +kernel)
    · exact hs (Cond.not (Cond.eq (.string "ShoeCorner$Tape" 54) (.string "ShoeCorner$Text" 45))) (by decide +kernel)
    · exact hs (Cond.not (Cond.eq (.string "ShoeCorner$Tape" 54) (.string "ShoeCorner$Text" 47))) (by decide +kernel)
    · exact hs (Cond.not (Cond.eq (.string "ShoeCorner$Tape" 54) (.string "ShoeCorner$Text" 49))) (by decide +kernel)
    · exact hs (Cond.not (Cond.eq (.string "ShoeCorner$Tape" 56) (.string "ShoeCorner$Text" 45))) (by decide +kernel)
    · exact hs (Cond.not (Cond.eq (.string "ShoeCorner$Tape" 56) (.string "ShoeCorner$Text" 47))) (by decide +kernel)
    · exact hs (Cond.not (Cond.eq (.string "ShoeCorner$Tape" 56) (.string "ShoeCorner$Text" 49))) (by decide +kernel)
    · exact hs (Cond.not (Cond.eq (.string "ShoeCorner$Text" 45) (.string "ShoeCorner$Text" 47))) (by decide +kernel)
    · exact hs (Cond.not (Cond.eq (.string "ShoeCorner$Text" 45) (.string "ShoeCorner$Text" 49))) (by decide +kernel)
    · exact hs (Cond.not (Cond.eq (.string "ShoeCorner$Text" 47) (.string "ShoeCorner$Text" 49))) (by decide +kernel)
  obtain ⟨adK, adV, hv, hev⟩ := vk_Sof (A := A) hN hex hco har hle hel2 (fun i j hi hj hne => by
    by_cases h : i < j
    · exact Or.inl (hlt i j h hj)
    · exact Or.inr (hlt j i (by omega) hi)) hA
  refine ⟨fun n => if n = 0 then t else if n < 7 then adK (n - 1) else adV (n - 7), hZ, hT, ?_, ⟨vk_R.of (hts _ (tw 527 (by decide +kernel))) (hev 0 (by decide)), vk_R.of (hts _ (tw 580 (by decide +kernel))) (hev 1 (by decide)), vk_R.of (hts _ (tw 581 (by decide +kernel))) (hev 2 (by decide)), vk_R.of (hts _ (tw 617 (by decide +kernel))) (hev 3 (by decide)), vk_R.of (hts _ (tw 618 (by decide +kernel))) (hev 4 (by decide)), vk_R.of (hts _ (tw 619 (by decide +kernel))) (hev 5 (by decide))⟩, va_Zof (hts _ (tw 541 (by decide +kernel))) (hts _ (tw 11 (by decide +kernel))) (va_eqt (hs _ (by decide +kernel))) hA, va_Zqof (hts _ (tw 557 (by decide +kernel))) (hts _ (tw 13 (by decide +kernel))) (hs _ (by decide +kernel)) hA⟩
  have e1 : ∀ i : Nat, i < 6 → (if 1 + i = 0 then t else if 1 + i < 7 then adK (1 + i - 1) else adV (1 + i - 7)) = adK i := fun i hi => by
    rw [if_neg (by omega), if_pos (by omega), show 1 + i - 1 = i by omega]
  have e2 : ∀ i : Nat, (if 7 + i = 0 then t else if 7 + i < 7 then adK (7 + i - 1) else adV (7 + i - 7)) = adV i := fun i => by
    rw [if_neg (by omega), if_neg (by omega), show 7 + i - 7 = i by omega]
  refine ⟨fun i hi => ?_, fun i j hi hj e => hv.2 i j hi hj ?_⟩
  · have h := hv.1 i hi
    rw [← e1 i hi, ← e2 i] at h
    exact h
  · have e : (if 1 + i = 0 then t else if 1 + i < 7 then adK (1 + i - 1) else adV (1 + i - 7)) = (if 1 + j = 0 then t else if 1 + j < 7 then adK (1 + j - 1) else adV (1 + j - 7)) := e
    rw [e1 i hi, e1 j hj] at e
    exact e
theorem G_start {s : State} {args : Array Value} (hts : ∀ w ∈ lw_tbl, w.before args s = true) (hgv : (Jvm.Cond.and given_1 narrow_1).before args s = true) : ∃ G : GT, G.1 = s.heap.size ∧ G.2.1 = s.heap ∧ GK G s := by
  obtain ⟨D, ar, h1, h2⟩ := K_start hts
  obtain ⟨ad, h3⟩ := E_start hts hgv (A := fun q => s.heap.size ≤ q) (fun a ha h => Nat.lt_irrefl _ (Nat.lt_of_lt_of_le ha h))
  exact ⟨(s.heap.size, s.heap, D, ar, ad), rfl, rfl, ⟨h1, h2⟩, h3, rfl⟩
theorem AO_start {s : State} {args : Array Value} (hts : ∀ w ∈ lw_tbl, w.before args s = true) : AOs s := ⟨va_AO.of (hts _ (tw 26 (by decide +kernel))), va_AO.of (hts _ (tw 61 (by decide +kernel))), va_AO.of (hts _ (tw 150 (by decide +kernel))), va_AO.of (hts _ (tw 152 (by decide +kernel)))⟩
