section LAWL
variable {p : Program} {l : Launch} {e : Env} {s : State} {m : MethodId} {args : Array Value} {below : List Frame} {meth : Method} {c : Code} {cells slots : Nat} {Q : State → Prop} {G : GT} {b L : Nat} {xs : Nat → Int32}
set_option maxRecDepth 100000 in
set_option maxHeartbeats 4000000 in
theorem law_loop (C : CX G p s m args meth c cL_law 4 (some .boolean) RL) (hJ : LJ G s b L xs) (hL : L ≤ 3072) (hcs : cells ≤ room_1.cells ∧ slots ≤ room_1.slots)
    (kend : ∀ (H : Heap) (locs : List Loc) (ls : Array Slot), (∀ q ∈ locs, G.1 ≤ q.base) → W p l e room_1 s m args below meth c H locs cells slots Q (F0 m 1417 ls [])) : ∀ (d i : Nat) (x : XS) (H : Heap) (locs : List Loc) (ls : Array Slot), L < i + 6 + d → i ≤ 3072 → SR G x H locs → CI x x → lv_has ls 4 (lvL G b i) → W p l e room_1 s m args below meth c H locs cells slots Q (F0 m 18 ls []) := by
  have hx := C.1
  have hb := C.2.1
  have hz : G.2.1.size = G.1 := C.2.2.2.2.2.2.2.2.2
  have head : ∀ (i : Nat) (x : XS) (H : Heap) (locs : List Loc) (ls : Array Slot), i ≤ 3072 → SR G x H locs → lv_has ls 4 (lvL G b i) → (i + 6 ≤ L → W p l e room_1 s m args below meth c H locs cells slots Q (F0 m 27 ls [])) → W p l e room_1 s m args below meth c H locs cells slots Q (F0 m 18 ls []) := by
    intro i x H locs ls hi3 hS hl kk
    refine lv_iload_n hx hb dL_law_18 rfl (lv_at hl 0 rfl) ?_
    refine lv_aload_n hx hb dL_law_19 rfl (lv_at hl 3 rfl) ?_
    refine va_slen hx hb hJ.1 (by rw [hz]; exact hJ.2) (A := AB G) (fun h => Nat.lt_irrefl _ (Nat.lt_of_lt_of_le hJ.2 h)) (hS.vaS (R := room_1) C) dL_law_20 ?_
    refine lv_bipush (v := 6) hx hb dL_law_21 (by decide) ?_
    refine lv_isub hx hb dL_law_23 ?_
    refine lv_icmp_gt (tgt := 1417) hx hb dL_law_24 (by decide) (fun _ => kend _ _ _ hS.2) (fun h => kk ?_)
    have e : (Int32.ofNat L - 6).toInt = (L : Int) - 6 := by
      rw [Int32.toInt_sub, show (Int32.ofNat L).toInt = (L : Int) from nI_toInt (by omega), show (6 : Int32).toInt = 6 from rfl, Int.bmod_eq_of_le (by omega) (by omega)]
    have h2 : ¬ (Int32.ofNat L - 6).toInt < (nI i).toInt := fun q => h (Int32.lt_iff_toInt_lt.mpr q)
    rw [e, nI_toInt (by omega)] at h2
    omega
  intro d
  induction d with
  | zero =>
    intro i x H locs ls hd hi3 hS hC hl
    exact head i x H locs ls hi3 hS hl (fun h => absurd h (by omega))
  | succ d ih =>
    intro i x H locs ls hd hi3 hS hC hl
    refine head i x H locs ls hi3 hS hl (fun hi => ?_)
    have next : ∀ (H1 : Heap) (locs1 : List Loc) (x1 : XS), SR G x1 H1 locs1 → CI x1 x1 → W p l e room_1 s m args below meth c H1 locs1 cells slots Q (F0 m 1411 ls []) := by
      intro H1 locs1 x1 hS1 hC1
      refine lv_iinc (v := nI (i + 6)) (lv' := lvL G b (i + 6)) (k := 0) hx hb dL_law_1411 hl rfl (nI_add i 6) (by decide) rfl (fun ls1 hl1 => ?_)
      refine lv_goto (tgt := 18) hx hb dL_law_1414 (by decide) ?_
      exact ih (i + 6) x1 H1 locs1 ls1 (by omega) (by omega) hS1 hC1 hl1
    refine lv_aload_n hx hb dL_law_27 rfl (lv_at hl 3 rfl) ?_
    refine lv_iload_n hx hb dL_law_28 rfl (lv_at hl 0 rfl) ?_
    refine rdS C hS hJ hl (by omega) hL dL_law_29 ?_
    refine lv_bipush (v := 63) hx hb dL_law_30 (by decide) ?_
    refine lv_iand hx hb dL_law_32 ?_
    obtain ⟨k, hk64, hv⟩ : ∃ k, k < 64 ∧ xs i &&& 63 = nI k := ⟨(xs i).toBitVec.toNat % 64, Nat.mod_lt _ (by omega), pk_and (xs i) 6 (by decide)⟩
    rcases (show k = 0 ∨ k = 1 ∨ k = 2 ∨ k = 3 ∨ k = 4 ∨ k = 5 ∨ k = 6 ∨ k = 7 ∨ k = 8 ∨ k = 9 ∨ k = 10 ∨ k = 11 ∨ k = 12 ∨ k = 13 ∨ k = 14 ∨ k = 15 ∨ k = 16 ∨ k = 17 ∨ k = 18 ∨ k = 19 ∨ k = 20 ∨ k = 21 ∨ k = 22 ∨ k = 23 ∨ k = 24 ∨ k = 25 ∨ k = 26 ∨ k = 27 ∨ k = 28 ∨ k = 29 ∨ k = 30 ∨ k = 31 ∨ k = 32 ∨ k = 33 ∨ k = 34 ∨ k = 35 ∨ k = 36 ∨ k = 37 ∨ k = 38 ∨ 39 ≤ k by omega) with rfl | rfl | rfl | rfl | rfl | rfl | rfl | rfl | rfl | rfl | rfl | rfl | rfl | rfl | rfl | rfl | rfl | rfl | rfl | rfl | rfl | rfl | rfl | rfl | rfl | rfl | rfl | rfl | rfl | rfl | rfl | rfl | rfl | rfl | rfl | rfl | rfl | rfl | rfl | hk
    · exact tswI (k := nI 0) hx hb dL_law_33 hv (by decide) rfl (by decide) (lc_0 C hS hJ hl hi hL hcs hC next)
    · exact tswI (k := nI 1) hx hb dL_law_33 hv (by decide) rfl (by decide) (lc_1 C hS hJ hl hi hL hcs hC next)
    · exact tswI (k := nI 2) hx hb dL_law_33 hv (by decide) rfl (by decide) (lc_2 C hS hJ hl hi hL hcs hC next)
    · exact tswI (k := nI 3) hx hb dL_law_33 hv (by decide) rfl (by decide) (lc_3 C hS hJ hl hi hL hcs hC next)
    · exact tswI (k := nI 4) hx hb dL_law_33 hv (by decide) rfl (by decide) (lc_4 C hS hJ hl hi hL hcs hC next)
    · exact tswI (k := nI 5) hx hb dL_law_33 hv (by decide) rfl (by decide) (lc_5 C hS hJ hl hi hL hcs hC next)
    · exact tswI (k := nI 6) hx hb dL_law_33 hv (by decide) rfl (by decide) (lc_6 C hS hJ hl hi hL hcs hC next)
    · exact tswI (k := nI 7) hx hb dL_law_33 hv (by decide) rfl (by decide) (lc_7 C hS hJ hl hi hL hcs hC next)
    · exact tswI (k := nI 8) hx hb dL_law_33 hv (by decide) rfl (by decide) (lc_8 C hS hJ hl hi hL hcs hC next)
    · exact tswI (k := nI 9) hx hb dL_law_33 hv (by decide) rfl (by decide) (lc_9 C hS hJ hl hi hL hcs hC next)
    · exact tswI (k := nI 10) hx hb dL_law_33 hv (by decide) rfl (by decide) (lc_10 C hS hJ hl hi hL hcs hC next)
    · exact tswI (k := nI 11) hx hb dL_law_33 hv (by decide) rfl (by decide) (lc_11 C hS hJ hl hi hL hcs hC next)
    · exact tswI (k := nI 12) hx hb dL_law_33 hv (by decide) rfl (by decide) (lc_12 C hS hJ hl hi hL hcs hC next)
    · exact tswI (k := nI 13) hx hb dL_law_33 hv (by decide) rfl (by decide) (lc_13 C hS hJ hl hi hL hcs hC next)
    · exact tswI (k := nI 14) hx hb dL_law_33 hv (by decide) rfl (by decide) (lc_14 C hS hJ hl hi hL hcs hC next)
    · exact tswI (k := nI 15) hx hb dL_law_33 hv (by decide) rfl (by decide) (lc_15 C hS hJ hl hi hL hcs hC next)
    · exact tswI (k := nI 16) hx hb dL_law_33 hv (by decide) rfl (by decide) (lc_16 C hS hJ hl hi hL hcs hC next)
    · exact tswI (k := nI 17) hx hb dL_law_33 hv (by decide) rfl (by decide) (lc_17 C hS hJ hl hi hL hcs hC next)
    · exact tswI (k := nI 18) hx hb dL_law_33 hv (by decide) rfl (by decide) (lc_18 C hS hJ hl hi hL hcs hC next)
    · exact tswI (k := nI 19) hx hb dL_law_33 hv (by decide) rfl (by decide) (lc_19 C hS hJ hl hi hL hcs hC next)
    · exact tswI (k := nI 20) hx hb dL_law_33 hv (by decide) rfl (by decide) (lc_20 C hS hJ hl hi hL hcs hC next)
    · exact tswI (k := nI 21) hx hb dL_law_33 hv (by decide) rfl (by decide) (lc_21 C hS hJ hl hi hL hcs hC next)
    · exact tswI (k := nI 22) hx hb dL_law_33 hv (by decide) rfl (by decide) (lc_22 C hS hJ hl hi hL hcs hC next)
    · exact tswI (k := nI 23) hx hb dL_law_33 hv (by decide) rfl (by decide) (lc_23 C hS hJ hl hi hL hcs hC next)
    · exact tswI (k := nI 24) hx hb dL_law_33 hv (by decide) rfl (by decide) (lc_24 C hS hJ hl hi hL hcs hC next)
    · exact tswI (k := nI 25) hx hb dL_law_33 hv (by decide) rfl (by decide) (lc_25 C hS hJ hl hi hL hcs hC next)
    · exact tswI (k := nI 26) hx hb dL_law_33 hv (by decide) rfl (by decide) (lc_26 C hS hJ hl hi hL hcs hC next)
    · exact tswI (k := nI 27) hx hb dL_law_33 hv (by decide) rfl (by decide) (lc_27 C hS hJ hl hi hL hcs hC next)
    · exact tswI (k := nI 28) hx hb dL_law_33 hv (by decide) rfl (by decide) (lc_28 C hS hJ hl hi hL hcs hC next)
    · exact tswI (k := nI 29) hx hb dL_law_33 hv (by decide) rfl (by decide) (lc_29 C hS hJ hl hi hL hcs hC next)
    · exact tswI (k := nI 30) hx hb dL_law_33 hv (by decide) rfl (by decide) (lc_30 C hS hJ hl hi hL hcs hC next)
    · exact tswI (k := nI 31) hx hb dL_law_33 hv (by decide) rfl (by decide) (lc_31 C hS hJ hl hi hL hcs hC next)
    · exact tswI (k := nI 32) hx hb dL_law_33 hv (by decide) rfl (by decide) (lc_32 C hS hJ hl hi hL hcs hC next)
    · exact tswI (k := nI 33) hx hb dL_law_33 hv (by decide) rfl (by decide) (lc_33 C hS hJ hl hi hL hcs hC next)
    · exact tswI (k := nI 34) hx hb dL_law_33 hv (by decide) rfl (by decide) (lc_34 C hS hJ hl hi hL hcs hC next)
    · exact tswI (k := nI 35) hx hb dL_law_33 hv (by decide) rfl (by decide) (lc_35 C hS hJ hl hi hL hcs hC next)
    · exact tswI (k := nI 36) hx hb dL_law_33 hv (by decide) rfl (by decide) (lc_36 C hS hJ hl hi hL hcs hC next)
    · exact tswI (k := nI 37) hx hb dL_law_33 hv (by decide) rfl (by decide) (lc_37 C hS hJ hl hi hL hcs hC next)
    · exact tswI (k := nI 38) hx hb dL_law_33 hv (by decide) rfl (by decide) (lc_38 C hS hJ hl hi hL hcs hC next)
    · refine lv_tableOut (tgt := 1411) hx hb dL_law_33 (Or.inr ?_) (by decide) (next _ _ _ hS hC)
      rw [hv, nI_toInt (by omega)]
      omega
end LAWL
