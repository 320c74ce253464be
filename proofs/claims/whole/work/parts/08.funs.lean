def fJ0_checkIndex_df160 (v0 : Int32) (v1 : Int32) (x : XS) : Option (Unit × XS) := gd (decide (¬ v0 < 0 ∧ v0 < v1)) (some ((), x))
def fJ0_coder_7d493 (a0 : Nat) (x : XS) : Option (Int32 × XS) :=
  (if (1 : Int32) = 0 then (gd (decide (ji2b 1 = 1)) (some (1, x))) else (gd (decide (ji2b 0 = 0)) (some (0, x))))
def fJ0_length_8abf5 (a0 : Nat) (x : XS) : Option (Int32 × XS) :=
  (bd (fJ0_coder_7d493 a0 x) (fun r_1 x_2 => (st_ (jshr (nI (slen.getD a0 0)) r_1) (fun v_3 => (some (v_3, x_2))))))
def fJ0_isLatin1_aae02 (a0 : Nat) (x : XS) : Option (Int32 × XS) :=
  (if (1 : Int32) = 0 then (some (0, x)) else (if (0 : Int32) = 0 then (some (1, x)) else (some (0, x))))
def fJ1_charAt_3b067 (v0 : Nat) (v1 : Int32) (x : XS) : Option (Int32 × XS) :=
  (bd (fJ0_checkIndex_df160 v1 (nI (slen.getD v0 0)) x) (fun _ x_2 => (gd (inb v1 (slen.getD v0 0)) (st_ (ji2c (((sbyt.getD v0 []).getD (ix v1) 0) &&& 255)) (fun v_4 => (gd (decide (ji2c v_4 = v_4)) (some (v_4, x_2))))))))
def fJ0_charAt_5068e (a0 : Nat) (v1 : Int32) (x : XS) : Option (Int32 × XS) :=
  (bd (fJ0_isLatin1_aae02 a0 x) (fun r_1 x_2 => (if r_1 = 0 then none else (bd (fJ1_charAt_3b067 a0 v1 x_2) (fun r_4 x_5 => (gd (decide (ji2c r_4 = r_4)) (some (r_4, x_5))))))))
def fJ1_canEncode_9a6ad (v0 : Int32) (x : XS) : Option (Int32 × XS) :=
  (if v0 < 0 then (some (0, x)) else (if 255 < v0 then (some (0, x)) else (some (1, x))))
def bJ1_indexOfChar_4cfef_h7 (v0 : Nat) (k7 : Int32 → Int32 → Int32 → XS → Option (Int32 × XS)) (u3 : Int32) (u4 : Int32) (u5 : Int32) (x : XS) : Option (Int32 × XS) :=
  (if u3 ≤ u5 then (some ((-1), x)) else (gd (inb u5 (slen.getD v0 0)) (if ((sbyt.getD v0 []).getD (ix u5) 0) = u4 then (some (u5, x)) else (st_ (u5 + 1) (fun v_5 => (k7 u3 u4 v_5 x))))))
def lJ1_indexOfChar_4cfef_h7 (v0 : Nat) (n : Nat) : Int32 → Int32 → Int32 → XS → Option (Int32 × XS) := lp (bJ1_indexOfChar_4cfef_h7 v0) (fun _ _ _ _ => none) n
def fJ1_indexOfChar_4cfef_h7 (v0 : Nat) : Int32 → Int32 → Int32 → XS → Option (Int32 × XS) := lJ1_indexOfChar_4cfef_h7 v0 FU
def fJ1_indexOfChar_4cfef (v0 : Nat) (v1 : Int32) (v2 : Int32) (v3 : Int32) (x : XS) : Option (Int32 × XS) :=
  (st_ (ji2b v1) (fun v_1 => (fJ1_indexOfChar_4cfef_h7 v0 v3 v_1 v2 x)))
def fJ1_indexOf_4cfef (v0 : Nat) (v1 : Int32) (v2 : Int32) (v3 : Int32) (x : XS) : Option (Int32 × XS) :=
  (bd (fJ1_canEncode_9a6ad v1 x) (fun r_1 x_2 => (if r_1 = 0 then (some ((-1), x_2)) else (st_ (jmax v2 0) (fun v_4 => (st_ (jmin v3 (nI (slen.getD v0 0))) (fun v_5 => (if v_4 < v_5 then (bd (fJ1_indexOfChar_4cfef v0 v1 v_4 v_5 x_2) (fun r_7 x_8 => (some (r_7, x_8)))) else (some ((-1), x_2))))))))))
def fJ0_indexOf_7cf53 (a0 : Nat) (v1 : Int32) (v2 : Int32) (x : XS) : Option (Int32 × XS) :=
  (bd (fJ0_isLatin1_aae02 a0 x) (fun r_1 x_2 => (if r_1 = 0 then (bd (fJ0_length_8abf5 a0 x_2) (fun r_4 x_5 => none)) else (bd (fJ0_length_8abf5 a0 x_2) (fun r_6 x_7 => (bd (fJ1_indexOf_4cfef a0 v1 v2 r_6 x_7) (fun r_8 x_9 => (some (r_8, x_9)))))))))
def fJ0_indexOf_0f7a4 (a0 : Nat) (v1 : Int32) (x : XS) : Option (Int32 × XS) :=
  (bd (fJ0_indexOf_7cf53 a0 v1 0 x) (fun r_1 x_2 => (some (r_1, x_2))))
def fX0_mayBe (v0 : Int32) (v1 : Int32) (x : XS) : Option (Int32 × XS) :=
  (if v0 = 1 then (if v1 < 0 then (some (0, x)) else (if 10 ≤ v1 then (some (0, x)) else (some (1, x)))) else (if v0 = 2 then (if v1 < 1 then (some (0, x)) else (if 99 < v1 then (some (0, x)) else (some (1, x)))) else (if v0 = 3 then (if v1 < 1 then (some (0, x)) else (if 20 < v1 then (some (0, x)) else (some (1, x)))) else (some (0, x)))))
def fX0_change (a0 : Nat) (v1 : Int32) (v2 : Int32) (x : XS) : Option (Unit × XS) :=
  (if v1 = 1 then (st_ (wr x a0 1 v2) (fun x_6 => (some ((), x_6)))) else (if v1 = 2 then (st_ (wr x a0 2 v2) (fun x_5 => (some ((), x_5)))) else (if v1 = 3 then (st_ (wr x a0 3 v2) (fun x_4 => (some ((), x_4)))) else (some ((), x)))))
def fX0_become (a0 : Nat) (a1 : Nat) (x : XS) : Option (Unit × XS) :=
  (st_ (wr x a0 0 (x a1 0)) (fun x_1 => (st_ (wr x_1 a0 1 (x_1 a1 1)) (fun x_2 => (st_ (wr x_2 a0 2 (x_2 a1 2)) (fun x_3 => (st_ (wr x_3 a0 3 (x_3 a1 3)) (fun x_4 => (st_ (wr x_4 a0 4 (x_4 a1 4)) (fun x_5 => (st_ (wr x_5 a0 5 (x_5 a1 5)) (fun x_6 => (st_ (wr x_6 a0 6 (x_6 a1 6)) (fun x_7 => (some ((), x_7))))))))))))))))
def fX0_start (a0 : Nat) (v1 : Int32) (v2 : Int32) (v3 : Int32) (v4 : Int32) (x : XS) : Option (Unit × XS) :=
  (st_ (wr x a0 0 v1) (fun x_1 => (st_ (wr x_1 a0 1 v2) (fun x_2 => (st_ (wr x_2 a0 2 v3) (fun x_3 => (st_ (wr x_3 a0 3 v4) (fun x_4 => (st_ (wr x_4 a0 4 0) (fun x_5 => (st_ (wr x_5 a0 5 0) (fun x_6 => (st_ (wr x_6 a0 6 0) (fun x_7 => (some ((), x_7))))))))))))))))
def fX1_takes (v0 : Int32) (v1 : Int32) (x : XS) : Option (Int32 × XS) :=
  (if v0 = 1 then (st_ (jdiv v1 4) (fun v_2 => (some ((1 + v_2), x)))) else (if v0 = 2 then (st_ (jdiv v1 2) (fun v_4 => (some (((1 + v_4) + 2), x)))) else (if v0 = 3 then (st_ (jdiv v1 6) (fun v_6 => (some ((1 + v_6), x)))) else (if v0 = 4 then (st_ (jdiv v1 2) (fun v_8 => (some (((1 + v_8) + 2), x)))) else (st_ (jdiv v1 2) (fun v_9 => (some ((1 + v_9), x))))))))
def fX1_asks (v0 : Int32) (v1 : Int32) (x : XS) : Option (Int32 × XS) :=
  (if v0 = 2 then (some ((v1 + 3), x)) else (if v0 = 3 then (some (v1, x)) else (if v0 = 4 then (some ((2 * (v1 + 3)), x)) else (if v0 = 5 then (st_ (jmax 1 (v1 - 2)) (fun v_5 => (some (v_5, x)))) else (some (v1, x))))))
def fX1_worth (v0 : Int32) (v1 : Int32) (x : XS) : Option (Int32 × XS) :=
  (if v0 = 1 then (some ((v1 + 8), x)) else (if v0 = 2 then (some ((99 - v1), x)) else (if v0 = 3 then (some ((2 * (v1 + 8)), x)) else (if v0 = 4 then (some (((99 - v1) - 5), x)) else (if v0 = 5 then (some (2, x)) else (some (v1, x)))))))
def fX0_fact (a0 : Nat) (v1 : Int32) (x : XS) : Option (Int32 × XS) :=
  (if v1 = 0 then (some ((x a0 0), x)) else (if v1 = 1 then (some ((x a0 1), x)) else (if v1 = 2 then (some ((x a0 2), x)) else (if v1 = 3 then (some ((x a0 3), x)) else (if v1 = 4 then (some ((x a0 4), x)) else (if v1 = 5 then (some ((x a0 5), x)) else (if v1 = 6 then (some ((x a0 6), x)) else (if v1 = 7 then (bd (fX1_takes (x a0 0) (x a0 3) x) (fun r_9 x_10 => (some (r_9, x_10)))) else (if v1 = 8 then (bd (fX1_asks (x a0 0) (x a0 2) x) (fun r_12 x_13 => (some (r_12, x_13)))) else (bd (fX1_worth (x a0 0) (x a0 2) x) (fun r_14 x_15 => (some (r_14, x_15)))))))))))))
def bX1_isUnder_h4 (k4 : Int32 → Int32 → Int32 → XS → Option (Int32 × XS)) (u1 : Int32) (u2 : Int32) (u3 : Int32) (x : XS) : Option (Int32 × XS) :=
  (if 6 ≤ u3 then (some (0, x)) else (if u2 < 0 then (some (0, x)) else (if 6 ≤ u2 then (some (0, x)) else (if u2 = u1 then (some (1, x)) else (gd (inb u2 6) (st_ ((sAbove.getD (ix u2) 0)) (fun v_6 => (st_ (u3 + 1) (fun v_7 => (k4 u1 v_6 v_7 x))))))))))
def lX1_isUnder_h4 (n : Nat) : Int32 → Int32 → Int32 → XS → Option (Int32 × XS) := lp (bX1_isUnder_h4) (fun _ _ _ _ => none) n
def fX1_isUnder_h4 : Int32 → Int32 → Int32 → XS → Option (Int32 × XS) := lX1_isUnder_h4  FU
def fX1_isUnder (v0 : Int32) (v1 : Int32) (x : XS) : Option (Int32 × XS) :=
  (fX1_isUnder_h4 v1 v0 0 x)
def fX1_shineFrom (v0 : Int32) (v1 : Int32) (v2 : Int32) (x : XS) : Option (Int32 × XS) :=
  (if v0 = 1 then (st_ (jmax 0 (v2 - 5)) (fun v_2 => (some (v_2, x)))) else (if v0 = 2 then (some ((v2 + 10), x)) else (if v0 = 3 then (st_ (jmax 0 (v2 - 5)) (fun v_5 => (some (v_5, x)))) else (if v0 = 4 then (if v1 ≤ 12 then (some ((v2 + 10), x)) else (st_ (jdiv (v2 + 10) 2) (fun v_8 => (some (v_8, x))))) else (some (v2, x))))))
def bX2_renew_h24 (a0 : Nat) (k24 : Int32 → XS → Option (Unit × XS)) (u3 : Int32) (x : XS) : Option (Unit × XS) :=
  (if 24 ≤ u3 then (some ((), x)) else (gd (inb u3 24) (st_ (wr x (a0 + 1) (ix u3) 0) (fun x_7 => (st_ (u3 + 1) (fun v_8 => (k24 v_8 x_7)))))))
def lX2_renew_h24 (a0 : Nat) (n : Nat) : Int32 → XS → Option (Unit × XS) := lp (bX2_renew_h24 a0) (fun _ _ => none) n
def fX2_renew_h24 (a0 : Nat) : Int32 → XS → Option (Unit × XS) := lX2_renew_h24 a0 FU
def fX2_renew (a0 : Nat) (v1 : Int32) (v2 : Int32) (x : XS) : Option (Unit × XS) :=
  (st_ (wr x a0 0 v1) (fun x_1 => (st_ (jmin v2 24) (fun v_2 => (st_ (jmax 0 v_2) (fun v_3 => (st_ (wr x_1 a0 1 v_3) (fun x_4 => (fX2_renew_h24 a0 0 x_4)))))))))
def fX2_become (a0 : Nat) (a1 : Nat) (x : XS) : Option (Unit × XS) :=
  (st_ (wr x a0 0 (x a1 0)) (fun x_1 => (st_ (wr x_1 a0 1 (x_1 a1 1)) (fun x_2 => (gd (cpok 0 0 24 24 24) (st_ (cpx x_2 (a1 + 1) (a0 + 1) (ix 0) (ix 0) (ix 24)) (fun x_4 => (some ((), x_4)))))))))
def fX2_isMissing (a0 : Nat) (x : XS) : Option (Int32 × XS) :=
  (if (x a0 0) = (-1) then (some (1, x)) else (some (0, x)))
def fX2_hasPlace (a0 : Nat) (v1 : Int32) (x : XS) : Option (Int32 × XS) :=
  (if v1 < 0 then (some (0, x)) else (if (x a0 1) ≤ v1 then (some (0, x)) else (some (1, x))))
def fX2_hasPlaces (a0 : Nat) (v1 : Int32) (v2 : Int32) (x : XS) : Option (Int32 × XS) :=
  (if v1 < 0 then (some (0, x)) else (if v2 < 0 then (some (0, x)) else (if (x a0 1) < v1 then (some (0, x)) else (if ((x a0 1) - v1) < v2 then (some (0, x)) else (some (1, x))))))
def fX2_hasNumber (a0 : Nat) (v1 : Int32) (x : XS) : Option (Int32 × XS) :=
  (bd (fX2_hasPlace a0 v1 x) (fun r_1 x_2 => (if r_1 = 0 then (some (0, x_2)) else (gd (inb v1 24) (if (x_2 (a0 + 1) (ix v1)) = (-1000000005) then (some (0, x_2)) else (some (1, x_2)))))))
def fX3_findingFor (a0 : Nat) (v1 : Int32) (x : XS) : Option (Int32 × XS) :=
  (if (x a0 0) = 0 then (some ((-1000000011), x)) else (if (x a0 0) = v1 then (some (0, x)) else (some ((-1000000012), x))))
def bX4_become_h116 (a0 : Nat) (a1 : Nat) (k116 : Int32 → XS → Option (Unit × XS)) (u2 : Int32) (x : XS) : Option (Unit × XS) :=
  (if 3 ≤ u2 then (some ((), x)) else (gd (inb u2 3) (gd (inb u2 3) (gd (lawok (x (a1 + 2) (ix u2))) (st_ (wr x (a0 + 2) (ix u2) (x (a1 + 2) (ix u2))) (fun x_23 => (st_ (u2 + 1) (fun v_24 => (k116 v_24 x_23)))))))))
def lX4_become_h116 (a0 : Nat) (a1 : Nat) (n : Nat) : Int32 → XS → Option (Unit × XS) := lp (bX4_become_h116 a0 a1) (fun _ _ => none) n
def fX4_become_h116 (a0 : Nat) (a1 : Nat) : Int32 → XS → Option (Unit × XS) := lX4_become_h116 a0 a1 FU
def bX4_become_h79 (a0 : Nat) (a1 : Nat) (k79 : Int32 → XS → Option (Unit × XS)) (u2 : Int32) (x : XS) : Option (Unit × XS) :=
  (if (x a0 2) ≤ u2 then (fX4_become_h116 a0 a1 0 x) else (if 8 ≤ u2 then (fX4_become_h116 a0 a1 0 x) else (gd (inb u2 8) (gd (inb u2 8) (bd (fX0_become (a0 + 3 + (ix u2)) (a1 + 3 + (ix u2)) x) (fun _ x_17 => (st_ (u2 + 1) (fun v_18 => (k79 v_18 x_17)))))))))
def lX4_become_h79 (a0 : Nat) (a1 : Nat) (n : Nat) : Int32 → XS → Option (Unit × XS) := lp (bX4_become_h79 a0 a1) (fun _ _ => none) n
def fX4_become_h79 (a0 : Nat) (a1 : Nat) : Int32 → XS → Option (Unit × XS) := lX4_become_h79 a0 a1 FU
def fX4_become (a0 : Nat) (a1 : Nat) (x : XS) : Option (Unit × XS) :=
  (st_ (wr x a0 2 (x a1 2)) (fun x_1 => (st_ (wr x_1 a0 3 (x_1 a1 3)) (fun x_2 => (st_ (wr x_2 a0 4 (x_2 a1 4)) (fun x_3 => (st_ (wr x_3 a0 5 (x_3 a1 5)) (fun x_4 => (st_ (wr x_4 a0 6 (x_4 a1 6)) (fun x_5 => (st_ (wr x_5 a0 7 (x_5 a1 7)) (fun x_6 => (st_ (wr x_6 a0 8 (x_6 a1 8)) (fun x_7 => (st_ (wr x_7 a0 9 (x_7 a1 9)) (fun x_8 => (gd (isB (x_8 a1 10)) (st_ (wr x_8 a0 10 (x_8 a1 10)) (fun x_10 => (st_ (wr x_10 a0 11 (-1)) (fun x_11 => (fX4_become_h79 a0 a1 0 x_11))))))))))))))))))))))
def fX4_addBoy (a0 : Nat) (v1 : Int32) (v2 : Int32) (v3 : Int32) (v4 : Int32) (x : XS) : Option (Unit × XS) :=
  (if 8 ≤ (x a0 2) then (some ((), x)) else (gd (inb (x a0 2) 8) (bd (fX0_start (a0 + 3 + (ix (x a0 2))) v1 v2 v3 v4 x) (fun _ x_4 => (st_ (wr x_4 a0 2 ((x_4 a0 2) + 1)) (fun x_5 => (some ((), x_5))))))))
def fX4_draw (a0 : Nat) (x : XS) : Option (Int32 × XS) :=
  (st_ (wr x a0 9 (((x a0 9) * 1103515245) + 12345)) (fun x_1 => (st_ (jushr (x_1 a0 9) 8) (fun v_2 => (some (v_2, x_1))))))
def fX4_drawBoy (a0 : Nat) (x : XS) : Option (Unit × XS) :=
  (bd (fX4_draw a0 x) (fun r_1 x_2 => (st_ (jrem r_1 6) (fun v_3 => (bd (fX4_draw a0 x_2) (fun r_4 x_5 => (st_ (jrem r_4 10) (fun v_6 => (bd (fX4_draw a0 x_5) (fun r_7 x_8 => (st_ (jrem r_7 20) (fun v_9 => (st_ ((1 + v_9)) (fun v_10 => (bd (fX4_draw a0 x_8) (fun r_11 x_12 => (st_ (jrem r_11 12) (fun v_13 => (st_ ((1 + v_13)) (fun v_14 => (bd (fX4_addBoy a0 v_3 v_6 v_10 v_14 x_12) (fun _ x_16 => (some ((), x_16))))))))))))))))))))))))
def fX4_countText (a0 : Nat) (a1 : Nat) (x : XS) : Option (Unit × XS) :=
  (if (x a1 1) < 0 then (some ((), x)) else (if 3 ≤ (x a1 1) then (some ((), x)) else (gd (inb (x a1 1) 3) (st_ (wr x (a0 + 2) (ix (x a1 1)) (nI a1)) (fun x_4 => (st_ (wr x_4 a0 3 ((x_4 a0 3) + 1)) (fun x_5 => (some ((), x_5)))))))))
def fX4_law (a0 : Nat) (v1 : Int32) (x : XS) : Option (Int32 × XS) :=
  (if v1 < 0 then (some (0, x)) else (if 3 ≤ v1 then (some (0, x)) else (gd (inb v1 3) (some ((x (a0 + 2) (ix v1)), x)))))
def fX4_bareShine (v0 : Int32) (v1 : Int32) (x : XS) : Option (Int32 × XS) :=
  (st_ ((1 + v0)) (fun v_1 => (if 1 ≤ v_1 then (gd (decide (¬ v_1 = 0)) (st_ (jdiv 60 v_1) (fun v_4 => (some (((100 - v_4) - (3 * v1)), x))))) else (some (0, x)))))
def fX6_joined (v0 : Int32) (v1 : Int32) (v2 : Int32) (x : XS) : Option (Int32 × XS) :=
  (if v0 = 38 then (if v1 = 0 then (some (0, x)) else (if v2 = 0 then (some (0, x)) else (some (1, x)))) else (if v0 = 42 then (some ((v1 * v2), x)) else (if v0 = 43 then (some ((v1 + v2), x)) else (if v0 = 45 then (some ((v1 - v2), x)) else (if v0 = 60 then (if v2 ≤ v1 then (some (0, x)) else (some (1, x))) else (if v0 = 61 then (if v1 = v2 then (some (1, x)) else (some (0, x))) else (if v0 = 62 then (if v1 ≤ v2 then (some (0, x)) else (some (1, x))) else (if v0 = 124 then (if v1 = 0 then (if v2 = 0 then (some (0, x)) else (some (1, x))) else (some (1, x))) else (if v2 = 0 then (some (0, x)) else (gd (decide (¬ v2 = 0)) (st_ (jdiv v1 v2) (fun v_18 => (some (v_18, x))))))))))))))
def fX6_value_h175 (a0 : Nat) (k6 : Int32 → Int32 → Int32 → Int32 → Int32 → XS → Option (Int32 × XS)) (u1 : Int32) (u2 : Int32) (u3 : Int32) (u4 : Int32) (u5 : Int32) (x : XS) : Option (Int32 × XS) :=
  (st_ (u5 + 1) (fun v_39 => (k6 u1 u2 u3 u4 v_39 x)))
def bX6_value_h6 (a0 : Nat) (k6 : Int32 → Int32 → Int32 → Int32 → Int32 → XS → Option (Int32 × XS)) (u1 : Int32) (u2 : Int32) (u3 : Int32) (u4 : Int32) (u5 : Int32) (x : XS) : Option (Int32 × XS) :=
  (if (x a0 3) ≤ u5 then (if u4 ≤ 0 then (some (0, x)) else (gd (inb 0 96) (some ((x 40 (ix 0)), x)))) else (gd (inb u5 96) (st_ ((x (a0 + 1) (ix u5))) (fun v_5 => (if v_5 = 10033 then (if u4 < 1 then (fX6_value_h175 a0 k6 u1 u2 u3 u4 u5 x) else (gd (inb (u4 - 1) 96) (if (x 40 (ix (u4 - 1))) = 0 then (gd (inb (u4 - 1) 96) (st_ (wr x 40 (ix (u4 - 1)) 1) (fun x_38 => (fX6_value_h175 a0 k6 u1 u2 u3 u4 u5 x_38)))) else (gd (inb (u4 - 1) 96) (st_ (wr x 40 (ix (u4 - 1)) 0) (fun x_36 => (fX6_value_h175 a0 k6 u1 u2 u3 u4 u5 x_36))))))) else (if v_5 < 10000 then (if 96 ≤ u4 then (fX6_value_h175 a0 k6 u1 u2 u3 u4 u5 x) else (if v_5 < 0 then (if v_5 = (-1) then (gd (inb u4 96) (st_ (wr x 40 (ix u4) u1) (fun x_19 => (st_ (u4 + 1) (fun v_20 => (fX6_value_h175 a0 k6 u1 u2 u3 v_20 u5 x_19)))))) else (if v_5 = (-2) then (gd (inb u4 96) (st_ (wr x 40 (ix u4) u2) (fun x_16 => (st_ (u4 + 1) (fun v_17 => (fX6_value_h175 a0 k6 u1 u2 u3 v_17 u5 x_16)))))) else (gd (inb u4 96) (st_ (wr x 40 (ix u4) u3) (fun x_13 => (st_ (u4 + 1) (fun v_14 => (fX6_value_h175 a0 k6 u1 u2 u3 v_14 u5 x_13)))))))) else (gd (inb u4 96) (st_ (wr x 40 (ix u4) v_5) (fun x_22 => (st_ (u4 + 1) (fun v_23 => (fX6_value_h175 a0 k6 u1 u2 u3 v_23 u5 x_22)))))))) else (if u4 < 2 then (fX6_value_h175 a0 k6 u1 u2 u3 u4 u5 x) else (gd (inb (u4 - 2) 96) (gd (inb (u4 - 1) 96) (bd (fX6_joined (v_5 - 10000) (x 40 (ix (u4 - 2))) (x 40 (ix (u4 - 1))) x) (fun r_27 x_28 => (gd (inb (u4 - 2) 96) (st_ (wr x_28 40 (ix (u4 - 2)) r_27) (fun x_30 => (st_ (u4 + (-1)) (fun v_31 => (fX6_value_h175 a0 k6 u1 u2 u3 v_31 u5 x_30)))))))))))))))))
def lX6_value_h6 (a0 : Nat) (n : Nat) : Int32 → Int32 → Int32 → Int32 → Int32 → XS → Option (Int32 × XS) := lp (bX6_value_h6 a0) (fun _ _ _ _ _ _ => none) n
def fX6_value_h6 (a0 : Nat) : Int32 → Int32 → Int32 → Int32 → Int32 → XS → Option (Int32 × XS) := lX6_value_h6 a0 FU
def fX6_value (a0 : Nat) (v1 : Int32) (v2 : Int32) (v3 : Int32) (x : XS) : Option (Int32 × XS) :=
  (fX6_value_h6 a0 v1 v2 v3 0 0 x)
def fX4_shineOf_h67 (a0 : Nat) (a1 : Nat) (u2 : Int32) (s0 : Int32) (x : XS) : Option (Int32 × XS) :=
  (st_ (jmin 999 s0) (fun v_10 => (st_ (jmax 0 v_10) (fun v_11 => (bd (fX1_shineFrom (x a1 0) u2 v_11 x) (fun r_12 x_13 => (some (r_12, x_13))))))))
def fX4_shineOf_h30 (a0 : Nat) (a1 : Nat) (u2 : Int32) (u4 : Int32) (s0 : Int32) (x : XS) : Option (Int32 × XS) :=
  (bd (fX4_law a0 0 x) (fun r_3 x_4 => (if r_3 = 0 then (bd (fX4_bareShine u4 s0 x_4) (fun r_8 x_9 => (fX4_shineOf_h67 a0 a1 u2 r_8 x_9))) else (gd (decide (tg (ix r_3) = 5)) (bd (fX6_value (ix r_3) u4 s0 (x_4 a1 1) x_4) (fun r_6 x_7 => (fX4_shineOf_h67 a0 a1 u2 r_6 x_7)))))))
def fX4_shineOf_h15 (a0 : Nat) (a1 : Nat) (u2 : Int32) (u3 : Int32) (s0 : Int32) (x : XS) : Option (Int32 × XS) :=
  (if (x a1 0) = 5 then (fX4_shineOf_h30 a0 a1 u2 s0 0 x) else (fX4_shineOf_h30 a0 a1 u2 s0 u3 x))
def fX4_shineOf (a0 : Nat) (a1 : Nat) (v2 : Int32) (v3 : Int32) (x : XS) : Option (Int32 × XS) :=
  (if (x a1 0) = 3 then (fX4_shineOf_h15 a0 a1 v2 v3 (2 * v2) x) else (fX4_shineOf_h15 a0 a1 v2 v3 v2 x))
def fX4_chosenBoy_h107 (a0 : Nat) (k8 : Int32 → Int32 → Int32 → Int32 → Int32 → XS → Option (Int32 × XS)) (u1 : Int32) (u2 : Int32) (u3 : Int32) (u4 : Int32) (u5 : Int32) (x : XS) : Option (Int32 × XS) :=
  (st_ (u5 + 1) (fun v_14 => (k8 u1 u2 u3 u4 v_14 x)))
def bX4_chosenBoy_h8 (a0 : Nat) (k8 : Int32 → Int32 → Int32 → Int32 → Int32 → XS → Option (Int32 × XS)) (u1 : Int32) (u2 : Int32) (u3 : Int32) (u4 : Int32) (u5 : Int32) (x : XS) : Option (Int32 × XS) :=
  (if (x a0 2) ≤ u5 then (some (u3, x)) else (gd (inb u5 8) (if u5 = (x a0 11) then (fX4_chosenBoy_h107 a0 k8 u1 u2 u3 u4 u5 x) else (if 0 < (x (a0 + 3 + (ix u5)) 5) then (fX4_chosenBoy_h107 a0 k8 u1 u2 u3 u4 u5 x) else (bd (fX1_takes (x (a0 + 3 + (ix u5)) 0) (x (a0 + 3 + (ix u5)) 3) x) (fun r_5 x_6 => (if r_5 ≤ u2 then (bd (fX1_asks (x_6 (a0 + 3 + (ix u5)) 0) (x_6 (a0 + 3 + (ix u5)) 2) x_6) (fun r_8 x_9 => (st_ (jabs ((x_9 (a0 + 3 + (ix u5)) 1) - u1)) (fun v_10 => (st_ ((r_8 + v_10)) (fun v_11 => (if u3 < 0 then (fX4_chosenBoy_h107 a0 k8 u1 u2 u5 v_11 u5 x_9) else (if u4 ≤ v_11 then (fX4_chosenBoy_h107 a0 k8 u1 u2 u3 u4 u5 x_9) else (fX4_chosenBoy_h107 a0 k8 u1 u2 u5 v_11 u5 x_9))))))))) else (fX4_chosenBoy_h107 a0 k8 u1 u2 u3 u4 u5 x_6))))))))
def lX4_chosenBoy_h8 (a0 : Nat) (n : Nat) : Int32 → Int32 → Int32 → Int32 → Int32 → XS → Option (Int32 × XS) := lp (bX4_chosenBoy_h8 a0) (fun _ _ _ _ _ _ => none) n
def fX4_chosenBoy_h8 (a0 : Nat) : Int32 → Int32 → Int32 → Int32 → Int32 → XS → Option (Int32 × XS) := lX4_chosenBoy_h8 a0 FU
def fX4_chosenBoy (a0 : Nat) (v1 : Int32) (v2 : Int32) (x : XS) : Option (Int32 × XS) :=
  (fX4_chosenBoy_h8 a0 v1 v2 (-1) 0 0 x)
def fX4_paidTo (a0 : Nat) (v1 : Int32) (x : XS) : Option (Int32 × XS) :=
  (if 30 ≤ v1 then (bd (fX1_asks (x a0 0) (x a0 2) x) (fun r_2 x_3 => (if v1 < 90 then (some (r_2, x_3)) else (some ((r_2 + 1), x_3))))) else (some (0, x)))
def fX4_receiveMan (a0 : Nat) (x : XS) : Option (Int32 × XS) :=
  (bd (fX4_draw a0 x) (fun r_1 x_2 => (st_ (jrem r_1 10) (fun v_3 => (bd (fX4_draw a0 x_2) (fun r_4 x_5 => (st_ (jrem r_4 10) (fun v_6 => (bd (fX4_draw a0 x_5) (fun r_7 x_8 => (st_ (jrem r_7 9) (fun v_9 => (st_ ((1 + v_9)) (fun v_10 => (bd (fX4_chosenBoy a0 v_3 v_10 x_8) (fun r_11 x_12 => (if 0 ≤ r_11 then (gd (inb r_11 8) (bd (fX1_takes (x_12 (a0 + 3 + (ix r_11)) 0) (x_12 (a0 + 3 + (ix r_11)) 3) x_12) (fun r_15 x_16 => (st_ (wr x_16 (a0 + 3 + (ix r_11)) 5 r_15) (fun x_17 => (st_ (wr x_17 (a0 + 3 + (ix r_11)) 6 ((x_17 (a0 + 3 + (ix r_11)) 6) + 1)) (fun x_18 => (bd (fX4_shineOf a0 (a0 + 3 + (ix r_11)) (x_18 (a0 + 3 + (ix r_11)) 3) v_6 x_18) (fun r_19 x_20 => (bd (fX4_paidTo (a0 + 3 + (ix r_11)) r_19 x_20) (fun r_21 x_22 => (st_ (jdiv (r_21 * (x_22 a0 4)) 100) (fun v_23 => (st_ (wr x_22 a0 5 ((x_22 a0 5) + v_23)) (fun x_24 => (st_ (wr x_24 (a0 + 3 + (ix r_11)) 4 ((x_24 (a0 + 3 + (ix r_11)) 4) + (r_21 - v_23))) (fun x_25 => (some (1, x_25))))))))))))))))))) else (st_ (wr x_12 a0 7 ((x_12 a0 7) + 1)) (fun x_26 => (some (0, x_26)))))))))))))))))))))
def bX4_passMinute_h109 (a0 : Nat) (k109 : Int32 → Int32 → Int32 → XS → Option (Int32 × XS)) (u2 : Int32) (u3 : Int32) (u4 : Int32) (x : XS) : Option (Int32 × XS) :=
  (if u2 ≤ u4 then (st_ (wr x a0 8 ((x a0 8) + 1)) (fun x_23 => (some (u3, x_23)))) else (bd (fX4_receiveMan a0 x) (fun r_24 x_25 => (st_ ((u3 + r_24)) (fun v_26 => (st_ (u4 + 1) (fun v_27 => (k109 u2 v_26 v_27 x_25))))))))
def lX4_passMinute_h109 (a0 : Nat) (n : Nat) : Int32 → Int32 → Int32 → XS → Option (Int32 × XS) := lp (bX4_passMinute_h109 a0) (fun _ _ _ _ => none) n
def fX4_passMinute_h109 (a0 : Nat) : Int32 → Int32 → Int32 → XS → Option (Int32 × XS) := lX4_passMinute_h109 a0 FU
def fX4_passMinute_h104 (a0 : Nat) (u2 : Int32) (x : XS) : Option (Int32 × XS) :=
  (fX4_passMinute_h109 a0 u2 0 0 x)
def fX4_passMinute_h78 (a0 : Nat) (u1 : Int32) (x : XS) : Option (Int32 × XS) :=
  (bd (fX4_draw a0 x) (fun r_16 x_17 => (st_ (jrem r_16 3) (fun v_18 => (if (x_17 a0 10) = 0 then (if u1 = 0 then (fX4_passMinute_h104 a0 v_18 x_17) else (st_ (v_18 + 2) (fun v_21 => (fX4_passMinute_h104 a0 v_21 x_17)))) else (fX4_passMinute_h104 a0 0 x_17))))))
def bX4_passMinute_h2 (a0 : Nat) (k2 : Int32 → XS → Option (Int32 × XS)) (u1 : Int32) (x : XS) : Option (Int32 × XS) :=
  (if (x a0 2) ≤ u1 then (st_ ((x a0 10)) (fun v_2 => (bd (fX4_draw a0 x) (fun r_3 x_4 => (st_ (jrem r_3 100) (fun v_5 => (if (x_4 a0 6) ≤ v_5 then (fX4_passMinute_h78 a0 v_2 x_4) else (if (x_4 a0 10) = 0 then (st_ (wr x_4 a0 10 1) (fun x_9 => (fX4_passMinute_h78 a0 v_2 x_9))) else (st_ (wr x_4 a0 10 0) (fun x_8 => (fX4_passMinute_h78 a0 v_2 x_8))))))))))) else (gd (inb u1 8) (if (x (a0 + 3 + (ix u1)) 5) ≤ 0 then (st_ (u1 + 1) (fun v_12 => (k2 v_12 x))) else (gd (inb u1 8) (st_ (wr x (a0 + 3 + (ix u1)) 5 ((x (a0 + 3 + (ix u1)) 5) - 1)) (fun x_14 => (st_ (u1 + 1) (fun v_15 => (k2 v_15 x_14)))))))))
def lX4_passMinute_h2 (a0 : Nat) (n : Nat) : Int32 → XS → Option (Int32 × XS) := lp (bX4_passMinute_h2 a0) (fun _ _ => none) n
def fX4_passMinute_h2 (a0 : Nat) : Int32 → XS → Option (Int32 × XS) := lX4_passMinute_h2 a0 FU
def fX4_passMinute (a0 : Nat) (x : XS) : Option (Int32 × XS) :=
  (fX4_passMinute_h2 a0 0 x)
def bX4_passMinutes_h4 (a0 : Nat) (k4 : Int32 → Int32 → Int32 → XS → Option (Int32 × XS)) (u1 : Int32) (u2 : Int32) (u3 : Int32) (x : XS) : Option (Int32 × XS) :=
  (if u1 ≤ u3 then (some (u2, x)) else (bd (fX4_passMinute a0 x) (fun r_2 x_3 => (st_ ((u2 + r_2)) (fun v_4 => (st_ (u3 + 1) (fun v_5 => (k4 u1 v_4 v_5 x_3))))))))
def lX4_passMinutes_h4 (a0 : Nat) (n : Nat) : Int32 → Int32 → Int32 → XS → Option (Int32 × XS) := lp (bX4_passMinutes_h4 a0) (fun _ _ _ _ => none) n
def fX4_passMinutes_h4 (a0 : Nat) : Int32 → Int32 → Int32 → XS → Option (Int32 × XS) := lX4_passMinutes_h4 a0 FU
def fX4_passMinutes (a0 : Nat) (v1 : Int32) (x : XS) : Option (Int32 × XS) :=
  (fX4_passMinutes_h4 a0 v1 0 0 x)
def bX4_purses_h4 (a0 : Nat) (k4 : Int32 → Int32 → XS → Option (Int32 × XS)) (u1 : Int32) (u2 : Int32) (x : XS) : Option (Int32 × XS) :=
  (if (x a0 2) ≤ u2 then (some (u1, x)) else (gd (inb u2 8) (st_ ((u1 + (x (a0 + 3 + (ix u2)) 4))) (fun v_3 => (st_ (u2 + 1) (fun v_4 => (k4 v_3 v_4 x)))))))
def lX4_purses_h4 (a0 : Nat) (n : Nat) : Int32 → Int32 → XS → Option (Int32 × XS) := lp (bX4_purses_h4 a0) (fun _ _ _ => none) n
def fX4_purses_h4 (a0 : Nat) : Int32 → Int32 → XS → Option (Int32 × XS) := lX4_purses_h4 a0 FU
def fX4_purses (a0 : Nat) (x : XS) : Option (Int32 × XS) :=
  (fX4_purses_h4 a0 0 0 x)
def bX4_menDone_h4 (a0 : Nat) (k4 : Int32 → Int32 → XS → Option (Int32 × XS)) (u1 : Int32) (u2 : Int32) (x : XS) : Option (Int32 × XS) :=
  (if (x a0 2) ≤ u2 then (some (u1, x)) else (gd (inb u2 8) (st_ ((u1 + (x (a0 + 3 + (ix u2)) 6))) (fun v_3 => (st_ (u2 + 1) (fun v_4 => (k4 v_3 v_4 x)))))))
def lX4_menDone_h4 (a0 : Nat) (n : Nat) : Int32 → Int32 → XS → Option (Int32 × XS) := lp (bX4_menDone_h4 a0) (fun _ _ _ => none) n
def fX4_menDone_h4 (a0 : Nat) : Int32 → Int32 → XS → Option (Int32 × XS) := lX4_menDone_h4 a0 FU
def fX4_menDone (a0 : Nat) (x : XS) : Option (Int32 × XS) :=
  (fX4_menDone_h4 a0 0 0 x)
def bX4_busyBoys_h4 (a0 : Nat) (k4 : Int32 → Int32 → XS → Option (Int32 × XS)) (u1 : Int32) (u2 : Int32) (x : XS) : Option (Int32 × XS) :=
  (if (x a0 2) ≤ u2 then (some (u1, x)) else (gd (inb u2 8) (if (x (a0 + 3 + (ix u2)) 5) ≤ 0 then (st_ (u2 + 1) (fun v_4 => (k4 u1 v_4 x))) else (st_ (jshl 1 u2) (fun v_5 => (st_ ((u1 ||| v_5)) (fun v_6 => (st_ (u2 + 1) (fun v_7 => (k4 v_6 v_7 x))))))))))
def lX4_busyBoys_h4 (a0 : Nat) (n : Nat) : Int32 → Int32 → XS → Option (Int32 × XS) := lp (bX4_busyBoys_h4 a0) (fun _ _ _ => none) n
def fX4_busyBoys_h4 (a0 : Nat) : Int32 → Int32 → XS → Option (Int32 × XS) := lX4_busyBoys_h4 a0 FU
def fX4_busyBoys (a0 : Nat) (x : XS) : Option (Int32 × XS) :=
  (fX4_busyBoys_h4 a0 0 0 x)
def bX5_addNumber_h3 (k3 : Int32 → Int32 → XS → Option (Unit × XS)) (u1 : Int32) (u2 : Int32) (x : XS) : Option (Unit × XS) :=
  (if u2 < 0 then (some ((), x)) else (if 96 ≤ (x 2 0) then (st_ (u2 + (-8)) (fun v_3 => (k3 u1 v_3 x))) else (st_ (jshr u1 u2) (fun v_4 => (st_ (ji2b v_4) (fun v_5 => (gd (inb (x 2 0) 96) (st_ (wr x 3 (ix (x 2 0)) (v_5).toInt8.toInt32) (fun x_7 => (st_ (wr x_7 2 0 ((x_7 2 0) + 1)) (fun x_8 => (st_ (u2 + (-8)) (fun v_9 => (k3 u1 v_9 x_8))))))))))))))
def lX5_addNumber_h3 (n : Nat) : Int32 → Int32 → XS → Option (Unit × XS) := lp (bX5_addNumber_h3) (fun _ _ _ => none) n
def fX5_addNumber_h3 : Int32 → Int32 → XS → Option (Unit × XS) := lX5_addNumber_h3  FU
def fX5_addNumber (v1 : Int32) (x : XS) : Option (Unit × XS) :=
  (fX5_addNumber_h3 v1 24 x)
def fX5_isLetter (v0 : Int32) (x : XS) : Option (Int32 × XS) :=
  (if v0 < 97 then (some (0, x)) else (if 122 < v0 then (some (0, x)) else (some (1, x))))
def fX5_isDigit (v0 : Int32) (x : XS) : Option (Int32 × XS) :=
  (if v0 < 48 then (some (0, x)) else (if 57 < v0 then (some (0, x)) else (some (1, x))))
def fX5_step_h196 (x : XS) : Option (Unit × XS) :=
  (if (x 2 3) = 3 then (some ((), x)) else (if (x 2 4) ≤ 0 then (some ((), x)) else (gd (inb ((x 2 4) - 1) 96) (bd (fX5_isLetter (x 3 (ix ((x 2 4) - 1))) x) (fun r_23 x_24 => (if r_23 = 0 then (gd (inb ((x_24 2 4) - 1) 96) (bd (fX5_isDigit (x_24 3 (ix ((x_24 2 4) - 1))) x_24) (fun r_28 x_29 => (if r_28 = 0 then (some ((), x_29)) else (st_ (wr x_29 2 3 4) (fun x_31 => (some ((), x_31)))))))) else (st_ (wr x_24 2 3 4) (fun x_26 => (some ((), x_26))))))))))
def bX5_step_h83 (k83 : XS → Option (Unit × XS)) (x : XS) : Option (Unit × XS) :=
  (if (x 2 2) ≤ (x 2 5) then (fX5_step_h196 x) else (gd (inb (x 2 5) 96) (bd (fX5_isLetter (x 3 (ix (x 2 5))) x) (fun r_40 x_41 => (if r_40 = 0 then (fX5_step_h196 x_41) else (st_ (wr x_41 2 5 ((x_41 2 5) + 1)) (fun x_43 => (k83 x_43))))))))
def lX5_step_h83 (n : Nat) : XS → Option (Unit × XS) := lp (bX5_step_h83) (fun _ => none) n
def fX5_step_h83 : XS → Option (Unit × XS) := lX5_step_h83  FU
def bX5_step_h142 (k142 : XS → Option (Unit × XS)) (x : XS) : Option (Unit × XS) :=
  (if (x 2 2) ≤ (x 2 5) then (fX5_step_h196 x) else (gd (inb (x 2 5) 96) (bd (fX5_isDigit (x 3 (ix (x 2 5))) x) (fun r_34 x_35 => (if r_34 = 0 then (fX5_step_h196 x_35) else (st_ (wr x_35 2 5 ((x_35 2 5) + 1)) (fun x_37 => (k142 x_37))))))))
def lX5_step_h142 (n : Nat) : XS → Option (Unit × XS) := lp (bX5_step_h142) (fun _ => none) n
def fX5_step_h142 : XS → Option (Unit × XS) := lX5_step_h142  FU
def fX5_step_h38 (x : XS) : Option (Unit × XS) :=
  (st_ (wr x 2 4 (x 2 5)) (fun x_5 => (if (x_5 2 5) < (x_5 2 2) then (gd (inb (x_5 2 5) 96) (bd (fX5_isLetter (x_5 3 (ix (x_5 2 5))) x_5) (fun r_8 x_9 => (if r_8 = 0 then (gd (inb (x_9 2 5) 96) (bd (fX5_isDigit (x_9 3 (ix (x_9 2 5))) x_9) (fun r_12 x_13 => (if r_12 = 0 then (st_ (wr x_13 2 3 3) (fun x_15 => (st_ (wr x_15 2 5 ((x_15 2 5) + 1)) (fun x_16 => (fX5_step_h196 x_16))))) else (st_ (wr x_13 2 3 2) (fun x_17 => (fX5_step_h142 x_17))))))) else (st_ (wr x_9 2 3 1) (fun x_18 => (fX5_step_h83 x_18))))))) else (st_ (wr x_5 2 3 0) (fun x_19 => (some ((), x_19)))))))
def bX5_step_h0 (k0 : XS → Option (Unit × XS)) (x : XS) : Option (Unit × XS) :=
  (if (x 2 2) ≤ (x 2 5) then (fX5_step_h38 x) else (gd (inb (x 2 5) 96) (if (x 3 (ix (x 2 5))) = 32 then (st_ (wr x 2 5 ((x 2 5) + 1)) (fun x_4 => (k0 x_4))) else (fX5_step_h38 x))))
def lX5_step_h0 (n : Nat) : XS → Option (Unit × XS) := lp (bX5_step_h0) (fun _ => none) n
def fX5_step_h0 : XS → Option (Unit × XS) := lX5_step_h0  FU
def fX5_step (x : XS) : Option (Unit × XS) :=
  (fX5_step_h0 x)
def bX5_isWord_h28 (v1 : Nat) (k28 : Int32 → XS → Option (Int32 × XS)) (u2 : Int32) (x : XS) : Option (Int32 × XS) :=
  (bd (fJ0_length_8abf5 v1 x) (fun r_5 x_6 => (if r_5 ≤ u2 then (some (1, x_6)) else (gd (inb ((x_6 2 4) + u2) 96) (bd (fJ0_charAt_5068e v1 u2 x_6) (fun r_9 x_10 => (if (x_6 3 (ix ((x_6 2 4) + u2))) = r_9 then (st_ (u2 + 1) (fun v_12 => (k28 v_12 x_10))) else (some (0, x_10)))))))))
def lX5_isWord_h28 (v1 : Nat) (n : Nat) : Int32 → XS → Option (Int32 × XS) := lp (bX5_isWord_h28 v1) (fun _ _ => none) n
def fX5_isWord_h28 (v1 : Nat) : Int32 → XS → Option (Int32 × XS) := lX5_isWord_h28 v1 FU
def fX5_isWord (v1 : Nat) (x : XS) : Option (Int32 × XS) :=
  (if (x 2 3) = 1 then (bd (fJ0_length_8abf5 v1 x) (fun r_2 x_3 => (if ((x 2 5) - (x 2 4)) = r_2 then (fX5_isWord_h28 v1 0 x_3) else (some (0, x_3))))) else (some (0, x)))
def fX5_keyRead (x : XS) : Option (Int32 × XS) :=
  (bd (fX5_isWord 0 x) (fun r_1 x_2 => (if r_1 = 0 then (bd (fX5_isWord 1 x_2) (fun r_4 x_5 => (if r_4 = 0 then (bd (fX5_isWord 2 x_5) (fun r_7 x_8 => (if r_7 = 0 then (some ((-1), x_8)) else (some (2, x_8))))) else (some (1, x_5))))) else (some (0, x_2)))))
def fX6_begin (a0 : Nat) (v1 : Int32) (x : XS) : Option (Unit × XS) :=
  (st_ (wr x a0 1 v1) (fun x_1 => (st_ (wr x_1 a0 2 0) (fun x_2 => (st_ (wr x_2 a0 3 0) (fun x_3 => (some ((), x_3))))))))
def fX6_addItem (a0 : Nat) (v1 : Int32) (x : XS) : Option (Unit × XS) :=
  (if 96 ≤ (x a0 3) then (some ((), x)) else (gd (inb (x a0 3) 96) (st_ (wr x (a0 + 1) (ix (x a0 3)) v1) (fun x_3 => (st_ (wr x_3 a0 3 ((x_3 a0 3) + 1)) (fun x_4 => (some ((), x_4))))))))
def fX6_addNumber (a0 : Nat) (v1 : Int32) (x : XS) : Option (Unit × XS) :=
  (bd (fX6_addItem a0 v1 x) (fun _ x_2 => (st_ (wr x_2 a0 2 ((x_2 a0 2) + 1)) (fun x_3 => (some ((), x_3))))))
def bX5_number_h22 (a1 : Nat) (k22 : Int32 → Int32 → XS → Option (Int32 × XS)) (u2 : Int32) (u3 : Int32) (x : XS) : Option (Int32 × XS) :=
  (if (x 2 5) ≤ u3 then (bd (fX6_addNumber a1 u2 x) (fun _ x_5 => (bd (fX5_step x_5) (fun _ x_7 => (some (1, x_7)))))) else (gd (inb u3 96) (st_ ((((10 * u2) + (x 3 (ix u3))) - 48)) (fun v_9 => (st_ (u3 + 1) (fun v_10 => (k22 v_9 v_10 x)))))))
def lX5_number_h22 (a1 : Nat) (n : Nat) : Int32 → Int32 → XS → Option (Int32 × XS) := lp (bX5_number_h22 a1) (fun _ _ _ => none) n
def fX5_number_h22 (a1 : Nat) : Int32 → Int32 → XS → Option (Int32 × XS) := lX5_number_h22 a1 FU
def fX5_number (a1 : Nat) (x : XS) : Option (Int32 × XS) :=
  (if ((x 2 5) - (x 2 4)) ≤ 4 then (st_ ((x 2 4)) (fun v_2 => (fX5_number_h22 a1 0 v_2 x))) else (some (0, x)))
def fX6_namesOf (v0 : Int32) (x : XS) : Option (Nat × XS) :=
  (if v0 = 0 then (some (3, x)) else (if v0 = 1 then (some (4, x)) else (some (5, x))))
def fX6_addName (a0 : Nat) (v1 : Int32) (x : XS) : Option (Int32 × XS) :=
  (bd (fX6_namesOf (x a0 1) x) (fun r_1 x_2 => (gd (decide (r_1 < 6)) (bd (fJ0_indexOf_0f7a4 r_1 v1 x_2) (fun r_4 x_5 => (if 0 ≤ r_4 then (bd (fX6_addItem a0 ((-1) - r_4) x_5) (fun _ x_8 => (st_ (wr x_8 a0 2 ((x_8 a0 2) + 1)) (fun x_9 => (some (1, x_9)))))) else (some (0, x_5))))))))
def fX5_name (a1 : Nat) (x : XS) : Option (Int32 × XS) :=
  (if ((x 2 5) - (x 2 4)) = 1 then (gd (inb (x 2 4) 96) (st_ (ji2c (x 3 (ix (x 2 4)))) (fun v_3 => (bd (fX6_addName a1 v_3 x) (fun r_4 x_5 => (if r_4 = 0 then (some (0, x_5)) else (bd (fX5_step x_5) (fun _ x_8 => (some (1, x_8)))))))))) else (some (0, x)))
def fX5_sign (x : XS) : Option (Int32 × XS) :=
  (if (x 2 2) ≤ (x 2 4) then (some (0, x)) else (gd (inb (x 2 4) 96) (some ((x 3 (ix (x 2 4))), x))))
def fX5_isSign (v1 : Int32) (x : XS) : Option (Int32 × XS) :=
  (if (x 2 3) = 3 then (bd (fX5_sign x) (fun r_2 x_3 => (if r_2 = v1 then (some (1, x_3)) else (some (0, x_3))))) else (some (0, x)))
def fX6_addSign (a0 : Nat) (v1 : Int32) (x : XS) : Option (Unit × XS) :=
  (bd (fX6_addItem a0 (10000 + v1) x) (fun _ x_2 => (some ((), x_2))))
def fX5_piece_h69 (fE : Nat → Int32 → Int32 → Int32 → XS → Option (Int32 × XS)) (fP : Nat → Int32 → Int32 → XS → Option (Int32 × XS)) (a1 : Nat) (u2 : Int32) (u3 : Int32) (x : XS) : Option (Int32 × XS) :=
  (bd (fX5_isSign 40 x) (fun r_20 x_21 => (if r_20 = 0 then (some (0, x_21)) else (if 8 ≤ u2 then (some (0, x_21)) else (bd (fX5_step x_21) (fun _ x_25 => (bd (fE a1 0 (u2 + 1) u3 x_25) (fun r_26 x_27 => (if r_26 = 0 then (some (0, x_27)) else (bd (fX5_isSign 41 x_27) (fun r_29 x_30 => (if r_29 = 0 then (some (0, x_30)) else (bd (fX5_step x_30) (fun _ x_33 => (some (1, x_33))))))))))))))))
def FX5_piece (fE : Nat → Int32 → Int32 → Int32 → XS → Option (Int32 × XS)) (fP : Nat → Int32 → Int32 → XS → Option (Int32 × XS)) (a1 : Nat) (v2 : Int32) (v3 : Int32) (x : XS) : Option (Int32 × XS) :=
  (if (x 2 3) = 2 then (bd (fX5_number a1 x) (fun r_17 x_18 => (gd (isB r_17) (some (r_17, x_18))))) else (if (x 2 3) = 1 then (bd (fX5_name a1 x) (fun r_14 x_15 => (gd (isB r_14) (some (r_14, x_15))))) else (bd (fX5_isSign 33 x) (fun r_3 x_4 => (if r_3 = 0 then (fX5_piece_h69 fE fP a1 v2 v3 x_4) else (if 8 ≤ v3 then (fX5_piece_h69 fE fP a1 v2 v3 x_4) else (bd (fX5_step x_4) (fun _ x_8 => (bd (fP a1 v2 (v3 + 1) x_8) (fun r_9 x_10 => (if r_9 = 0 then (some (0, x_10)) else (bd (fX6_addSign a1 33 x_10) (fun _ x_13 => (some (1, x_13)))))))))))))))
def fX5_levelOf (v0 : Int32) (x : XS) : Option (Int32 × XS) :=
  (if v0 = 38 then (some (1, x)) else (if v0 = 42 then (some (4, x)) else (if v0 = 43 then (some (3, x)) else (if v0 = 45 then (some (3, x)) else (if v0 = 47 then (some (4, x)) else (if v0 = 60 then (some (2, x)) else (if v0 = 61 then (some (2, x)) else (if v0 = 62 then (some (2, x)) else (if v0 = 124 then (some (0, x)) else (some ((-1), x)))))))))))
def bX5_expression_h46 (fE : Nat → Int32 → Int32 → Int32 → XS → Option (Int32 × XS)) (fP : Nat → Int32 → Int32 → XS → Option (Int32 × XS)) (a1 : Nat) (k46 : Int32 → Int32 → Int32 → Int32 → Int32 → XS → Option (Int32 × XS)) (u2 : Int32) (u3 : Int32) (u4 : Int32) (u5 : Int32) (u6 : Int32) (x : XS) : Option (Int32 × XS) :=
  (if u5 ≤ u6 then (some (1, x)) else (if (x 2 3) = 3 then (bd (fX5_sign x) (fun r_11 x_12 => (bd (fX5_levelOf r_11 x_12) (fun r_13 x_14 => (if r_13 = u2 then (bd (fX5_sign x_14) (fun r_16 x_17 => (bd (fX5_step x_17) (fun _ x_19 => (bd (fE a1 (u2 + 1) u3 u4 x_19) (fun r_20 x_21 => (if r_20 = 0 then (some (0, x_21)) else (bd (fX6_addSign a1 r_16 x_21) (fun _ x_24 => (st_ (u6 + 1) (fun v_25 => (k46 u2 u3 u4 u5 v_25 x_24)))))))))))) else (some (1, x_14))))))) else (some (1, x))))
def lX5_expression_h46 (fE : Nat → Int32 → Int32 → Int32 → XS → Option (Int32 × XS)) (fP : Nat → Int32 → Int32 → XS → Option (Int32 × XS)) (a1 : Nat) (n : Nat) : Int32 → Int32 → Int32 → Int32 → Int32 → XS → Option (Int32 × XS) := lp (bX5_expression_h46 fE fP a1) (fun _ _ _ _ _ _ => none) n
def fX5_expression_h46 (fE : Nat → Int32 → Int32 → Int32 → XS → Option (Int32 × XS)) (fP : Nat → Int32 → Int32 → XS → Option (Int32 × XS)) (a1 : Nat) : Int32 → Int32 → Int32 → Int32 → Int32 → XS → Option (Int32 × XS) := lX5_expression_h46 fE fP a1 FU
def FX5_expression (fE : Nat → Int32 → Int32 → Int32 → XS → Option (Int32 × XS)) (fP : Nat → Int32 → Int32 → XS → Option (Int32 × XS)) (a1 : Nat) (v2 : Int32) (v3 : Int32) (v4 : Int32) (x : XS) : Option (Int32 × XS) :=
  (if v2 ≤ 4 then (bd (fE a1 (v2 + 1) v3 v4 x) (fun r_2 x_3 => (if r_2 = 0 then (some (0, x_3)) else (if v2 = 2 then (fX5_expression_h46 fE fP a1 v2 v3 v4 1 0 x_3) else (fX5_expression_h46 fE fP a1 v2 v3 v4 96 0 x_3))))) else (bd (fP a1 v3 v4 x) (fun r_6 x_7 => (gd (isB r_6) (some (r_6, x_7))))))
def fEP : Nat → (Nat → Int32 → Int32 → Int32 → XS → Option (Int32 × XS)) × (Nat → Int32 → Int32 → XS → Option (Int32 × XS))
  | 0 => (fun _ _ _ _ _ => none, fun _ _ _ _ => none)
  | n + 1 => (FX5_expression (fEP n).1 (fEP n).2, FX5_piece (fEP n).1 (fEP n).2)
def fX5_useUp (a1 : Nat) (x : XS) : Option (Int32 × XS) :=
  (st_ (wr x 2 2 (x 2 0)) (fun x_1 => (st_ (wr x_1 2 0 0) (fun x_2 => (st_ (wr x_2 2 5 0) (fun x_3 => (bd (fX5_step x_3) (fun _ x_5 => (bd (fX5_keyRead x_5) (fun r_6 x_7 => (if 0 ≤ r_6 then (bd (fX6_begin a1 r_6 x_7) (fun _ x_10 => (bd (fX5_step x_10) (fun _ x_12 => (bd ((fEP 200).1 a1 0 0 0 x_12) (fun r_13 x_14 => (if r_13 = 0 then (some ((x_14 2 4), x_14)) else (if (x_14 2 3) = 0 then (some ((-1), x_14)) else (some ((x_14 2 4), x_14)))))))))) else (some ((x_7 2 4), x_7)))))))))))))
def fX7_isKind (v0 : Int32) (x : XS) : Option (Int32 × XS) :=
  (if v0 < 0 then (some (0, x)) else (if 6 ≤ v0 then (some (0, x)) else (some (1, x))))
def fX7_boy (v1 : Int32) (v2 : Int32) (v3 : Int32) (v4 : Int32) (x : XS) : Option (Int32 × XS) :=
  (bd (fX7_isKind v1 x) (fun r_1 x_2 => (if r_1 = 0 then (some ((-1000000001), x_2)) else (bd (fX0_mayBe 1 v2 x_2) (fun r_4 x_5 => (if r_4 = 0 then (some ((-1000000001), x_5)) else (bd (fX0_mayBe 2 v3 x_5) (fun r_7 x_8 => (if r_7 = 0 then (some ((-1000000001), x_8)) else (bd (fX0_mayBe 3 v4 x_8) (fun r_10 x_11 => (if r_10 = 0 then (some ((-1000000001), x_11)) else (if (x_11 4 2) < 8 then (bd (fX4_addBoy 4 v1 v2 v3 v4 x_11) (fun _ x_15 => (some (((x_15 4 2) - 1), x_15)))) else (some ((-1000000003), x_11)))))))))))))))
def fX7_isBoy (v1 : Int32) (x : XS) : Option (Int32 × XS) :=
  (if v1 < 0 then (some (0, x)) else (if (x 4 2) ≤ v1 then (some (0, x)) else (some (1, x))))
def fX7_told (v1 : Int32) (v2 : Int32) (x : XS) : Option (Int32 × XS) :=
  (bd (fX7_isBoy v1 x) (fun r_1 x_2 => (if r_1 = 0 then (some ((-1000000001), x_2)) else (if v2 < 0 then (some ((-1000000001), x_2)) else (if v2 ≤ 9 then (gd (inb v1 8) (bd (fX0_fact (7 + (ix v1)) v2 x_2) (fun r_7 x_8 => (some (r_7, x_8))))) else (some ((-1000000001), x_2)))))))
def fX7_shine (v1 : Int32) (v2 : Int32) (v3 : Int32) (x : XS) : Option (Int32 × XS) :=
  (bd (fX7_isBoy v1 x) (fun r_1 x_2 => (if r_1 = 0 then (some ((-1000000001), x_2)) else (if v2 < 0 then (some ((-1000000001), x_2)) else (if 40 < v2 then (some ((-1000000001), x_2)) else (if v3 < 0 then (some ((-1000000001), x_2)) else (if v3 ≤ 9 then (gd (inb v1 8) (bd (fX4_shineOf 4 (7 + (ix v1)) v2 v3 x_2) (fun r_9 x_10 => (some (r_9, x_10))))) else (some ((-1000000001), x_2)))))))))
def fX7_as (v1 : Int32) (v2 : Int32) (x : XS) : Option (Int32 × XS) :=
  (bd (fX7_isBoy v1 x) (fun r_1 x_2 => (if r_1 = 0 then (some ((-1000000001), x_2)) else (bd (fX7_isKind v2 x_2) (fun r_4 x_5 => (if r_4 = 0 then (some ((-1000000001), x_5)) else (gd (inb v1 8) (bd (fX1_isUnder (x_5 (7 + (ix v1)) 0) v2 x_5) (fun r_8 x_9 => (if r_8 = 0 then (some ((-1000000012), x_9)) else (some ((x_9 (7 + (ix v1)) 2), x_9))))))))))))
def fX7_turns (v1 : Int32) (v2 : Int32) (x : XS) : Option (Int32 × XS) :=
  (bd (fX7_isBoy v1 x) (fun r_1 x_2 => (if r_1 = 0 then (some ((-1000000001), x_2)) else (bd (fX7_isKind v2 x_2) (fun r_4 x_5 => (if r_4 = 0 then (some ((-1000000001), x_5)) else (gd (inb v1 8) (st_ ((x_5 (7 + (ix v1)) 0)) (fun v_8 => (gd (inb v1 8) (st_ (wr x_5 (7 + (ix v1)) 0 v2) (fun x_10 => (some (v_8, x_10))))))))))))))
def fX7_set (v1 : Int32) (v2 : Int32) (v3 : Int32) (x : XS) : Option (Int32 × XS) :=
  (bd (fX7_isBoy v1 x) (fun r_1 x_2 => (if r_1 = 0 then (some ((-1000000001), x_2)) else (bd (fX0_mayBe v2 v3 x_2) (fun r_4 x_5 => (if r_4 = 0 then (some ((-1000000001), x_5)) else (gd (inb v1 8) (bd (fX0_fact (7 + (ix v1)) v2 x_5) (fun r_8 x_9 => (gd (inb v1 8) (bd (fX0_change (7 + (ix v1)) v2 v3 x_9) (fun _ x_12 => (some (r_8, x_12))))))))))))))
def bX7_deal_h31 (k31 : Int32 → Int32 → XS → Option (Int32 × XS)) (u2 : Int32) (u3 : Int32) (x : XS) : Option (Int32 × XS) :=
  (if u2 ≤ u3 then (some (u2, x)) else (bd (fX4_drawBoy 4 x) (fun _ x_6 => (st_ (u3 + 1) (fun v_7 => (k31 u2 v_7 x_6))))))
def lX7_deal_h31 (n : Nat) : Int32 → Int32 → XS → Option (Int32 × XS) := lp (bX7_deal_h31) (fun _ _ _ => none) n
def fX7_deal_h31 : Int32 → Int32 → XS → Option (Int32 × XS) := lX7_deal_h31  FU
def fX7_deal (v1 : Int32) (x : XS) : Option (Int32 × XS) :=
  (if v1 < 1 then (some ((-1000000001), x)) else (if v1 ≤ 8 then (st_ (jmin v1 (8 - (x 4 2))) (fun v_3 => (fX7_deal_h31 v_3 0 x))) else (some ((-1000000001), x))))
def fX7_seed (v1 : Int32) (x : XS) : Option (Int32 × XS) :=
  (st_ ((x 4 9)) (fun v_1 => (st_ (wr x 4 9 v1) (fun x_2 => (some (v_1, x_2))))))
def fX7_rule_h89 (u2 : Int32) (s0 : Int32) (x : XS) : Option (Int32 × XS) :=
  (if u2 = 1 then (st_ (wr x 4 10 1) (fun x_15 => (some (s0, x_15)))) else (st_ (wr x 4 10 0) (fun x_14 => (some (s0, x_14)))))
def fX7_rule_h64 (u1 : Int32) (u2 : Int32) (x : XS) : Option (Int32 × XS) :=
  (if u1 = 2 then (if 1 < u2 then (some ((-1000000001), x)) else (if (x 4 10) = 0 then (fX7_rule_h89 u2 0 x) else (fX7_rule_h89 u2 1 x))) else (some ((-1000000001), x)))
def fX7_rule_h35 (u1 : Int32) (u2 : Int32) (x : XS) : Option (Int32 × XS) :=
  (if u1 = 1 then (if 100 < u2 then (fX7_rule_h64 u1 u2 x) else (st_ ((x 4 6)) (fun v_8 => (st_ (wr x 4 6 u2) (fun x_9 => (some (v_8, x_9))))))) else (fX7_rule_h64 u1 u2 x))
def fX7_rule (v1 : Int32) (v2 : Int32) (x : XS) : Option (Int32 × XS) :=
  (if 0 ≤ v2 then (if v1 = 0 then (if 99 < v2 then (fX7_rule_h35 v1 v2 x) else (st_ ((x 4 4)) (fun v_4 => (st_ (wr x 4 4 v2) (fun x_5 => (some (v_4, x_5))))))) else (fX7_rule_h35 v1 v2 x)) else (some ((-1000000001), x)))
def fX7_minutes (v1 : Int32) (x : XS) : Option (Int32 × XS) :=
  (if v1 < 1 then (some ((-1000000001), x)) else (if v1 ≤ 300 then (st_ (jmin v1 (9999 - (x 4 8))) (fun v_3 => (bd (fX4_passMinutes 4 v_3 x) (fun r_4 x_5 => (some (r_4, x_5)))))) else (some ((-1000000001), x))))
def fX7_street (v1 : Int32) (x : XS) : Option (Int32 × XS) :=
  (if v1 = 0 then (bd (fX4_purses 4 x) (fun r_2 x_3 => (some (r_2, x_3)))) else (if v1 = 1 then (some ((x 4 5), x)) else (if v1 = 2 then (some ((x 4 7), x)) else (if v1 = 3 then (bd (fX4_menDone 4 x) (fun r_7 x_8 => (some (r_7, x_8)))) else (if v1 = 4 then (bd (fX4_busyBoys 4 x) (fun r_10 x_11 => (some (r_10, x_11)))) else (some ((-1000000001), x)))))))
def fX7_goesTo (v1 : Int32) (v2 : Int32) (x : XS) : Option (Int32 × XS) :=
  (if v1 < 0 then (some ((-1000000001), x)) else (if 10 ≤ v1 then (some ((-1000000001), x)) else (if v2 < 1 then (some ((-1000000001), x)) else (if v2 ≤ 9 then (bd (fX4_chosenBoy 4 v1 v2 x) (fun r_5 x_6 => (if 0 ≤ r_5 then (some (r_5, x_6)) else (some ((-1000000005), x_6))))) else (some ((-1000000001), x))))))
def fX7_behind (v1 : Int32) (v2 : Int32) (x : XS) : Option (Int32 × XS) :=
  (if v1 < 0 then (some ((-1000000001), x)) else (if 300 < v1 then (some ((-1000000001), x)) else (if v2 < 0 then (some ((-1000000001), x)) else (if v2 < (3 + (x 4 2)) then (bd (fX4_become 26 4 x) (fun _ x_6 => (bd (fX4_passMinutes 26 v1 x_6) (fun r_7 x_8 => (if v2 = 0 then (bd (fX4_purses 26 x_8) (fun r_10 x_11 => (some (r_10, x_11)))) else (if v2 = 1 then (some ((x_8 26 5), x_8)) else (if v2 = 2 then (some ((x_8 26 7), x_8)) else (gd (inb (v2 - 3) 8) (some ((x_8 (29 + (ix (v2 - 3))) 4), x_8)))))))))) else (some ((-1000000001), x))))))
def fX7_mayBeThought (v0 : Int32) (x : XS) : Option (Int32 × XS) :=
  (if v0 < 1 then (some (0, x)) else (if 60 < v0 then (some (0, x)) else (some (1, x))))
def fX7_best_h35 (x : XS) : Option (Int32 × XS) :=
  (some ((-1000000001), x))
def bX7_best_h104 (k104 : Int32 → Int32 → Int32 → Int32 → Int32 → Int32 → Int32 → Int32 → Int32 → XS → Option (Int32 × XS)) (u1 : Int32) (u3 : Int32) (u4 : Int32) (u5 : Int32) (u6 : Int32) (u7 : Int32) (u8 : Int32) (u9 : Int32) (u10 : Int32) (x : XS) : Option (Int32 × XS) :=
  (if u6 < u10 then (if u4 = 0 then (some (u8, x)) else (some (u9, x))) else (bd (fX4_become 26 4 x) (fun _ x_19 => (gd (inb u1 8) (bd (fX0_change (29 + (ix u1)) u7 u10 x_19) (fun _ x_22 => (bd (fX4_passMinutes 26 u3 x_22) (fun r_23 x_24 => (gd (inb u1 8) (st_ ((x_24 (29 + (ix u1)) 4)) (fun v_26 => (if u10 = u5 then (st_ (u10 + 1) (fun v_28 => (k104 u1 u3 u4 u5 u6 u7 u10 v_26 v_28 x_24))) else (if v_26 ≤ u9 then (st_ (u10 + 1) (fun v_30 => (k104 u1 u3 u4 u5 u6 u7 u8 u9 v_30 x_24))) else (st_ (u10 + 1) (fun v_31 => (k104 u1 u3 u4 u5 u6 u7 u10 v_26 v_31 x_24))))))))))))))))
def lX7_best_h104 (n : Nat) : Int32 → Int32 → Int32 → Int32 → Int32 → Int32 → Int32 → Int32 → Int32 → XS → Option (Int32 × XS) := lp (bX7_best_h104) (fun _ _ _ _ _ _ _ _ _ _ => none) n
def fX7_best_h104 : Int32 → Int32 → Int32 → Int32 → Int32 → Int32 → Int32 → Int32 → Int32 → XS → Option (Int32 × XS) := lX7_best_h104  FU
def fX7_best_h91 (u1 : Int32) (u3 : Int32) (u4 : Int32) (u5 : Int32) (u6 : Int32) (s0 : Int32) (x : XS) : Option (Int32 × XS) :=
  (fX7_best_h104 u1 u3 u4 u5 u6 s0 u5 0 u5 x)
def fX7_best_h71 (u1 : Int32) (u2 : Int32) (u3 : Int32) (u4 : Int32) (u5 : Int32) (s0 : Int32) (x : XS) : Option (Int32 × XS) :=
  (if u2 = 0 then (fX7_best_h91 u1 u3 u4 u5 s0 3 x) else (if u2 = 1 then (fX7_best_h91 u1 u3 u4 u5 s0 1 x) else (fX7_best_h91 u1 u3 u4 u5 s0 2 x)))
def fX7_best_h48 (u1 : Int32) (u2 : Int32) (u3 : Int32) (u4 : Int32) (s0 : Int32) (x : XS) : Option (Int32 × XS) :=
  (if u2 = 0 then (fX7_best_h71 u1 u2 u3 u4 s0 20 x) else (if u2 = 1 then (fX7_best_h71 u1 u2 u3 u4 s0 9 x) else (fX7_best_h71 u1 u2 u3 u4 s0 40 x)))
def fX7_best (v1 : Int32) (v2 : Int32) (v3 : Int32) (v4 : Int32) (x : XS) : Option (Int32 × XS) :=
  (bd (fX7_isBoy v1 x) (fun r_1 x_2 => (if r_1 = 0 then (fX7_best_h35 x_2) else (if v2 < 0 then (fX7_best_h35 x_2) else (if 2 < v2 then (fX7_best_h35 x_2) else (bd (fX7_mayBeThought v3 x_2) (fun r_6 x_7 => (if r_6 = 0 then (fX7_best_h35 x_7) else (if v4 < 0 then (fX7_best_h35 x_7) else (if v4 ≤ 1 then (if v2 = 1 then (fX7_best_h48 v1 v2 v3 v4 0 x_7) else (fX7_best_h48 v1 v2 v3 v4 1 x_7)) else (fX7_best_h35 x_7)))))))))))
def bX7_bestShare_h27 (k27 : Int32 → Int32 → Int32 → Int32 → Int32 → XS → Option (Int32 × XS)) (u1 : Int32) (u2 : Int32) (u3 : Int32) (u4 : Int32) (u5 : Int32) (x : XS) : Option (Int32 × XS) :=
  (if 99 < u5 then (if u2 = 0 then (some (u3, x)) else (some (u4, x))) else (bd (fX4_become 26 4 x) (fun _ x_9 => (st_ (wr x_9 26 4 u5) (fun x_10 => (bd (fX4_passMinutes 26 u1 x_10) (fun r_11 x_12 => (if u5 = 0 then (st_ ((x_12 26 5)) (fun v_14 => (st_ (u5 + 1) (fun v_15 => (k27 u1 u2 u5 v_14 v_15 x_12))))) else (if (x_12 26 5) ≤ u4 then (st_ (u5 + 1) (fun v_17 => (k27 u1 u2 u3 u4 v_17 x_12))) else (st_ ((x_12 26 5)) (fun v_18 => (st_ (u5 + 1) (fun v_19 => (k27 u1 u2 u5 v_18 v_19 x_12))))))))))))))
def lX7_bestShare_h27 (n : Nat) : Int32 → Int32 → Int32 → Int32 → Int32 → XS → Option (Int32 × XS) := lp (bX7_bestShare_h27) (fun _ _ _ _ _ _ => none) n
def fX7_bestShare_h27 : Int32 → Int32 → Int32 → Int32 → Int32 → XS → Option (Int32 × XS) := lX7_bestShare_h27  FU
def fX7_bestShare (v1 : Int32) (v2 : Int32) (x : XS) : Option (Int32 × XS) :=
  (bd (fX7_mayBeThought v1 x) (fun r_1 x_2 => (if r_1 = 0 then (some ((-1000000001), x_2)) else (if v2 < 0 then (some ((-1000000001), x_2)) else (if v2 ≤ 1 then (fX7_bestShare_h27 v1 v2 0 0 0 x_2) else (some ((-1000000001), x_2)))))))
def bX7_sentAway_h40 (k40 : Int32 → Int32 → Int32 → Int32 → Int32 → XS → Option (Int32 × XS)) (u1 : Int32) (u2 : Int32) (u3 : Int32) (u4 : Int32) (u5 : Int32) (x : XS) : Option (Int32 × XS) :=
  (if (x 4 2) ≤ u5 then (if u2 = 0 then (some (u3, x)) else (some (u4, x))) else (bd (fX4_become 26 4 x) (fun _ x_10 => (st_ (wr x_10 26 11 u5) (fun x_11 => (bd (fX4_passMinutes 26 u1 x_11) (fun r_12 x_13 => (bd (fX4_purses 26 x_13) (fun r_14 x_15 => (if u5 = 0 then (st_ (u5 + 1) (fun v_17 => (k40 u1 u2 u5 r_14 v_17 x_15))) else (if r_14 ≤ u4 then (st_ (u5 + 1) (fun v_19 => (k40 u1 u2 u3 u4 v_19 x_15))) else (st_ (u5 + 1) (fun v_20 => (k40 u1 u2 u5 r_14 v_20 x_15))))))))))))))
def lX7_sentAway_h40 (n : Nat) : Int32 → Int32 → Int32 → Int32 → Int32 → XS → Option (Int32 × XS) := lp (bX7_sentAway_h40) (fun _ _ _ _ _ _ => none) n
def fX7_sentAway_h40 : Int32 → Int32 → Int32 → Int32 → Int32 → XS → Option (Int32 × XS) := lX7_sentAway_h40  FU
def fX7_sentAway (v1 : Int32) (v2 : Int32) (x : XS) : Option (Int32 × XS) :=
  (bd (fX7_mayBeThought v1 x) (fun r_1 x_2 => (if r_1 = 0 then (some ((-1000000001), x_2)) else (if v2 < 0 then (some ((-1000000001), x_2)) else (if v2 ≤ 1 then (if (x_2 4 2) = 0 then (some ((-1000000005), x_2)) else (fX7_sentAway_h40 v1 v2 0 0 0 x_2)) else (some ((-1000000001), x_2)))))))
def fX7_dry (v1 : Int32) (x : XS) : Option (Int32 × XS) :=
  (bd (fX7_mayBeThought v1 x) (fun r_1 x_2 => (if r_1 = 0 then (some ((-1000000001), x_2)) else (bd (fX4_become 26 4 x_2) (fun _ x_5 => (bd (fX4_passMinutes 26 v1 x_5) (fun r_6 x_7 => (bd (fX4_purses 26 x_7) (fun r_8 x_9 => (bd (fX4_become 26 4 x_9) (fun _ x_11 => (st_ (wr x_11 26 10 0) (fun x_12 => (st_ (wr x_12 26 6 0) (fun x_13 => (bd (fX4_passMinutes 26 v1 x_13) (fun r_14 x_15 => (bd (fX4_purses 26 x_15) (fun r_16 x_17 => (some ((r_16 - r_8), x_17)))))))))))))))))))))
def fX7_isSheet (v0 : Int32) (x : XS) : Option (Int32 × XS) :=
  (if v0 < 0 then (some (0, x)) else (if 4 ≤ v0 then (some (0, x)) else (some (1, x))))
def bX7_differences_h5 (a1 : Nat) (a2 : Nat) (k5 : Int32 → Int32 → XS → Option (Int32 × XS)) (u3 : Int32) (u4 : Int32) (x : XS) : Option (Int32 × XS) :=
  (if (x a2 1) ≤ u4 then (some (u3, x)) else (bd (fX2_hasNumber a2 u4 x) (fun r_2 x_3 => (if r_2 = 0 then (st_ (u4 + 1) (fun v_5 => (k5 u3 v_5 x_3))) else (bd (fX4_shineOf 4 a1 u4 0 x_3) (fun r_6 x_7 => (gd (inb u4 24) (st_ (jabs (r_6 - (x_7 (a2 + 1) (ix u4)))) (fun v_9 => (st_ ((u3 + v_9)) (fun v_10 => (st_ (u4 + 1) (fun v_11 => (k5 v_10 v_11 x_7))))))))))))))
def lX7_differences_h5 (a1 : Nat) (a2 : Nat) (n : Nat) : Int32 → Int32 → XS → Option (Int32 × XS) := lp (bX7_differences_h5 a1 a2) (fun _ _ _ => none) n
def fX7_differences_h5 (a1 : Nat) (a2 : Nat) : Int32 → Int32 → XS → Option (Int32 × XS) := lX7_differences_h5 a1 a2 FU
def fX7_differences (a1 : Nat) (a2 : Nat) (x : XS) : Option (Int32 × XS) :=
  (fX7_differences_h5 a1 a2 0 0 x)
def bX7_shone_h55 (k55 : Int32 → Int32 → Int32 → Int32 → Int32 → XS → Option (Int32 × XS)) (u1 : Int32) (u2 : Int32) (u3 : Int32) (u4 : Int32) (u5 : Int32) (x : XS) : Option (Int32 × XS) :=
  (if (x 4 2) ≤ u5 then (if u2 = 0 then (some (u3, x)) else (some (u4, x))) else (gd (inb u5 8) (gd (inb u1 4) (bd (fX7_differences (7 + (ix u5)) (71 + 2 * (ix u1)) x) (fun r_15 x_16 => (if u5 = 0 then (st_ (u5 + 1) (fun v_18 => (k55 u1 u2 u5 r_15 v_18 x_16))) else (if u4 ≤ r_15 then (st_ (u5 + 1) (fun v_20 => (k55 u1 u2 u3 u4 v_20 x_16))) else (st_ (u5 + 1) (fun v_21 => (k55 u1 u2 u5 r_15 v_21 x_16))))))))))
def lX7_shone_h55 (n : Nat) : Int32 → Int32 → Int32 → Int32 → Int32 → XS → Option (Int32 × XS) := lp (bX7_shone_h55) (fun _ _ _ _ _ _ => none) n
def fX7_shone_h55 : Int32 → Int32 → Int32 → Int32 → Int32 → XS → Option (Int32 × XS) := lX7_shone_h55  FU
def fX7_shone (v1 : Int32) (v2 : Int32) (x : XS) : Option (Int32 × XS) :=
  (bd (fX7_isSheet v1 x) (fun r_1 x_2 => (if r_1 = 0 then (some ((-1000000001), x_2)) else (if v2 < 0 then (some ((-1000000001), x_2)) else (if v2 ≤ 1 then (gd (inb v1 4) (bd (fX2_isMissing (71 + 2 * (ix v1)) x_2) (fun r_7 x_8 => (if r_7 = 0 then (if (x_8 4 2) = 0 then (some ((-1000000005), x_8)) else (fX7_shone_h55 v1 v2 0 0 0 x_8)) else (some ((-1000000011), x_8)))))) else (some ((-1000000001), x_2)))))))
def fX7_fee (x : XS) : Option (Int32 × XS) :=
  (bd (fX4_law 4 1 x) (fun r_1 x_2 => (if r_1 = 0 then (some ((x_2 4 7), x_2)) else (gd (decide (tg (ix r_1) = 5)) (bd (fX6_value (ix r_1) (x_2 4 7) (x_2 4 5) 0 x_2) (fun r_4 x_5 => (some (r_4, x_5))))))))
def fX7_fine (v1 : Int32) (x : XS) : Option (Int32 × XS) :=
  (bd (fX7_isBoy v1 x) (fun r_1 x_2 => (if r_1 = 0 then (some ((-1000000001), x_2)) else (gd (inb v1 8) (bd (fX4_law 4 2 x_2) (fun r_5 x_6 => (if r_5 = 0 then (some ((x_6 (7 + (ix v1)) 4), x_6)) else (gd (decide (tg (ix r_5) = 5)) (bd (fX6_value (ix r_5) (x_6 (7 + (ix v1)) 4) (x_6 (7 + (ix v1)) 6) 0 x_6) (fun r_8 x_9 => (some (r_8, x_9))))))))))))
def fX7_feed (v1 : Int32) (v2 : Int32) (v3 : Int32) (x : XS) : Option (Int32 × XS) :=
  (if ((x 2 0) + 12) ≤ 96 then (bd (fX5_addNumber v1 x) (fun _ x_3 => (bd (fX5_addNumber v2 x_3) (fun _ x_5 => (bd (fX5_addNumber v3 x_5) (fun _ x_7 => (some ((x_7 2 0), x_7)))))))) else (some ((-1000000003), x)))
def fX7_trim (v1 : Int32) (x : XS) : Option (Int32 × XS) :=
  (if v1 < 0 then (some ((-1000000001), x)) else (if v1 ≤ (x 2 0) then (st_ (wr x 2 0 v1) (fun x_3 => (some (v1, x_3)))) else (some ((-1000000001), x))))
def fX7_text (x : XS) : Option (Int32 × XS) :=
  (st_ (jmin (x 4 3) 14) (fun v_1 => (gd (inb v_1 15) (bd (fX5_useUp (41 + 2 * (ix v_1)) x) (fun r_3 x_4 => (if r_3 < 0 then (if (x_4 4 3) < 14 then (bd (fX4_countText 4 (41 + 2 * (ix v_1)) x_4) (fun _ x_8 => (some ((x_8 (41 + 2 * (ix v_1)) 0), x_8)))) else (some ((-1000000003), x_4))) else (some (((-100) - r_3), x_4))))))))
def fX7_textTold (v1 : Int32) (v2 : Int32) (x : XS) : Option (Int32 × XS) :=
  (if v1 < 0 then (some ((-1000000001), x)) else (if (x 4 3) ≤ v1 then (some ((-1000000001), x)) else (if v2 < 0 then (some ((-1000000001), x)) else (if v2 ≤ 1 then (if v2 = 0 then (gd (inb v1 15) (some ((x (41 + 2 * (ix v1)) 1), x))) else (gd (inb v1 15) (some ((x (41 + 2 * (ix v1)) 2), x)))) else (some ((-1000000001), x))))))
def fX7_why (v1 : Int32) (x : XS) : Option (Int32 × XS) :=
  (if v1 < 0 then (some ((-1000000001), x)) else (if v1 < 3 then (bd (fX4_law 4 v1 x) (fun r_3 x_4 => (if r_3 = 0 then (some ((-1000000005), x_4)) else (gd (decide (tg (ix r_3) = 5)) (some ((x_4 (ix r_3) 0), x_4)))))) else (some ((-1000000001), x))))
def fX7_sheet (v1 : Int32) (v2 : Int32) (v3 : Int32) (x : XS) : Option (Int32 × XS) :=
  (bd (fX7_isSheet v1 x) (fun r_1 x_2 => (if r_1 = 0 then (some ((-1000000001), x_2)) else (if v2 < (-1) then (some ((-1000000001), x_2)) else (if v2 ≤ 1 then (if v2 = (-1) then (gd (inb v1 4) (bd (fX2_renew (71 + 2 * (ix v1)) (-1) 0 x_2) (fun _ x_14 => (some (0, x_14))))) else (if v3 ≤ 24 then (if 0 ≤ v3 then (gd (inb v1 4) (bd (fX2_renew (71 + 2 * (ix v1)) v2 v3 x_2) (fun _ x_11 => (some (v3, x_11))))) else (some ((-1000000014), x_2))) else (some ((-1000000001), x_2)))) else (some ((-1000000001), x_2)))))))
def fX7_mark (v1 : Int32) (v2 : Int32) (v3 : Int32) (x : XS) : Option (Int32 × XS) :=
  (bd (fX7_isSheet v1 x) (fun r_1 x_2 => (if r_1 = 0 then (some ((-1000000001), x_2)) else (gd (inb v1 4) (bd (fX2_isMissing (71 + 2 * (ix v1)) x_2) (fun r_5 x_6 => (if r_5 = 0 then (bd (fX2_hasPlace (71 + 2 * (ix v1)) v2 x_6) (fun r_8 x_9 => (if r_8 = 0 then (some ((-1000000013), x_9)) else (if (x_9 (71 + 2 * (ix v1)) 0) = 0 then (if v3 = (-1000000005) then (some ((-1000000012), x_9)) else (st_ (ji2s v3) (fun v_20 => (gd (inb v2 24) (st_ (wr x_9 ((71 + 2 * (ix v1)) + 1) (ix v2) v_20) (fun x_22 => (some (1, x_22)))))))) else (if v3 = (-1000000005) then (gd (inb v2 24) (st_ (wr x_9 ((71 + 2 * (ix v1)) + 1) (ix v2) v3) (fun x_14 => (some (1, x_14))))) else (if v3 < (-99999) then (some ((-1000000001), x_9)) else (if v3 ≤ 99999 then (gd (inb v2 24) (st_ (wr x_9 ((71 + 2 * (ix v1)) + 1) (ix v2) v3) (fun x_18 => (some (1, x_18))))) else (some ((-1000000001), x_9))))))))) else (some ((-1000000011), x_6)))))))))
def fX7_pour_h92 (k32 : Nat → Int32 → Int32 → XS → Option (Int32 × XS)) (u2 : Nat) (u3 : Int32) (u4 : Int32) (u5 : Int32) (x : XS) : Option (Int32 × XS) :=
  (gd (inb u4 8) (st_ (wr x (7 + (ix u4)) 2 u5) (fun x_20 => (st_ (u4 + 1) (fun v_21 => (k32 u2 u3 v_21 x_20))))))
def bX7_pour_h32 (k32 : Nat → Int32 → Int32 → XS → Option (Int32 × XS)) (u2 : Nat) (u3 : Int32) (u4 : Int32) (x : XS) : Option (Int32 × XS) :=
  (if (x 4 2) ≤ u4 then (some (u3, x)) else (bd (fX2_hasNumber u2 u4 x) (fun r_9 x_10 => (if r_9 = 0 then (st_ (u4 + 1) (fun v_12 => (k32 u2 u3 v_12 x_10))) else (gd (inb u4 24) (st_ (jmin 99 (x_10 (u2 + 1) (ix u4))) (fun v_14 => (st_ (jmax 1 v_14) (fun v_15 => (gd (inb u4 8) (if v_15 = (x_10 (7 + (ix u4)) 2) then (fX7_pour_h92 k32 u2 u3 u4 v_15 x_10) else (st_ (u3 + 1) (fun v_18 => (fX7_pour_h92 k32 u2 v_18 u4 v_15 x_10))))))))))))))
def lX7_pour_h32 (n : Nat) : Nat → Int32 → Int32 → XS → Option (Int32 × XS) := lp (bX7_pour_h32) (fun _ _ _ _ => none) n
def fX7_pour_h32 : Nat → Int32 → Int32 → XS → Option (Int32 × XS) := lX7_pour_h32  FU
def fX7_pour (v1 : Int32) (x : XS) : Option (Int32 × XS) :=
  (bd (fX7_isSheet v1 x) (fun r_1 x_2 => (if r_1 = 0 then (some ((-1000000001), x_2)) else (gd (inb v1 4) (bd (fX2_isMissing (71 + 2 * (ix v1)) x_2) (fun r_5 x_6 => (if r_5 = 0 then (fX7_pour_h32 (71 + 2 * (ix v1)) 0 0 x_6) else (some ((-1000000011), x_6)))))))))
def bX7_reads_h29 (k29 : Nat → Int32 → XS → Option (Int32 × XS)) (u2 : Nat) (u3 : Int32) (x : XS) : Option (Int32 × XS) :=
  (if (x u2 1) ≤ u3 then (some ((-1000000005), x)) else (bd (fX2_hasNumber u2 u3 x) (fun r_9 x_10 => (if r_9 = 0 then (st_ (u3 + 1) (fun v_12 => (k29 u2 v_12 x_10))) else (bd (fX7_isBoy u3 x_10) (fun r_13 x_14 => (if r_13 = 0 then (some (u3, x_14)) else (gd (inb u3 24) (gd (inb u3 8) (if (x_14 (u2 + 1) (ix u3)) = (x_14 (7 + (ix u3)) 4) then (st_ (u3 + 1) (fun v_19 => (k29 u2 v_19 x_14))) else (some (u3, x_14))))))))))))
def lX7_reads_h29 (n : Nat) : Nat → Int32 → XS → Option (Int32 × XS) := lp (bX7_reads_h29) (fun _ _ _ => none) n
def fX7_reads_h29 : Nat → Int32 → XS → Option (Int32 × XS) := lX7_reads_h29  FU
def fX7_reads (v1 : Int32) (x : XS) : Option (Int32 × XS) :=
  (bd (fX7_isSheet v1 x) (fun r_1 x_2 => (if r_1 = 0 then (some ((-1000000001), x_2)) else (gd (inb v1 4) (bd (fX2_isMissing (71 + 2 * (ix v1)) x_2) (fun r_5 x_6 => (if r_5 = 0 then (fX7_reads_h29 (71 + 2 * (ix v1)) 0 x_6) else (some ((-1000000011), x_6)))))))))
def fX7_copy (v1 : Int32) (v2 : Int32) (v3 : Int32) (v4 : Int32) (v5 : Int32) (x : XS) : Option (Int32 × XS) :=
  (bd (fX7_isSheet v1 x) (fun r_1 x_2 => (if r_1 = 0 then (some ((-1000000001), x_2)) else (bd (fX7_isSheet v3 x_2) (fun r_4 x_5 => (if r_4 = 0 then (some ((-1000000001), x_5)) else (gd (inb v1 4) (gd (inb v3 4) (bd (fX2_isMissing (71 + 2 * (ix v1)) x_5) (fun r_9 x_10 => (if r_9 = 0 then (bd (fX2_isMissing (71 + 2 * (ix v3)) x_10) (fun r_12 x_13 => (if r_12 = 0 then (if (x_13 (71 + 2 * (ix v1)) 0) = (x_13 (71 + 2 * (ix v3)) 0) then (bd (fX2_hasPlaces (71 + 2 * (ix v1)) v2 v5 x_13) (fun r_16 x_17 => (if r_16 = 0 then (some ((-1000000013), x_17)) else (bd (fX2_hasPlaces (71 + 2 * (ix v3)) v4 v5 x_17) (fun r_19 x_20 => (if r_19 = 0 then (some ((-1000000013), x_20)) else (gd (cpok v2 v4 v5 24 24) (st_ (cpx x_20 ((71 + 2 * (ix v1)) + 1) ((71 + 2 * (ix v3)) + 1) (ix v2) (ix v4) (ix v5)) (fun x_23 => (some (v5, x_23))))))))))) else (some ((-1000000012), x_13))) else (some ((-1000000011), x_13))))) else (some ((-1000000011), x_10)))))))))))))
def fX7_isSlot (v0 : Int32) (x : XS) : Option (Int32 × XS) :=
  (if v0 < 0 then (some (0, x)) else (if 5 ≤ v0 then (some (0, x)) else (some (1, x))))
def fX7_lay_h67 (u1 : Int32) (u2 : Int32) (u3 : Int32) (x : XS) : Option (Int32 × XS) :=
  (gd (inb u1 5) (st_ ((x (79 + 4 * (ix u1)) 0)) (fun v_20 => (st_ (wr x (79 + 4 * (ix u1)) 0 u2) (fun x_21 => (if u2 = 1 then (gd (inb u3 8) (bd (fX0_become ((79 + 4 * (ix u1)) + 1) (7 + (ix u3)) x_21) (fun _ x_31 => (some (v_20, x_31))))) else (if u2 = 2 then (gd (inb u3 4) (bd (fX2_become ((79 + 4 * (ix u1)) + 2) (71 + 2 * (ix u3)) x_21) (fun _ x_28 => (some (v_20, x_28))))) else (if u2 = 3 then (st_ (wr x_21 (79 + 4 * (ix u1)) 1 u3) (fun x_25 => (some (v_20, x_25)))) else (some (v_20, x_21))))))))))
def fX7_lay_h47 (u1 : Int32) (u2 : Int32) (u3 : Int32) (x : XS) : Option (Int32 × XS) :=
  (if u2 = 2 then (gd (inb u3 4) (bd (fX2_isMissing (71 + 2 * (ix u3)) x) (fun r_16 x_17 => (if r_16 = 0 then (fX7_lay_h67 u1 u2 u3 x_17) else (some ((-1000000011), x_17)))))) else (fX7_lay_h67 u1 u2 u3 x))
def fX7_lay_h32 (u1 : Int32) (u2 : Int32) (u3 : Int32) (x : XS) : Option (Int32 × XS) :=
  (if u2 = 2 then (bd (fX7_isSheet u3 x) (fun r_11 x_12 => (if r_11 = 0 then (some ((-1000000001), x_12)) else (fX7_lay_h47 u1 u2 u3 x_12)))) else (fX7_lay_h47 u1 u2 u3 x))
def fX7_lay (v1 : Int32) (v2 : Int32) (v3 : Int32) (x : XS) : Option (Int32 × XS) :=
  (bd (fX7_isSlot v1 x) (fun r_1 x_2 => (if r_1 = 0 then (some ((-1000000001), x_2)) else (if v2 < 0 then (some ((-1000000001), x_2)) else (if v2 ≤ 3 then (if v2 = 1 then (bd (fX7_isBoy v3 x_2) (fun r_7 x_8 => (if r_7 = 0 then (some ((-1000000001), x_8)) else (fX7_lay_h32 v1 v2 v3 x_8)))) else (fX7_lay_h32 v1 v2 v3 x_2)) else (some ((-1000000001), x_2)))))))
def fX7_ask (v1 : Int32) (v2 : Int32) (x : XS) : Option (Int32 × XS) :=
  (bd (fX7_isSlot v1 x) (fun r_1 x_2 => (if r_1 = 0 then (some ((-1000000001), x_2)) else (bd (fX7_isKind v2 x_2) (fun r_4 x_5 => (if r_4 = 0 then (some ((-1000000001), x_5)) else (gd (inb v1 5) (bd (fX3_findingFor (79 + 4 * (ix v1)) 1 x_5) (fun r_8 x_9 => (if r_8 = 0 then (gd (inb v1 5) (bd (fX1_isUnder (x_9 ((79 + 4 * (ix v1)) + 1) 0) v2 x_9) (fun r_12 x_13 => (if r_12 = 0 then (some ((-1000000012), x_13)) else (bd (fX1_worth (x_13 ((79 + 4 * (ix v1)) + 1) 0) (x_13 ((79 + 4 * (ix v1)) + 1) 2) x_13) (fun r_15 x_16 => (some (r_15, x_16)))))))) else (some (r_8, x_9))))))))))))
def fX7_item (v1 : Int32) (v2 : Int32) (x : XS) : Option (Int32 × XS) :=
  (bd (fX7_isSlot v1 x) (fun r_1 x_2 => (if r_1 = 0 then (some ((-1000000001), x_2)) else (gd (inb v1 5) (bd (fX3_findingFor (79 + 4 * (ix v1)) 2 x_2) (fun r_5 x_6 => (if r_5 = 0 then (gd (inb v1 5) (bd (fX2_hasPlace ((79 + 4 * (ix v1)) + 2) v2 x_6) (fun r_9 x_10 => (if r_9 = 0 then (some ((-1000000013), x_10)) else (bd (fX2_hasNumber ((79 + 4 * (ix v1)) + 2) v2 x_10) (fun r_12 x_13 => (if r_12 = 0 then (some ((-1000000012), x_13)) else (gd (inb v2 24) (some ((x_13 (((79 + 4 * (ix v1)) + 2) + 1) (ix v2)), x_13)))))))))) else (some (r_5, x_6)))))))))
def fX7_rest (v1 : Int32) (v2 : Int32) (x : XS) : Option (Int32 × XS) :=
  (bd (fX7_isSlot v1 x) (fun r_1 x_2 => (if r_1 = 0 then (some ((-1000000001), x_2)) else (gd (inb v1 5) (bd (fX3_findingFor (79 + 4 * (ix v1)) 3 x_2) (fun r_5 x_6 => (if r_5 = 0 then (if v2 = 0 then (some ((-1000000002), x_6)) else (gd (inb v1 5) (gd (decide (¬ v2 = 0)) (st_ (jrem (x_6 (79 + 4 * (ix v1)) 1) v2) (fun v_11 => (some (v_11, x_6))))))) else (some (r_5, x_6)))))))))
def fX7_tell (v1 : Int32) (x : XS) : Option (Int32 × XS) :=
  (if (x 0 8) < 60 then (gd (inb (x 0 8) 60) (st_ (wr x 39 (ix (x 0 8)) v1) (fun x_3 => (st_ (wr x_3 0 8 ((x_3 0 8) + 1)) (fun x_4 => (some ((x_4 0 8), x_4))))))) else (some ((-1000000003), x)))
def fX7_waits (v1 : Int32) (v2 : Int32) (v3 : Int32) (x : XS) : Option (Int32 × XS) :=
  (if v2 ≤ v1 then (some (0, x)) else (if 60 ≤ v1 then (some (0, x)) else (gd (inb v1 60) (if (x 39 (ix v1)) = v3 then (some (1, x)) else (some (0, x))))))
def bX7_check_h65 (k65 : Int32 → Int32 → Int32 → XS → Option (Int32 × XS)) (u2 : Int32) (u3 : Int32) (u4 : Int32) (x : XS) : Option (Int32 × XS) :=
  (if u3 ≤ u4 then (if u2 ≤ (2 * u3) then (some (0, x)) else (some ((1 + (2 * u3)), x))) else (bd (fX4_passMinute 26 x) (fun r_11 x_12 => (bd (fX4_purses 26 x_12) (fun r_13 x_14 => (bd (fX7_waits (2 * u4) u2 r_13 x_14) (fun r_15 x_16 => (if r_15 = 0 then (some ((1 + (2 * u4)), x_16)) else (bd (fX7_waits ((2 * u4) + 1) u2 (x_16 26 7) x_16) (fun r_18 x_19 => (if r_18 = 0 then (some ((2 + (2 * u4)), x_19)) else (st_ (u4 + 1) (fun v_21 => (k65 u2 u3 v_21 x_19))))))))))))))
def lX7_check_h65 (n : Nat) : Int32 → Int32 → Int32 → XS → Option (Int32 × XS) := lp (bX7_check_h65) (fun _ _ _ _ => none) n
def fX7_check_h65 : Int32 → Int32 → Int32 → XS → Option (Int32 × XS) := lX7_check_h65  FU
def fX7_check (v1 : Int32) (x : XS) : Option (Int32 × XS) :=
  (st_ ((x 0 8)) (fun v_1 => (st_ (wr x 0 8 0) (fun x_2 => (if v1 < 1 then (some ((-1000000001), x_2)) else (if v1 ≤ 30 then (if (x_2 0 9) = 0 then (some ((-1000000002), x_2)) else (bd (fX4_become 26 15 x_2) (fun _ x_7 => (st_ (jmin v1 (9999 - (x_7 15 8))) (fun v_8 => (fX7_check_h65 v_1 v_8 0 x_7)))))) else (some ((-1000000001), x_2))))))))
def fX7_keep (x : XS) : Option (Int32 × XS) :=
  (bd (fX4_become 15 4 x) (fun _ x_2 => (st_ (wr x_2 0 9 1) (fun x_3 => (some ((x_3 15 2), x_3))))))
def fX7_back (x : XS) : Option (Int32 × XS) :=
  (if (x 0 9) = 0 then (some ((-1000000002), x)) else (bd (fX4_become 4 15 x) (fun _ x_3 => (some ((x_3 4 2), x_3)))))
def fX7_count (v1 : Int32) (x : XS) : Option (Int32 × XS) :=
  (if v1 = 0 then (some ((x 4 2), x)) else (if v1 = 1 then (some ((x 4 8), x)) else (if v1 = 2 then (some ((x 4 4), x)) else (if v1 = 3 then (some ((x 4 6), x)) else (if v1 = 4 then (if (x 4 10) = 0 then (some (0, x)) else (some (1, x))) else (if v1 = 5 then (some ((x 4 3), x)) else (if v1 = 6 then (some ((x 0 8), x)) else (if v1 = 7 then (some ((x 2 0), x)) else (if v1 = 8 then (some ((x 4 9), x)) else (some ((-1000000001), x)))))))))))
def fX8_in (v0 : Int32) (v1 : Int32) (v2 : Int32) (x : XS) : Option (Int32 × XS) :=
  (if v0 < v1 then (some (0, x)) else (if v2 < v0 then (some (0, x)) else (some (1, x))))
def fX8_within (v0 : Int32) (v1 : Int32) (v2 : Int32) (x : XS) : Option (Int32 × XS) :=
  (if v1 ≤ v0 then (if v0 ≤ v2 then (some (v0, x)) else (some (v2, x))) else (some (v1, x)))
def bX8_copyAll_h2 (a0 : Nat) (a1 : Nat) (k2 : Int32 → XS → Option (Unit × XS)) (u2 : Int32) (x : XS) : Option (Unit × XS) :=
  (if 1437 ≤ u2 then (some ((), x)) else (gd (inb u2 1437) (gd (inb u2 1437) (st_ (wr x a1 (ix u2) (x a0 (ix u2))) (fun x_4 => (st_ (u2 + 1) (fun v_5 => (k2 v_5 x_4))))))))
def lX8_copyAll_h2 (a0 : Nat) (a1 : Nat) (n : Nat) : Int32 → XS → Option (Unit × XS) := lp (bX8_copyAll_h2 a0 a1) (fun _ _ => none) n
def fX8_copyAll_h2 (a0 : Nat) (a1 : Nat) : Int32 → XS → Option (Unit × XS) := lX8_copyAll_h2 a0 a1 FU
def fX8_copyAll (a0 : Nat) (a1 : Nat) (x : XS) : Option (Unit × XS) :=
  (fX8_copyAll_h2 a0 a1 0 x)
def fX8_told0 (v0 : Int32) (x : XS) : Option (Int32 × XS) :=
  (if 0 ≤ v0 then (some (v0, x)) else (some ((-1000000005), x)))
def fX8_isBoy (v1 : Int32) (x : XS) : Option (Int32 × XS) :=
  (gd (inb 1 1437) (bd (fX8_in v1 0 ((x 100 (ix 1)) - 1) x) (fun r_2 x_3 => (gd (isB r_2) (some (r_2, x_3))))))
def fX8_of (v1 : Int32) (v2 : Int32) (x : XS) : Option (Int32 × XS) :=
  (gd (inb ((9 + (7 * v1)) + v2) 1437) (some ((x 100 (ix ((9 + (7 * v1)) + v2))), x)))
def fX8_put (v1 : Int32) (v2 : Int32) (v3 : Int32) (x : XS) : Option (Unit × XS) :=
  (gd (inb ((9 + (7 * v1)) + v2) 1437) (st_ (wr x 100 (ix ((9 + (7 * v1)) + v2)) v3) (fun x_2 => (some ((), x_2)))))
def fX8_becomes (v1 : Int32) (v2 : Int32) (x : XS) : Option (Int32 × XS) :=
  (gd (inb v1 1437) (st_ ((x 100 (ix v1))) (fun v_2 => (gd (inb v1 1437) (st_ (wr x 100 (ix v1) v2) (fun x_4 => (some (v_2, x_4))))))))
def fX8_comes (v1 : Int32) (v2 : Int32) (v3 : Int32) (v4 : Int32) (x : XS) : Option (Int32 × XS) :=
  (gd (inb 1 1437) (st_ ((x 100 (ix 1))) (fun v_2 => (bd (fX8_put v_2 0 v1 x) (fun _ x_4 => (bd (fX8_put v_2 1 v2 x_4) (fun _ x_6 => (bd (fX8_put v_2 2 v3 x_6) (fun _ x_8 => (bd (fX8_put v_2 3 v4 x_8) (fun _ x_10 => (bd (fX8_put v_2 4 0 x_10) (fun _ x_12 => (bd (fX8_put v_2 5 0 x_12) (fun _ x_14 => (bd (fX8_put v_2 6 0 x_14) (fun _ x_16 => (gd (inb 1 1437) (gd (inb 1 1437) (st_ (wr x_16 100 (ix 1) ((x_16 100 (ix 1)) + 1)) (fun x_19 => (some (v_2, x_19)))))))))))))))))))))))
def fX8_isOf_h11 (u0 : Int32) (s0 : Int32) (s1 : Int32) (x : XS) : Option (Int32 × XS) :=
  (if u0 = 1 then (bd (fX8_in s0 s1 9 x) (fun r_10 x_11 => (gd (isB r_10) (some (r_10, x_11))))) else (if u0 = 2 then (bd (fX8_in s0 s1 99 x) (fun r_7 x_8 => (gd (isB r_7) (some (r_7, x_8))))) else (bd (fX8_in s0 s1 20 x) (fun r_4 x_5 => (gd (isB r_4) (some (r_4, x_5)))))))
def fX8_isOf (v0 : Int32) (v1 : Int32) (x : XS) : Option (Int32 × XS) :=
  (if v0 = 1 then (fX8_isOf_h11 v0 v1 0 x) else (fX8_isOf_h11 v0 v1 1 x))
def fX8_boy (v1 : Int32) (v2 : Int32) (v3 : Int32) (v4 : Int32) (x : XS) : Option (Int32 × XS) :=
  (bd (fX8_in v1 0 5 x) (fun r_1 x_2 => (if r_1 = 0 then (some ((-1000000001), x_2)) else (bd (fX8_isOf 1 v2 x_2) (fun r_4 x_5 => (if r_4 = 0 then (some ((-1000000001), x_5)) else (bd (fX8_isOf 2 v3 x_5) (fun r_7 x_8 => (if r_7 = 0 then (some ((-1000000001), x_8)) else (bd (fX8_isOf 3 v4 x_8) (fun r_10 x_11 => (if r_10 = 0 then (some ((-1000000001), x_11)) else (gd (inb 1 1437) (if (x_11 100 (ix 1)) = 8 then (some ((-1000000003), x_11)) else (bd (fX8_comes v1 v2 v3 v4 x_11) (fun r_15 x_16 => (some (r_15, x_16))))))))))))))))))
def bX8_counts_h10 (k10 : Int32 → Int32 → XS → Option (Int32 × XS)) (u1 : Int32) (u2 : Int32) (x : XS) : Option (Int32 × XS) :=
  (if u2 < 0 then (some ((-1), x)) else (gd (inb (65 + (2 * u2)) 1437) (st_ (jdiv (x 100 (ix (65 + (2 * u2)))) 1000) (fun v_5 => (if v_5 = u1 then (some (u2, x)) else (st_ (u2 + (-1)) (fun v_7 => (k10 u1 v_7 x))))))))
def lX8_counts_h10 (n : Nat) : Int32 → Int32 → XS → Option (Int32 × XS) := lp (bX8_counts_h10) (fun _ _ _ => none) n
def fX8_counts_h10 : Int32 → Int32 → XS → Option (Int32 × XS) := lX8_counts_h10  FU
def fX8_counts (v1 : Int32) (x : XS) : Option (Int32 × XS) :=
  (gd (inb 8 1437) (st_ (((x 100 (ix 8)) - 1)) (fun v_2 => (fX8_counts_h10 v1 v_2 x))))
def fX8_two (v0 : Int32) (v1 : Int32) (v2 : Int32) (x : XS) : Option (Int32 × XS) :=
  (if v0 = (-8) then (some ((v1 * v2), x)) else (if v0 = (-7) then (some ((v1 - v2), x)) else (if v0 = (-6) then (some ((v1 + v2), x)) else (if v0 = (-5) then (if v1 ≤ v2 then (some (0, x)) else (some (1, x))) else (if v0 = (-4) then (if v1 = v2 then (some (1, x)) else (some (0, x))) else (if v0 = (-3) then (if v2 ≤ v1 then (some (0, x)) else (some (1, x))) else (if v0 = (-2) then (if v1 = 0 then (some (0, x)) else (if v2 = 0 then (some (0, x)) else (some (1, x)))) else (if v0 = (-1) then (if v1 = 0 then (if v2 = 0 then (some (0, x)) else (some (1, x))) else (some (1, x))) else (if v2 = 0 then (some (0, x)) else (gd (decide (¬ v2 = 0)) (st_ (jdiv v1 v2) (fun v_18 => (some (v_18, x))))))))))))))
def bX8_worksOut_h21 (k21 : Int32 → Int32 → Int32 → Int32 → XS → Option (Int32 × XS)) (u1 : Int32) (u2 : Int32) (u3 : Int32) (u4 : Int32) (x : XS) : Option (Int32 × XS) :=
  (if u3 ≤ u4 then (gd (inb 0 96) (some ((x 110 (ix 0)), x))) else (gd (inb ((93 + (96 * u1)) + u4) 1437) (st_ ((x 100 (ix ((93 + (96 * u1)) + u4)))) (fun v_6 => (if v_6 < 0 then (if v_6 = (-10) then (gd (inb (u2 - 1) 96) (if (x 110 (ix (u2 - 1))) = 0 then (gd (inb (u2 - 1) 96) (st_ (wr x 110 (ix (u2 - 1)) 1) (fun x_23 => (st_ (u4 + 1) (fun v_24 => (k21 u1 u2 u3 v_24 x_23)))))) else (gd (inb (u2 - 1) 96) (st_ (wr x 110 (ix (u2 - 1)) 0) (fun x_20 => (st_ (u4 + 1) (fun v_21 => (k21 u1 u2 u3 v_21 x_20)))))))) else (st_ (u2 + (-1)) (fun v_9 => (gd (inb (v_9 - 1) 96) (gd (inb v_9 96) (bd (fX8_two v_6 (x 110 (ix (v_9 - 1))) (x 110 (ix v_9)) x) (fun r_12 x_13 => (gd (inb (v_9 - 1) 96) (st_ (wr x_13 110 (ix (v_9 - 1)) r_12) (fun x_15 => (st_ (u4 + 1) (fun v_16 => (k21 u1 v_9 u3 v_16 x_15))))))))))))) else (if 10000 ≤ v_6 then (gd (inb (v_6 - 10000) 4) (gd (inb u2 96) (st_ (wr x 110 (ix u2) (x 111 (ix (v_6 - 10000)))) (fun x_28 => (st_ (u2 + 1) (fun v_29 => (st_ (u4 + 1) (fun v_30 => (k21 u1 v_29 u3 v_30 x_28))))))))) else (gd (inb u2 96) (st_ (wr x 110 (ix u2) v_6) (fun x_32 => (st_ (u2 + 1) (fun v_33 => (st_ (u4 + 1) (fun v_34 => (k21 u1 v_33 u3 v_34 x_32))))))))))))))
def lX8_worksOut_h21 (n : Nat) : Int32 → Int32 → Int32 → Int32 → XS → Option (Int32 × XS) := lp (bX8_worksOut_h21) (fun _ _ _ _ _ => none) n
def fX8_worksOut_h21 : Int32 → Int32 → Int32 → Int32 → XS → Option (Int32 × XS) := lX8_worksOut_h21  FU
def fX8_worksOut (v1 : Int32) (x : XS) : Option (Int32 × XS) :=
  (gd (inb (65 + (2 * v1)) 1437) (st_ (jrem (x 100 (ix (65 + (2 * v1)))) 1000) (fun v_2 => (fX8_worksOut_h21 v1 0 v_2 0 x))))
def fX8_plainOf (v1 : Int32) (v2 : Int32) (v3 : Int32) (x : XS) : Option (Int32 × XS) :=
  (bd (fX8_counts 0 x) (fun r_1 x_2 => (gd (inb 0 4) (st_ (wr x_2 111 (ix 0) v2) (fun x_4 => (gd (inb 1 4) (st_ (wr x_4 111 (ix 1) v3) (fun x_6 => (bd (fX8_of v1 1 x_6) (fun r_7 x_8 => (gd (inb 2 4) (st_ (wr x_8 111 (ix 2) r_7) (fun x_10 => (if 0 ≤ r_1 then (bd (fX8_worksOut r_1 x_10) (fun r_12 x_13 => (bd (fX8_within r_12 0 999 x_13) (fun r_14 x_15 => (some (r_14, x_15)))))) else (gd (decide (¬ (1 + v2) = 0)) (st_ (jdiv 60 (1 + v2)) (fun v_17 => (bd (fX8_within ((100 - v_17) - (3 * v3)) 0 999 x_10) (fun r_18 x_19 => (some (r_18, x_19)))))))))))))))))))))
def fX8_shineOf (v1 : Int32) (v2 : Int32) (v3 : Int32) (x : XS) : Option (Int32 × XS) :=
  (bd (fX8_of v1 0 x) (fun r_1 x_2 => (if r_1 = 1 then (bd (fX8_plainOf v1 v2 v3 x_2) (fun r_4 x_5 => (bd (fX8_within (r_4 - 5) 0 999 x_5) (fun r_6 x_7 => (some (r_6, x_7)))))) else (if r_1 = 2 then (bd (fX8_plainOf v1 v2 v3 x_2) (fun r_9 x_10 => (some ((r_9 + 10), x_10)))) else (if r_1 = 3 then (bd (fX8_plainOf v1 (2 * v2) v3 x_2) (fun r_12 x_13 => (bd (fX8_within (r_12 - 5) 0 999 x_13) (fun r_14 x_15 => (some (r_14, x_15)))))) else (if r_1 = 4 then (bd (fX8_plainOf v1 v2 v3 x_2) (fun r_17 x_18 => (if v2 ≤ 12 then (st_ (jdiv (r_17 + 10) 1) (fun v_20 => (some (v_20, x_18)))) else (st_ (jdiv (r_17 + 10) 2) (fun v_21 => (some (v_21, x_18))))))) else (if r_1 = 5 then (bd (fX8_plainOf v1 v2 0 x_2) (fun r_23 x_24 => (some (r_23, x_24)))) else (bd (fX8_plainOf v1 v2 v3 x_2) (fun r_25 x_26 => (some (r_25, x_26)))))))))))
def fX8_takesOf (v1 : Int32) (x : XS) : Option (Int32 × XS) :=
  (bd (fX8_of v1 3 x) (fun r_1 x_2 => (bd (fX8_of v1 0 x_2) (fun r_3 x_4 => (if r_3 = 1 then (st_ (jdiv r_1 4) (fun v_6 => (some ((1 + v_6), x_4)))) else (if r_3 = 2 then (st_ (jdiv r_1 2) (fun v_8 => (some ((3 + v_8), x_4)))) else (if r_3 = 3 then (st_ (jdiv r_1 6) (fun v_10 => (some ((1 + v_10), x_4)))) else (if r_3 = 4 then (st_ (jdiv r_1 2) (fun v_12 => (some ((3 + v_12), x_4)))) else (st_ (jdiv r_1 2) (fun v_13 => (some ((1 + v_13), x_4))))))))))))
def fX8_asksOf (v1 : Int32) (x : XS) : Option (Int32 × XS) :=
  (bd (fX8_of v1 2 x) (fun r_1 x_2 => (bd (fX8_of v1 0 x_2) (fun r_3 x_4 => (if r_3 = 2 then (some ((r_1 + 3), x_4)) else (if r_3 = 3 then (some (r_1, x_4)) else (if r_3 = 4 then (some ((2 * (r_1 + 3)), x_4)) else (if r_3 = 5 then (if 3 ≤ r_1 then (some ((r_1 - 2), x_4)) else (some (1, x_4))) else (some (r_1, x_4))))))))))
def fX8_worthOf (v1 : Int32) (x : XS) : Option (Int32 × XS) :=
  (bd (fX8_of v1 2 x) (fun r_1 x_2 => (bd (fX8_of v1 0 x_2) (fun r_3 x_4 => (if r_3 = 1 then (some ((r_1 + 8), x_4)) else (if r_3 = 2 then (some ((99 - r_1), x_4)) else (if r_3 = 3 then (some ((2 * (r_1 + 8)), x_4)) else (if r_3 = 4 then (some ((94 - r_1), x_4)) else (if r_3 = 5 then (some (2, x_4)) else (some (r_1, x_4)))))))))))
def fX8_told (v1 : Int32) (v2 : Int32) (x : XS) : Option (Int32 × XS) :=
  (bd (fX8_isBoy v1 x) (fun r_1 x_2 => (if r_1 = 0 then (some ((-1000000001), x_2)) else (bd (fX8_in v2 0 9 x_2) (fun r_4 x_5 => (if r_4 = 0 then (some ((-1000000001), x_5)) else (if 7 ≤ v2 then (if v2 = 7 then (bd (fX8_takesOf v1 x_5) (fun r_14 x_15 => (some (r_14, x_15)))) else (if v2 = 8 then (bd (fX8_asksOf v1 x_5) (fun r_12 x_13 => (some (r_12, x_13)))) else (bd (fX8_worthOf v1 x_5) (fun r_10 x_11 => (some (r_10, x_11)))))) else (bd (fX8_of v1 v2 x_5) (fun r_16 x_17 => (some (r_16, x_17)))))))))))
def fX8_shine (v1 : Int32) (v2 : Int32) (v3 : Int32) (x : XS) : Option (Int32 × XS) :=
  (bd (fX8_isBoy v1 x) (fun r_1 x_2 => (if r_1 = 0 then (some ((-1000000001), x_2)) else (bd (fX8_in v2 0 40 x_2) (fun r_4 x_5 => (if r_4 = 0 then (some ((-1000000001), x_5)) else (bd (fX8_in v3 0 9 x_5) (fun r_7 x_8 => (if r_7 = 0 then (some ((-1000000001), x_8)) else (bd (fX8_shineOf v1 v2 v3 x_8) (fun r_10 x_11 => (some (r_10, x_11)))))))))))))
def fX8_isUnder_h19 (u0 : Int32) (u1 : Int32) (x : XS) : Option (Int32 × XS) :=
  (if u1 = 2 then (if u0 = 4 then (some (1, x)) else (some (0, x))) else (some (0, x)))
def fX8_isUnder (v0 : Int32) (v1 : Int32) (x : XS) : Option (Int32 × XS) :=
  (if v1 = 0 then (some (1, x)) else (if v0 = v1 then (some (1, x)) else (if v1 = 1 then (if v0 = 3 then (some (1, x)) else (fX8_isUnder_h19 v0 v1 x)) else (fX8_isUnder_h19 v0 v1 x))))
def fX8_as (v1 : Int32) (v2 : Int32) (x : XS) : Option (Int32 × XS) :=
  (bd (fX8_isBoy v1 x) (fun r_1 x_2 => (if r_1 = 0 then (some ((-1000000001), x_2)) else (bd (fX8_in v2 0 5 x_2) (fun r_4 x_5 => (if r_4 = 0 then (some ((-1000000001), x_5)) else (bd (fX8_of v1 0 x_5) (fun r_7 x_8 => (bd (fX8_isUnder r_7 v2 x_8) (fun r_9 x_10 => (if r_9 = 0 then (some ((-1000000012), x_10)) else (bd (fX8_of v1 2 x_10) (fun r_12 x_13 => (some (r_12, x_13)))))))))))))))
def fX8_turns (v1 : Int32) (v2 : Int32) (x : XS) : Option (Int32 × XS) :=
  (bd (fX8_isBoy v1 x) (fun r_1 x_2 => (if r_1 = 0 then (some ((-1000000001), x_2)) else (bd (fX8_in v2 0 5 x_2) (fun r_4 x_5 => (if r_4 = 0 then (some ((-1000000001), x_5)) else (bd (fX8_becomes (9 + (7 * v1)) v2 x_5) (fun r_7 x_8 => (some (r_7, x_8))))))))))
def fX8_set (v1 : Int32) (v2 : Int32) (v3 : Int32) (x : XS) : Option (Int32 × XS) :=
  (bd (fX8_isBoy v1 x) (fun r_1 x_2 => (if r_1 = 0 then (some ((-1000000001), x_2)) else (bd (fX8_in v2 1 3 x_2) (fun r_4 x_5 => (if r_4 = 0 then (some ((-1000000001), x_5)) else (bd (fX8_isOf v2 v3 x_5) (fun r_7 x_8 => (if r_7 = 0 then (some ((-1000000001), x_8)) else (bd (fX8_becomes ((9 + (7 * v1)) + v2) v3 x_8) (fun r_10 x_11 => (some (r_10, x_11)))))))))))))
def fX8_draw (x : XS) : Option (Int32 × XS) :=
  (gd (inb 0 1437) (gd (inb 0 1437) (st_ (wr x 100 (ix 0) (((x 100 (ix 0)) * 1103515245) + 12345)) (fun x_3 => (gd (inb 0 1437) (st_ (jushr (x_3 100 (ix 0)) 8) (fun v_5 => (some (v_5, x_3)))))))))
def bX8_deal_h15 (k15 : Int32 → Int32 → XS → Option (Int32 × XS)) (u1 : Int32) (u2 : Int32) (x : XS) : Option (Int32 × XS) :=
  (if u1 ≤ u2 then (some (u2, x)) else (gd (inb 1 1437) (if 8 ≤ (x 100 (ix 1)) then (some (u2, x)) else (bd (fX8_draw x) (fun r_7 x_8 => (st_ (jrem r_7 6) (fun v_9 => (bd (fX8_draw x_8) (fun r_10 x_11 => (st_ (jrem r_10 10) (fun v_12 => (bd (fX8_draw x_11) (fun r_13 x_14 => (st_ (jrem r_13 20) (fun v_15 => (st_ ((1 + v_15)) (fun v_16 => (bd (fX8_draw x_14) (fun r_17 x_18 => (st_ (jrem r_17 12) (fun v_19 => (bd (fX8_comes v_9 v_12 v_16 (1 + v_19) x_18) (fun r_20 x_21 => (st_ (u2 + 1) (fun v_22 => (k15 u1 v_22 x_21))))))))))))))))))))))))))
def lX8_deal_h15 (n : Nat) : Int32 → Int32 → XS → Option (Int32 × XS) := lp (bX8_deal_h15) (fun _ _ _ => none) n
def fX8_deal_h15 : Int32 → Int32 → XS → Option (Int32 × XS) := lX8_deal_h15  FU
def fX8_deal (v1 : Int32) (x : XS) : Option (Int32 × XS) :=
  (bd (fX8_in v1 1 8 x) (fun r_1 x_2 => (if r_1 = 0 then (some ((-1000000001), x_2)) else (fX8_deal_h15 v1 0 x_2))))
def fX8_seed (v1 : Int32) (x : XS) : Option (Int32 × XS) :=
  (bd (fX8_becomes 0 v1 x) (fun r_1 x_2 => (some (r_1, x_2))))
def fX8_rule_h31 (u1 : Int32) (u2 : Int32) (s0 : Int32) (s1 : Int32) (s2 : Int32) (x : XS) : Option (Int32 × XS) :=
  (bd (fX8_in s0 s1 s2 x) (fun r_6 x_7 => (if r_6 = 0 then (some ((-1000000001), x_7)) else (bd (fX8_becomes (3 + u1) u2 x_7) (fun r_9 x_10 => (some (r_9, x_10)))))))
def fX8_rule (v1 : Int32) (v2 : Int32) (x : XS) : Option (Int32 × XS) :=
  (bd (fX8_in v1 0 2 x) (fun r_1 x_2 => (if r_1 = 0 then (some ((-1000000001), x_2)) else (if v1 = 0 then (fX8_rule_h31 v1 v2 v2 0 99 x_2) else (if v1 = 1 then (fX8_rule_h31 v1 v2 v2 0 100 x_2) else (fX8_rule_h31 v1 v2 v2 0 1 x_2))))))
def fX8_apart (v0 : Int32) (v1 : Int32) (x : XS) : Option (Int32 × XS) :=
  (if v1 ≤ v0 then (some ((v0 - v1), x)) else (some ((v1 - v0), x)))
def fX8_boyFor_h89 (k8 : Int32 → Int32 → Int32 → Int32 → Int32 → XS → Option (Int32 × XS)) (u1 : Int32) (u2 : Int32) (u3 : Int32) (u4 : Int32) (u5 : Int32) (x : XS) : Option (Int32 × XS) :=
  (st_ (u5 + 1) (fun v_19 => (k8 u1 u2 u3 u4 v_19 x)))
def bX8_boyFor_h8 (k8 : Int32 → Int32 → Int32 → Int32 → Int32 → XS → Option (Int32 × XS)) (u1 : Int32) (u2 : Int32) (u3 : Int32) (u4 : Int32) (u5 : Int32) (x : XS) : Option (Int32 × XS) :=
  (gd (inb 1 1437) (if (x 100 (ix 1)) ≤ u5 then (some (u3, x)) else (if u5 = (x 99 4) then (fX8_boyFor_h89 k8 u1 u2 u3 u4 u5 x) else (bd (fX8_of u5 5 x) (fun r_4 x_5 => (if 0 < r_4 then (fX8_boyFor_h89 k8 u1 u2 u3 u4 u5 x_5) else (bd (fX8_takesOf u5 x_5) (fun r_7 x_8 => (if r_7 ≤ u2 then (bd (fX8_asksOf u5 x_8) (fun r_10 x_11 => (bd (fX8_of u5 1 x_11) (fun r_12 x_13 => (bd (fX8_apart r_12 u1 x_13) (fun r_14 x_15 => (st_ ((r_10 + r_14)) (fun v_16 => (if u3 < 0 then (fX8_boyFor_h89 k8 u1 u2 u5 v_16 u5 x_15) else (if u4 ≤ v_16 then (fX8_boyFor_h89 k8 u1 u2 u3 u4 u5 x_15) else (fX8_boyFor_h89 k8 u1 u2 u5 v_16 u5 x_15))))))))))) else (fX8_boyFor_h89 k8 u1 u2 u3 u4 u5 x_8))))))))))
def lX8_boyFor_h8 (n : Nat) : Int32 → Int32 → Int32 → Int32 → Int32 → XS → Option (Int32 × XS) := lp (bX8_boyFor_h8) (fun _ _ _ _ _ _ => none) n
def fX8_boyFor_h8 : Int32 → Int32 → Int32 → Int32 → Int32 → XS → Option (Int32 × XS) := lX8_boyFor_h8  FU
def fX8_boyFor (v1 : Int32) (v2 : Int32) (x : XS) : Option (Int32 × XS) :=
  (fX8_boyFor_h8 v1 v2 (-1) 0 0 x)
def fX8_serves_h40 (u1 : Int32) (s0 : Int32) (x : XS) : Option (Unit × XS) :=
  (gd (inb 3 1437) (st_ (jdiv (s0 * (x 100 (ix 3))) 100) (fun v_10 => (bd (fX8_takesOf u1 x) (fun r_11 x_12 => (bd (fX8_put u1 5 r_11 x_12) (fun _ x_14 => (bd (fX8_of u1 6 x_14) (fun r_15 x_16 => (bd (fX8_put u1 6 (r_15 + 1) x_16) (fun _ x_18 => (bd (fX8_of u1 4 x_18) (fun r_19 x_20 => (bd (fX8_put u1 4 ((r_19 + s0) - v_10) x_20) (fun _ x_22 => (gd (inb 6 1437) (gd (inb 6 1437) (st_ (wr x_22 100 (ix 6) ((x_22 100 (ix 6)) + v_10)) (fun x_25 => (some ((), x_25)))))))))))))))))))))
def fX8_serves (v1 : Int32) (v2 : Int32) (x : XS) : Option (Unit × XS) :=
  (bd (fX8_of v1 3 x) (fun r_1 x_2 => (bd (fX8_shineOf v1 r_1 v2 x_2) (fun r_3 x_4 => (if 30 ≤ r_3 then (bd (fX8_asksOf v1 x_4) (fun r_6 x_7 => (if 90 ≤ r_3 then (fX8_serves_h40 v1 (r_6 + 1) x_7) else (fX8_serves_h40 v1 (r_6 + 0) x_7)))) else (fX8_serves_h40 v1 0 x_4))))))
def fX8_man (x : XS) : Option (Unit × XS) :=
  (bd (fX8_draw x) (fun r_1 x_2 => (st_ (jrem r_1 10) (fun v_3 => (bd (fX8_draw x_2) (fun r_4 x_5 => (st_ (jrem r_4 10) (fun v_6 => (bd (fX8_draw x_5) (fun r_7 x_8 => (st_ (jrem r_7 9) (fun v_9 => (st_ ((1 + v_9)) (fun v_10 => (bd (fX8_boyFor v_3 v_10 x_8) (fun r_11 x_12 => (if 0 ≤ r_11 then (bd (fX8_serves r_11 v_6 x_12) (fun _ x_15 => (some ((), x_15)))) else (gd (inb 7 1437) (gd (inb 7 1437) (st_ (wr x_12 100 (ix 7) ((x_12 100 (ix 7)) + 1)) (fun x_18 => (some ((), x_18)))))))))))))))))))))))
def bX8_minute_h90 (k90 : Int32 → Int32 → XS → Option (Unit × XS)) (u2 : Int32) (u3 : Int32) (x : XS) : Option (Unit × XS) :=
  (if u2 ≤ u3 then (gd (inb 2 1437) (gd (inb 2 1437) (st_ (wr x 100 (ix 2) ((x 100 (ix 2)) + 1)) (fun x_28 => (some ((), x_28)))))) else (gd (inb 5 1437) (if (x 100 (ix 5)) = 0 then (bd (fX8_man x) (fun _ x_35 => (st_ (u3 + 1) (fun v_36 => (k90 u2 v_36 x_35))))) else (gd (inb 2 1437) (gd (inb 2 1437) (st_ (wr x 100 (ix 2) ((x 100 (ix 2)) + 1)) (fun x_33 => (some ((), x_33)))))))))
def lX8_minute_h90 (n : Nat) : Int32 → Int32 → XS → Option (Unit × XS) := lp (bX8_minute_h90) (fun _ _ _ => none) n
def fX8_minute_h90 : Int32 → Int32 → XS → Option (Unit × XS) := lX8_minute_h90  FU
def fX8_minute_h70 (u1 : Int32) (x : XS) : Option (Unit × XS) :=
  (bd (fX8_draw x) (fun r_19 x_20 => (st_ (jrem r_19 3) (fun v_21 => (if u1 = 1 then (st_ ((v_21 + 2)) (fun v_24 => (fX8_minute_h90 v_24 0 x_20))) else (st_ ((v_21 + 0)) (fun v_23 => (fX8_minute_h90 v_23 0 x_20))))))))
def bX8_minute_h2 (k2 : Int32 → XS → Option (Unit × XS)) (u1 : Int32) (x : XS) : Option (Unit × XS) :=
  (gd (inb 1 1437) (if (x 100 (ix 1)) ≤ u1 then (gd (inb 5 1437) (st_ ((x 100 (ix 5))) (fun v_4 => (bd (fX8_draw x) (fun r_5 x_6 => (st_ (jrem r_5 100) (fun v_7 => (gd (inb 4 1437) (if (x_6 100 (ix 4)) ≤ v_7 then (fX8_minute_h70 v_4 x_6) else (gd (inb 5 1437) (st_ (wr x_6 100 (ix 5) (1 - v_4)) (fun x_11 => (fX8_minute_h70 v_4 x_11))))))))))))) else (bd (fX8_of u1 5 x) (fun r_12 x_13 => (bd (fX8_within (r_12 - 1) 0 99 x_13) (fun r_14 x_15 => (bd (fX8_put u1 5 r_14 x_15) (fun _ x_17 => (st_ (u1 + 1) (fun v_18 => (k2 v_18 x_17)))))))))))
def lX8_minute_h2 (n : Nat) : Int32 → XS → Option (Unit × XS) := lp (bX8_minute_h2) (fun _ _ => none) n
def fX8_minute_h2 : Int32 → XS → Option (Unit × XS) := lX8_minute_h2  FU
def fX8_minute (x : XS) : Option (Unit × XS) :=
  (fX8_minute_h2 0 x)
def bX8_goesOn_h2 (k2 : Int32 → Int32 → XS → Option (Unit × XS)) (u1 : Int32) (u2 : Int32) (x : XS) : Option (Unit × XS) :=
  (if u1 ≤ u2 then (some ((), x)) else (bd (fX8_minute x) (fun _ x_3 => (st_ (u2 + 1) (fun v_4 => (k2 u1 v_4 x_3))))))
def lX8_goesOn_h2 (n : Nat) : Int32 → Int32 → XS → Option (Unit × XS) := lp (bX8_goesOn_h2) (fun _ _ _ => none) n
def fX8_goesOn_h2 : Int32 → Int32 → XS → Option (Unit × XS) := lX8_goesOn_h2  FU
def fX8_goesOn (v1 : Int32) (x : XS) : Option (Unit × XS) :=
  (fX8_goesOn_h2 v1 0 x)
def bX8_sumOf_h4 (k4 : Int32 → Int32 → Int32 → XS → Option (Int32 × XS)) (u1 : Int32) (u2 : Int32) (u3 : Int32) (x : XS) : Option (Int32 × XS) :=
  (gd (inb 1 1437) (if (x 100 (ix 1)) ≤ u3 then (some (u2, x)) else (bd (fX8_of u3 u1 x) (fun r_3 x_4 => (st_ ((u2 + r_3)) (fun v_5 => (st_ (u3 + 1) (fun v_6 => (k4 u1 v_5 v_6 x_4)))))))))
def lX8_sumOf_h4 (n : Nat) : Int32 → Int32 → Int32 → XS → Option (Int32 × XS) := lp (bX8_sumOf_h4) (fun _ _ _ _ => none) n
def fX8_sumOf_h4 : Int32 → Int32 → Int32 → XS → Option (Int32 × XS) := lX8_sumOf_h4  FU
def fX8_sumOf (v1 : Int32) (x : XS) : Option (Int32 × XS) :=
  (fX8_sumOf_h4 v1 0 0 x)
def fX8_minutes (v1 : Int32) (x : XS) : Option (Int32 × XS) :=
  (bd (fX8_in v1 1 300 x) (fun r_1 x_2 => (if r_1 = 0 then (some ((-1000000001), x_2)) else (bd (fX8_sumOf 6 x_2) (fun r_4 x_5 => (gd (inb 2 1437) (bd (fX8_within (9999 - (x_5 100 (ix 2))) 0 v1 x_5) (fun r_7 x_8 => (bd (fX8_goesOn r_7 x_8) (fun _ x_10 => (bd (fX8_sumOf 6 x_10) (fun r_11 x_12 => (some ((r_11 - r_4), x_12))))))))))))))
def bX8_busy_h4 (k4 : Int32 → Int32 → XS → Option (Int32 × XS)) (u1 : Int32) (u2 : Int32) (x : XS) : Option (Int32 × XS) :=
  (gd (inb 1 1437) (if (x 100 (ix 1)) ≤ u2 then (some (u1, x)) else (bd (fX8_of u2 5 x) (fun r_3 x_4 => (if r_3 ≤ 0 then (st_ ((u1 ||| 0)) (fun v_6 => (st_ (u2 + 1) (fun v_7 => (k4 v_6 v_7 x_4))))) else (st_ (jshl 1 u2) (fun v_8 => (st_ ((u1 ||| v_8)) (fun v_9 => (st_ (u2 + 1) (fun v_10 => (k4 v_9 v_10 x_4))))))))))))
def lX8_busy_h4 (n : Nat) : Int32 → Int32 → XS → Option (Int32 × XS) := lp (bX8_busy_h4) (fun _ _ _ => none) n
def fX8_busy_h4 : Int32 → Int32 → XS → Option (Int32 × XS) := lX8_busy_h4  FU
def fX8_busy (x : XS) : Option (Int32 × XS) :=
  (fX8_busy_h4 0 0 x)
def fX8_street (v1 : Int32) (x : XS) : Option (Int32 × XS) :=
  (if v1 = 0 then (bd (fX8_sumOf 4 x) (fun r_2 x_3 => (some (r_2, x_3)))) else (if v1 = 1 then (gd (inb 6 1437) (some ((x 100 (ix 6)), x))) else (if v1 = 2 then (gd (inb 7 1437) (some ((x 100 (ix 7)), x))) else (if v1 = 3 then (bd (fX8_sumOf 6 x) (fun r_9 x_10 => (some (r_9, x_10)))) else (if v1 = 4 then (bd (fX8_busy x) (fun r_12 x_13 => (some (r_12, x_13)))) else (some ((-1000000001), x)))))))
def fX8_goesTo (v1 : Int32) (v2 : Int32) (x : XS) : Option (Int32 × XS) :=
  (bd (fX8_in v1 0 9 x) (fun r_1 x_2 => (if r_1 = 0 then (some ((-1000000001), x_2)) else (bd (fX8_in v2 1 9 x_2) (fun r_4 x_5 => (if r_4 = 0 then (some ((-1000000001), x_5)) else (bd (fX8_boyFor v1 v2 x_5) (fun r_7 x_8 => (bd (fX8_told0 r_7 x_8) (fun r_9 x_10 => (some (r_9, x_10))))))))))))
def bX8_thinks_h2 (k2 : Int32 → XS → Option (Unit × XS)) (u1 : Int32) (x : XS) : Option (Unit × XS) :=
  (if 65 ≤ u1 then (some ((), x)) else (gd (inb u1 1437) (gd (inb u1 65) (st_ (wr x 103 (ix u1) (x 100 (ix u1))) (fun x_4 => (st_ (u1 + 1) (fun v_5 => (k2 v_5 x_4))))))))
def lX8_thinks_h2 (n : Nat) : Int32 → XS → Option (Unit × XS) := lp (bX8_thinks_h2) (fun _ _ => none) n
def fX8_thinks_h2 : Int32 → XS → Option (Unit × XS) := lX8_thinks_h2  FU
def fX8_thinks (x : XS) : Option (Unit × XS) :=
  (fX8_thinks_h2 0 x)
def bX8_putsBack_h2 (k2 : Int32 → XS → Option (Unit × XS)) (u1 : Int32) (x : XS) : Option (Unit × XS) :=
  (if 65 ≤ u1 then (st_ (wr x 99 4 (-1)) (fun x_2 => (some ((), x_2)))) else (gd (inb u1 65) (gd (inb u1 1437) (st_ (wr x 100 (ix u1) (x 103 (ix u1))) (fun x_5 => (st_ (u1 + 1) (fun v_6 => (k2 v_6 x_5))))))))
def lX8_putsBack_h2 (n : Nat) : Int32 → XS → Option (Unit × XS) := lp (bX8_putsBack_h2) (fun _ _ => none) n
def fX8_putsBack_h2 : Int32 → XS → Option (Unit × XS) := lX8_putsBack_h2  FU
def fX8_putsBack (x : XS) : Option (Unit × XS) :=
  (fX8_putsBack_h2 0 x)
def fX8_behind_h33 (u1 : Int32) (u2 : Int32) (x : XS) : Option (Int32 × XS) :=
  (bd (fX8_thinks x) (fun _ x_10 => (bd (fX8_goesOn u1 x_10) (fun _ x_12 => (if u2 ≤ 2 then (bd (fX8_street u2 x_12) (fun r_14 x_15 => (bd (fX8_putsBack x_15) (fun _ x_17 => (some (r_14, x_17)))))) else (bd (fX8_of (u2 - 3) 4 x_12) (fun r_18 x_19 => (bd (fX8_putsBack x_19) (fun _ x_21 => (some (r_18, x_21)))))))))))
def fX8_behind (v1 : Int32) (v2 : Int32) (x : XS) : Option (Int32 × XS) :=
  (bd (fX8_in v1 0 300 x) (fun r_1 x_2 => (if r_1 = 0 then (some ((-1000000001), x_2)) else (if v2 < 0 then (some ((-1000000001), x_2)) else (if v2 ≤ 2 then (fX8_behind_h33 v1 v2 x_2) else (bd (fX8_isBoy (v2 - 3) x_2) (fun r_6 x_7 => (if r_6 = 0 then (some ((-1000000001), x_7)) else (fX8_behind_h33 v1 v2 x_7)))))))))
def bX8_best_h105 (k105 : Int32 → Int32 → Int32 → Int32 → Int32 → Int32 → Int32 → Int32 → XS → Option (Int32 × XS)) (u1 : Int32) (u3 : Int32) (u4 : Int32) (u5 : Int32) (u6 : Int32) (u7 : Int32) (u8 : Int32) (u9 : Int32) (x : XS) : Option (Int32 × XS) :=
  (if u6 < u9 then (if u4 = 0 then (some (u7, x)) else (some (u8, x))) else (bd (fX8_put u1 u5 u9 x) (fun _ x_23 => (bd (fX8_goesOn u3 x_23) (fun _ x_25 => (bd (fX8_of u1 4 x_25) (fun r_26 x_27 => (bd (fX8_putsBack x_27) (fun _ x_29 => (if u7 < 0 then (st_ (u9 + 1) (fun v_31 => (k105 u1 u3 u4 u5 u6 u9 r_26 v_31 x_29))) else (if r_26 ≤ u8 then (st_ (u9 + 1) (fun v_33 => (k105 u1 u3 u4 u5 u6 u7 u8 v_33 x_29))) else (st_ (u9 + 1) (fun v_34 => (k105 u1 u3 u4 u5 u6 u9 r_26 v_34 x_29))))))))))))))
def lX8_best_h105 (n : Nat) : Int32 → Int32 → Int32 → Int32 → Int32 → Int32 → Int32 → Int32 → XS → Option (Int32 × XS) := lp (bX8_best_h105) (fun _ _ _ _ _ _ _ _ _ => none) n
def fX8_best_h105 : Int32 → Int32 → Int32 → Int32 → Int32 → Int32 → Int32 → Int32 → XS → Option (Int32 × XS) := lX8_best_h105  FU
def fX8_best_h85 (u1 : Int32) (u2 : Int32) (u3 : Int32) (u4 : Int32) (u5 : Int32) (s0 : Int32) (x : XS) : Option (Int32 × XS) :=
  (if u2 = 1 then (fX8_best_h105 u1 u3 u4 u5 s0 (-1) 0 0 x) else (fX8_best_h105 u1 u3 u4 u5 s0 (-1) 0 1 x))
def fX8_best_h62 (u1 : Int32) (u2 : Int32) (u3 : Int32) (u4 : Int32) (s0 : Int32) (x : XS) : Option (Int32 × XS) :=
  (if u2 = 0 then (fX8_best_h85 u1 u2 u3 u4 s0 20 x) else (if u2 = 1 then (fX8_best_h85 u1 u2 u3 u4 s0 9 x) else (fX8_best_h85 u1 u2 u3 u4 s0 40 x)))
def fX8_best (v1 : Int32) (v2 : Int32) (v3 : Int32) (v4 : Int32) (x : XS) : Option (Int32 × XS) :=
  (bd (fX8_isBoy v1 x) (fun r_1 x_2 => (if r_1 = 0 then (some ((-1000000001), x_2)) else (bd (fX8_in v2 0 2 x_2) (fun r_4 x_5 => (if r_4 = 0 then (some ((-1000000001), x_5)) else (bd (fX8_in v3 1 60 x_5) (fun r_7 x_8 => (if r_7 = 0 then (some ((-1000000001), x_8)) else (bd (fX8_in v4 0 1 x_8) (fun r_10 x_11 => (if r_10 = 0 then (some ((-1000000001), x_11)) else (bd (fX8_thinks x_11) (fun _ x_14 => (if v2 = 0 then (fX8_best_h62 v1 v2 v3 v4 3 x_14) else (if v2 = 1 then (fX8_best_h62 v1 v2 v3 v4 1 x_14) else (fX8_best_h62 v1 v2 v3 v4 2 x_14)))))))))))))))))
def bX8_bestShare_h34 (k34 : Int32 → Int32 → Int32 → Int32 → Int32 → XS → Option (Int32 × XS)) (u1 : Int32) (u2 : Int32) (u3 : Int32) (u4 : Int32) (u5 : Int32) (x : XS) : Option (Int32 × XS) :=
  (if 100 ≤ u5 then (if u2 = 0 then (some (u3, x)) else (some (u4, x))) else (gd (inb 3 1437) (st_ (wr x 100 (ix 3) u5) (fun x_12 => (bd (fX8_goesOn u1 x_12) (fun _ x_14 => (gd (inb 6 1437) (st_ ((x_14 100 (ix 6))) (fun v_16 => (bd (fX8_putsBack x_14) (fun _ x_18 => (if u3 < 0 then (st_ (u5 + 1) (fun v_20 => (k34 u1 u2 u5 v_16 v_20 x_18))) else (if v_16 ≤ u4 then (st_ (u5 + 1) (fun v_22 => (k34 u1 u2 u3 u4 v_22 x_18))) else (st_ (u5 + 1) (fun v_23 => (k34 u1 u2 u5 v_16 v_23 x_18))))))))))))))))
def lX8_bestShare_h34 (n : Nat) : Int32 → Int32 → Int32 → Int32 → Int32 → XS → Option (Int32 × XS) := lp (bX8_bestShare_h34) (fun _ _ _ _ _ _ => none) n
def fX8_bestShare_h34 : Int32 → Int32 → Int32 → Int32 → Int32 → XS → Option (Int32 × XS) := lX8_bestShare_h34  FU
def fX8_bestShare (v1 : Int32) (v2 : Int32) (x : XS) : Option (Int32 × XS) :=
  (bd (fX8_in v1 1 60 x) (fun r_1 x_2 => (if r_1 = 0 then (some ((-1000000001), x_2)) else (bd (fX8_in v2 0 1 x_2) (fun r_4 x_5 => (if r_4 = 0 then (some ((-1000000001), x_5)) else (bd (fX8_thinks x_5) (fun _ x_8 => (fX8_bestShare_h34 v1 v2 (-1) 0 0 x_8)))))))))
def bX8_sentAway_h34 (k34 : Int32 → Int32 → Int32 → Int32 → Int32 → XS → Option (Int32 × XS)) (u1 : Int32) (u2 : Int32) (u3 : Int32) (u4 : Int32) (u5 : Int32) (x : XS) : Option (Int32 × XS) :=
  (gd (inb 1 1437) (if (x 100 (ix 1)) ≤ u5 then (if 0 ≤ u3 then (if u2 = 0 then (some (u3, x)) else (some (u4, x))) else (some ((-1000000005), x))) else (st_ (wr x 99 4 u5) (fun x_13 => (bd (fX8_goesOn u1 x_13) (fun _ x_15 => (bd (fX8_sumOf 4 x_15) (fun r_16 x_17 => (bd (fX8_putsBack x_17) (fun _ x_19 => (if u3 < 0 then (st_ (u5 + 1) (fun v_21 => (k34 u1 u2 u5 r_16 v_21 x_19))) else (if r_16 ≤ u4 then (st_ (u5 + 1) (fun v_23 => (k34 u1 u2 u3 u4 v_23 x_19))) else (st_ (u5 + 1) (fun v_24 => (k34 u1 u2 u5 r_16 v_24 x_19)))))))))))))))
def lX8_sentAway_h34 (n : Nat) : Int32 → Int32 → Int32 → Int32 → Int32 → XS → Option (Int32 × XS) := lp (bX8_sentAway_h34) (fun _ _ _ _ _ _ => none) n
def fX8_sentAway_h34 : Int32 → Int32 → Int32 → Int32 → Int32 → XS → Option (Int32 × XS) := lX8_sentAway_h34  FU
def fX8_sentAway (v1 : Int32) (v2 : Int32) (x : XS) : Option (Int32 × XS) :=
  (bd (fX8_in v1 1 60 x) (fun r_1 x_2 => (if r_1 = 0 then (some ((-1000000001), x_2)) else (bd (fX8_in v2 0 1 x_2) (fun r_4 x_5 => (if r_4 = 0 then (some ((-1000000001), x_5)) else (bd (fX8_thinks x_5) (fun _ x_8 => (fX8_sentAway_h34 v1 v2 (-1) 0 0 x_8)))))))))
def fX8_dry (v1 : Int32) (x : XS) : Option (Int32 × XS) :=
  (bd (fX8_in v1 1 60 x) (fun r_1 x_2 => (if r_1 = 0 then (some ((-1000000001), x_2)) else (bd (fX8_thinks x_2) (fun _ x_5 => (bd (fX8_goesOn v1 x_5) (fun _ x_7 => (bd (fX8_sumOf 4 x_7) (fun r_8 x_9 => (bd (fX8_putsBack x_9) (fun _ x_11 => (gd (inb 5 1437) (st_ (wr x_11 100 (ix 5) 0) (fun x_13 => (gd (inb 4 1437) (st_ (wr x_13 100 (ix 4) 0) (fun x_15 => (bd (fX8_goesOn v1 x_15) (fun _ x_17 => (bd (fX8_sumOf 4 x_17) (fun r_18 x_19 => (bd (fX8_putsBack x_19) (fun _ x_21 => (some ((r_18 - r_8), x_21)))))))))))))))))))))))))
def fX8_offBy_h72 (k5 : Int32 → Int32 → Int64 → Int32 → XS → Option (Int64 × XS)) (u1 : Int32) (u2 : Int32) (u5 : Int32) (s0 : Int64) (s1 : Int64) (x : XS) : Option (Int64 × XS) :=
  (st_ ((s0 + s1)) (fun v_13 => (st_ (u5 + 1) (fun v_14 => (k5 u1 u2 v_13 v_14 x)))))
def bX8_offBy_h5 (k5 : Int32 → Int32 → Int64 → Int32 → XS → Option (Int64 × XS)) (u1 : Int32) (u2 : Int32) (u3 : Int64) (u5 : Int32) (x : XS) : Option (Int64 × XS) :=
  (gd (inb u1 4) (if (x 113 (ix u1)) ≤ u5 then (some (u3, x)) else (gd (inb ((24 * u1) + u5) 96) (st_ ((x 114 (ix ((24 * u1) + u5)))) (fun v_4 => (st_ (Int32.toInt64 v_4) (fun v_5 => (bd (fX8_shineOf u2 u5 0 x) (fun r_6 x_7 => (st_ (Int32.toInt64 r_6) (fun v_8 => (st_ ((v_5 - v_8)) (fun v_9 => (if v_4 = (-1000000005) then (fX8_offBy_h72 k5 u1 u2 u5 u3 0 x_7) else (st_ (lg_cmp v_9 0) (fun v_11 => (if 0 ≤ v_11 then (fX8_offBy_h72 k5 u1 u2 u5 u3 v_9 x_7) else (fX8_offBy_h72 k5 u1 u2 u5 u3 (-v_9) x_7))))))))))))))))))
def lX8_offBy_h5 (n : Nat) : Int32 → Int32 → Int64 → Int32 → XS → Option (Int64 × XS) := lp (bX8_offBy_h5) (fun _ _ _ _ _ => none) n
def fX8_offBy_h5 : Int32 → Int32 → Int64 → Int32 → XS → Option (Int64 × XS) := lX8_offBy_h5  FU
def fX8_offBy (v1 : Int32) (v2 : Int32) (x : XS) : Option (Int64 × XS) :=
  (fX8_offBy_h5 v1 v2 0 0 x)
def fX8_isSheet (v0 : Int32) (x : XS) : Option (Int32 × XS) :=
  (bd (fX8_in v0 0 3 x) (fun r_1 x_2 => (gd (isB r_1) (some (r_1, x_2)))))
def bX8_shone_h39 (k39 : Int32 → Int32 → Int32 → Int64 → Int32 → XS → Option (Int32 × XS)) (u1 : Int32) (u2 : Int32) (u3 : Int32) (u4 : Int64) (u6 : Int32) (x : XS) : Option (Int32 × XS) :=
  (gd (inb 1 1437) (if (x 100 (ix 1)) ≤ u6 then (if 0 ≤ u3 then (if u2 = 0 then (some (u3, x)) else (st_ (Int64.toInt32 u4) (fun v_13 => (some (v_13, x))))) else (some ((-1000000005), x))) else (bd (fX8_offBy u1 u6 x) (fun r_14 x_15 => (if u3 < 0 then (st_ (u6 + 1) (fun v_17 => (k39 u1 u2 u6 r_14 v_17 x_15))) else (st_ (lg_cmp r_14 u4) (fun v_18 => (if 0 ≤ v_18 then (st_ (u6 + 1) (fun v_20 => (k39 u1 u2 u3 u4 v_20 x_15))) else (st_ (u6 + 1) (fun v_21 => (k39 u1 u2 u6 r_14 v_21 x_15)))))))))))
def lX8_shone_h39 (n : Nat) : Int32 → Int32 → Int32 → Int64 → Int32 → XS → Option (Int32 × XS) := lp (bX8_shone_h39) (fun _ _ _ _ _ _ => none) n
def fX8_shone_h39 : Int32 → Int32 → Int32 → Int64 → Int32 → XS → Option (Int32 × XS) := lX8_shone_h39  FU
def fX8_shone (v1 : Int32) (v2 : Int32) (x : XS) : Option (Int32 × XS) :=
  (bd (fX8_isSheet v1 x) (fun r_1 x_2 => (if r_1 = 0 then (some ((-1000000001), x_2)) else (bd (fX8_in v2 0 1 x_2) (fun r_4 x_5 => (if r_4 = 0 then (some ((-1000000001), x_5)) else (gd (inb v1 4) (if 0 ≤ (x_5 112 (ix v1)) then (fX8_shone_h39 v1 v2 (-1) 0 0 x_5) else (some ((-1000000011), x_5))))))))))
def fX8_fee (x : XS) : Option (Int32 × XS) :=
  (bd (fX8_counts 1 x) (fun r_1 x_2 => (gd (inb 7 1437) (gd (inb 0 4) (st_ (wr x_2 111 (ix 0) (x_2 100 (ix 7))) (fun x_5 => (gd (inb 6 1437) (gd (inb 1 4) (st_ (wr x_5 111 (ix 1) (x_5 100 (ix 6))) (fun x_8 => (if 0 ≤ r_1 then (bd (fX8_worksOut r_1 x_8) (fun r_10 x_11 => (some (r_10, x_11)))) else (gd (inb 7 1437) (some ((x_8 100 (ix 7)), x_8))))))))))))))
def fX8_fine (v1 : Int32) (x : XS) : Option (Int32 × XS) :=
  (bd (fX8_isBoy v1 x) (fun r_1 x_2 => (if r_1 = 0 then (some ((-1000000001), x_2)) else (bd (fX8_counts 2 x_2) (fun r_4 x_5 => (bd (fX8_of v1 4 x_5) (fun r_6 x_7 => (gd (inb 0 4) (st_ (wr x_7 111 (ix 0) r_6) (fun x_9 => (bd (fX8_of v1 6 x_9) (fun r_10 x_11 => (gd (inb 1 4) (st_ (wr x_11 111 (ix 1) r_10) (fun x_13 => (if 0 ≤ r_4 then (bd (fX8_worksOut r_4 x_13) (fun r_15 x_16 => (some (r_15, x_16)))) else (bd (fX8_of v1 4 x_13) (fun r_17 x_18 => (some (r_17, x_18))))))))))))))))))))
def fX8_feed_h47 (k18 : Int32 → Int32 → Int32 → Int32 → XS → Option (Int32 × XS)) (u1 : Int32) (u2 : Int32) (u3 : Int32) (u4 : Int32) (s0 : Int32) (x : XS) : Option (Int32 × XS) :=
  (st_ (jrem u4 4) (fun v_6 => (st_ (jshr s0 (24 - (8 * v_6))) (fun v_7 => (gd (inb ((x 99 7) + u4) 96) (st_ (wr x 104 (ix ((x 99 7) + u4)) (v_7 &&& 255)) (fun x_9 => (st_ (u4 + 1) (fun v_10 => (k18 u1 u2 u3 v_10 x_9))))))))))
def bX8_feed_h18 (k18 : Int32 → Int32 → Int32 → Int32 → XS → Option (Int32 × XS)) (u1 : Int32) (u2 : Int32) (u3 : Int32) (u4 : Int32) (x : XS) : Option (Int32 × XS) :=
  (if 12 ≤ u4 then (st_ (wr x 99 7 ((x 99 7) + 12)) (fun x_3 => (some ((x_3 99 7), x_3)))) else (if 4 ≤ u4 then (if 8 ≤ u4 then (fX8_feed_h47 k18 u1 u2 u3 u4 u3 x) else (fX8_feed_h47 k18 u1 u2 u3 u4 u2 x)) else (fX8_feed_h47 k18 u1 u2 u3 u4 u1 x)))
def lX8_feed_h18 (n : Nat) : Int32 → Int32 → Int32 → Int32 → XS → Option (Int32 × XS) := lp (bX8_feed_h18) (fun _ _ _ _ _ => none) n
def fX8_feed_h18 : Int32 → Int32 → Int32 → Int32 → XS → Option (Int32 × XS) := lX8_feed_h18  FU
def fX8_feed (v1 : Int32) (v2 : Int32) (v3 : Int32) (x : XS) : Option (Int32 × XS) :=
  (if ((x 99 7) + 12) ≤ 96 then (fX8_feed_h18 v1 v2 v3 0 x) else (some ((-1000000003), x)))
def fX8_trim (v1 : Int32) (x : XS) : Option (Int32 × XS) :=
  (bd (fX8_in v1 0 (x 99 7) x) (fun r_1 x_2 => (if r_1 = 0 then (some ((-1000000001), x_2)) else (st_ (wr x_2 99 7 v1) (fun x_4 => (some (v1, x_4)))))))
def fX8_isLetter (v1 : Int32) (x : XS) : Option (Int32 × XS) :=
  (if (x 99 7) ≤ v1 then (some (0, x)) else (gd (inb v1 96) (if (x 104 (ix v1)) < 97 then (some (0, x)) else (gd (inb v1 96) (if 122 < (x 104 (ix v1)) then (some (0, x)) else (some (1, x)))))))
def fX8_isFigure (v1 : Int32) (x : XS) : Option (Int32 × XS) :=
  (if (x 99 7) ≤ v1 then (some (0, x)) else (gd (inb v1 96) (if (x 104 (ix v1)) < 48 then (some (0, x)) else (gd (inb v1 96) (if 57 < (x 104 (ix v1)) then (some (0, x)) else (some (1, x)))))))
def fX8_go_h127 (s1 : Int32) (x : XS) : Option (Unit × XS) :=
  (st_ (wr x 99 10 s1) (fun x_42 => (gd (inb (x_42 99 9) 96) (st_ (wr x_42 99 11 (x_42 104 (ix (x_42 99 9)))) (fun x_44 => (st_ (wr x_44 99 12 (x_44 99 8)) (fun x_45 => (some ((), x_45)))))))))
def bX8_go_h93 (k93 : Int32 → XS → Option (Unit × XS)) (u1 : Int32) (x : XS) : Option (Unit × XS) :=
  (bd (fX8_isLetter (x 99 8) x) (fun r_37 x_38 => (if r_37 = 0 then (if u1 = 0 then (fX8_go_h127 1 x_38) else (fX8_go_h127 4 x_38)) else (st_ (wr x_38 99 8 ((x_38 99 8) + 1)) (fun x_41 => (k93 u1 x_41))))))
def lX8_go_h93 (n : Nat) : Int32 → XS → Option (Unit × XS) := lp (bX8_go_h93) (fun _ _ => none) n
def fX8_go_h93 : Int32 → XS → Option (Unit × XS) := lX8_go_h93  FU
def bX8_go_h170 (k170 : Int32 → XS → Option (Unit × XS)) (u1 : Int32) (x : XS) : Option (Unit × XS) :=
  (bd (fX8_isFigure (x 99 8) x) (fun r_20 x_21 => (if r_20 = 0 then (if u1 = 0 then (if ((x_21 99 8) - (x_21 99 9)) ≤ 4 then (st_ (wr x_21 99 10 2) (fun x_27 => (st_ (wr x_27 99 12 (x_27 99 8)) (fun x_28 => (some ((), x_28)))))) else (st_ (wr x_21 99 10 4) (fun x_29 => (st_ (wr x_29 99 12 (x_29 99 8)) (fun x_30 => (some ((), x_30))))))) else (st_ (wr x_21 99 10 4) (fun x_24 => (st_ (wr x_24 99 12 (x_24 99 8)) (fun x_25 => (some ((), x_25))))))) else (if 4 ≤ ((x_21 99 8) - (x_21 99 9)) then (st_ (wr x_21 99 11 (x_21 99 11)) (fun x_32 => (st_ (wr x_32 99 8 ((x_32 99 8) + 1)) (fun x_33 => (k170 u1 x_33))))) else (gd (inb (x_21 99 8) 96) (st_ (wr x_21 99 11 (((10 * (x_21 99 11)) + (x_21 104 (ix (x_21 99 8)))) - 48)) (fun x_35 => (st_ (wr x_35 99 8 ((x_35 99 8) + 1)) (fun x_36 => (k170 u1 x_36))))))))))
def lX8_go_h170 (n : Nat) : Int32 → XS → Option (Unit × XS) := lp (bX8_go_h170) (fun _ _ => none) n
def fX8_go_h170 : Int32 → XS → Option (Unit × XS) := lX8_go_h170  FU
def fX8_go_h62 (s0 : Int32) (x : XS) : Option (Unit × XS) :=
  (if (x 99 9) = (x 99 7) then (st_ (wr x 99 10 0) (fun x_19 => (some ((), x_19)))) else (bd (fX8_isLetter (x 99 9) x) (fun r_8 x_9 => (if r_8 = 0 then (bd (fX8_isFigure (x_9 99 9) x_9) (fun r_11 x_12 => (if r_11 = 0 then (st_ (wr x_12 99 10 3) (fun x_14 => (gd (inb (x_14 99 9) 96) (st_ (wr x_14 99 11 (x_14 104 (ix (x_14 99 9)))) (fun x_16 => (st_ (wr x_16 99 8 ((x_16 99 8) + 1)) (fun x_17 => (some ((), x_17))))))))) else (st_ (wr x_12 99 11 0) (fun x_18 => (fX8_go_h170 s0 x_18)))))) else (fX8_go_h93 s0 x_9)))))
def fX8_go_h38 (x : XS) : Option (Unit × XS) :=
  (st_ (wr x 99 9 (x 99 8)) (fun x_5 => (if (x_5 99 9) = (x_5 99 12) then (fX8_go_h62 1 x_5) else (fX8_go_h62 0 x_5))))
def bX8_go_h0 (k0 : XS → Option (Unit × XS)) (x : XS) : Option (Unit × XS) :=
  (if (x 99 7) ≤ (x 99 8) then (fX8_go_h38 x) else (gd (inb (x 99 8) 96) (if (x 104 (ix (x 99 8))) = 32 then (st_ (wr x 99 8 ((x 99 8) + 1)) (fun x_4 => (k0 x_4))) else (fX8_go_h38 x))))
def lX8_go_h0 (n : Nat) : XS → Option (Unit × XS) := lp (bX8_go_h0) (fun _ => none) n
def fX8_go_h0 : XS → Option (Unit × XS) := lX8_go_h0  FU
def fX8_go (x : XS) : Option (Unit × XS) :=
  (fX8_go_h0 x)
def fX8_takesKey_h106 (k12 : Int32 → XS → Option (Int32 × XS)) (u1 : Int32) (u3 : Int32) (x : XS) : Option (Int32 × XS) :=
  (if u3 = 0 then (st_ (u1 + 1) (fun v_16 => (k12 v_16 x))) else (st_ (wr x 99 13 u1) (fun x_17 => (bd (fX8_go x_17) (fun _ x_19 => (some (1, x_19)))))))
def bX8_takesKey_h55 (k12 : Int32 → XS → Option (Int32 × XS)) (k55 : Int32 → Int32 → Int32 → Int32 → XS → Option (Int32 × XS)) (u1 : Int32) (u2 : Int32) (u3 : Int32) (u4 : Int32) (x : XS) : Option (Int32 × XS) :=
  (if u2 ≤ u4 then (fX8_takesKey_h106 k12 u1 u3 x) else (if u3 = 0 then (fX8_takesKey_h106 k12 u1 u3 x) else (gd (inb ((x 99 9) + u4) 96) (gd (inb u1 4) (gd (inb ((x 106 (ix u1)) + u4) 12) (if (x 104 (ix ((x 99 9) + u4))) = (x 105 (ix ((x 106 (ix u1)) + u4))) then (st_ (u4 + 1) (fun v_14 => (k55 u1 u2 1 v_14 x))) else (st_ (u4 + 1) (fun v_13 => (k55 u1 u2 0 v_13 x)))))))))
def lX8_takesKey_h55 (k12 : Int32 → XS → Option (Int32 × XS)) (n : Nat) : Int32 → Int32 → Int32 → Int32 → XS → Option (Int32 × XS) := lp (bX8_takesKey_h55 k12) (fun _ _ _ _ _ => none) n
def fX8_takesKey_h55 (k12 : Int32 → XS → Option (Int32 × XS)) : Int32 → Int32 → Int32 → Int32 → XS → Option (Int32 × XS) := lX8_takesKey_h55 k12 FU
def bX8_takesKey_h12 (k12 : Int32 → XS → Option (Int32 × XS)) (u1 : Int32) (x : XS) : Option (Int32 × XS) :=
  (if 3 ≤ u1 then (some (0, x)) else (gd (inb (u1 + 1) 4) (gd (inb u1 4) (st_ (((x 106 (ix (u1 + 1))) - (x 106 (ix u1)))) (fun v_5 => (if v_5 = ((x 99 8) - (x 99 9)) then (fX8_takesKey_h55 k12 u1 v_5 1 0 x) else (fX8_takesKey_h55 k12 u1 v_5 0 0 x)))))))
def lX8_takesKey_h12 (n : Nat) : Int32 → XS → Option (Int32 × XS) := lp (bX8_takesKey_h12) (fun _ _ => none) n
def fX8_takesKey_h12 : Int32 → XS → Option (Int32 × XS) := lX8_takesKey_h12  FU
def fX8_takesKey (x : XS) : Option (Int32 × XS) :=
  (if (x 99 10) = 1 then (fX8_takesKey_h12 0 x) else (some (0, x)))
def fX8_nameOf (v1 : Int32) (x : XS) : Option (Int32 × XS) :=
  (st_ ((x 99 13)) (fun v_1 => (if v_1 = 0 then (if v1 = 114 then (some (0, x)) else (if v1 = 100 then (some (1, x)) else (if v1 = 112 then (some (2, x)) else (some ((-1), x))))) else (if v_1 = 1 then (if v1 = 108 then (some (0, x)) else (if v1 = 115 then (some (1, x)) else (some ((-1), x)))) else (if v1 = 112 then (some (0, x)) else (if v1 = 100 then (some (1, x)) else (some ((-1), x))))))))
def fX8_rank (v0 : Int32) (x : XS) : Option (Int32 × XS) :=
  (if v0 = (-1) then (some (1, x)) else (if v0 = (-2) then (some (2, x)) else (if v0 < (-5) then (if v0 < (-7) then (if v0 < (-9) then (some (6, x)) else (some (5, x))) else (some (4, x))) else (some (3, x)))))
def bX8_settle_h0 (k0 : Int32 → XS → Option (Unit × XS)) (u1 : Int32) (x : XS) : Option (Unit × XS) :=
  (if (x 99 20) ≤ 0 then (some ((), x)) else (gd (inb ((x 99 20) - 1) 96) (if (x 108 (ix ((x 99 20) - 1))) = (-11) then (some ((), x)) else (gd (inb ((x 99 20) - 1) 96) (bd (fX8_rank (x 108 (ix ((x 99 20) - 1))) x) (fun r_5 x_6 => (if r_5 < u1 then (some ((), x_6)) else (st_ (wr x_6 99 20 ((x_6 99 20) - 1)) (fun x_8 => (gd (inb (x_8 99 20) 96) (gd (inb (x_8 99 17) 96) (st_ (wr x_8 107 (ix (x_8 99 17)) (x_8 108 (ix (x_8 99 20)))) (fun x_11 => (st_ (wr x_11 99 17 ((x_11 99 17) + 1)) (fun x_12 => (k0 u1 x_12))))))))))))))))
def lX8_settle_h0 (n : Nat) : Int32 → XS → Option (Unit × XS) := lp (bX8_settle_h0) (fun _ _ => none) n
def fX8_settle_h0 : Int32 → XS → Option (Unit × XS) := lX8_settle_h0  FU
def fX8_settle (v1 : Int32) (x : XS) : Option (Unit × XS) :=
  (fX8_settle_h0 v1 x)
def fX8_signHere (x : XS) : Option (Int32 × XS) :=
  (if (x 99 10) = 3 then (st_ ((x 99 11)) (fun v_2 => (if v_2 = 38 then (some ((-2), x)) else (if v_2 = 42 then (some ((-8), x)) else (if v_2 = 43 then (some ((-6), x)) else (if v_2 = 45 then (some ((-7), x)) else (if v_2 = 47 then (some ((-9), x)) else (if v_2 = 60 then (some ((-3), x)) else (if v_2 = 61 then (some ((-4), x)) else (if v_2 = 62 then (some ((-5), x)) else (if v_2 = 124 then (some ((-1), x)) else (some (0, x))))))))))))) else (some (0, x)))
def fX8_takesPart_h87 (s1 : Int32) (s2 : Int32) (x : XS) : Option (Int32 × XS) :=
  (gd (inb s1 96) (st_ (wr x 107 (ix s1) s2) (fun x_12 => (st_ (wr x_12 99 17 ((x_12 99 17) + 1)) (fun x_13 => (st_ (wr x_13 99 18 ((x_13 99 18) + 1)) (fun x_14 => (bd (fX8_settle 6 x_14) (fun _ x_16 => (bd (fX8_go x_16) (fun _ x_18 => (some (1, x_18)))))))))))))
def fX8_takesPart_h52 (x : XS) : Option (Int32 × XS) :=
  (if (x 99 10) = 2 then (fX8_takesPart_h87 (x 99 17) (x 99 11) x) else (bd (fX8_nameOf (x 99 11) x) (fun r_9 x_10 => (fX8_takesPart_h87 (x 99 17) (10000 + r_9) x_10))))
def fX8_takesPart_h37 (s0 : Int32) (x : XS) : Option (Int32 × XS) :=
  (if (x 99 10) = 2 then (fX8_takesPart_h52 x) else (if s0 = 0 then (some (0, x)) else (fX8_takesPart_h52 x)))
def fX8_takesPart (x : XS) : Option (Int32 × XS) :=
  (if (x 99 10) = 1 then (if ((x 99 8) - (x 99 9)) = 1 then (bd (fX8_nameOf (x 99 11) x) (fun r_3 x_4 => (if r_3 < 0 then (fX8_takesPart_h37 0 x_4) else (fX8_takesPart_h37 1 x_4)))) else (fX8_takesPart_h37 0 x)) else (fX8_takesPart_h37 0 x))
def bX8_notsOpen_h4 (k4 : Int32 → Int32 → XS → Option (Int32 × XS)) (u1 : Int32) (u2 : Int32) (x : XS) : Option (Int32 × XS) :=
  (if (x 99 20) ≤ u2 then (some (u1, x)) else (gd (inb u2 96) (if (x 108 (ix u2)) = (-10) then (st_ ((u1 + 1)) (fun v_6 => (st_ (u2 + 1) (fun v_7 => (k4 v_6 v_7 x))))) else (st_ ((u1 + 0)) (fun v_4 => (st_ (u2 + 1) (fun v_5 => (k4 v_4 v_5 x))))))))
def lX8_notsOpen_h4 (n : Nat) : Int32 → Int32 → XS → Option (Int32 × XS) := lp (bX8_notsOpen_h4) (fun _ _ _ => none) n
def fX8_notsOpen_h4 : Int32 → Int32 → XS → Option (Int32 × XS) := lX8_notsOpen_h4  FU
def fX8_notsOpen (x : XS) : Option (Int32 × XS) :=
  (fX8_notsOpen_h4 0 0 x)
def fX8_takesE_h172 (k28 : Int32 → Int32 → Int32 → XS → Option (Int32 × XS)) (u1 : Int32) (u3 : Int32) (x : XS) : Option (Int32 × XS) :=
  (bd (fX8_notsOpen x) (fun r_53 x_54 => (k28 u1 r_53 u3 x_54)))
def fX8_takesE_h158 (k28 : Int32 → Int32 → Int32 → XS → Option (Int32 × XS)) (u1 : Int32) (x : XS) : Option (Int32 × XS) :=
  (bd (fX8_takesPart x) (fun r_63 x_64 => (if r_63 = 0 then (some (0, x_64)) else (fX8_takesE_h172 k28 u1 0 x_64))))
def fX8_takesE_h97 (k28 : Int32 → Int32 → Int32 → XS → Option (Int32 × XS)) (u1 : Int32) (u3 : Int32) (x : XS) : Option (Int32 × XS) :=
  (if (x 99 10) = 3 then (if (x 99 11) = 40 then (if 8 ≤ u1 then (fX8_takesE_h158 k28 u1 x) else (gd (inb (x 99 20) 96) (st_ (wr x 108 (ix (x 99 20)) (-11)) (fun x_46 => (st_ (wr x_46 99 20 ((x_46 99 20) + 1)) (fun x_47 => (st_ (u1 + 1) (fun v_48 => (gd (inb v_48 10) (st_ (wr x_47 109 (ix v_48) (vp_nar .boolean 0)) (fun x_50 => (bd (fX8_go x_50) (fun _ x_52 => (fX8_takesE_h172 k28 v_48 u3 x_52)))))))))))))) else (fX8_takesE_h158 k28 u1 x)) else (fX8_takesE_h158 k28 u1 x))
def fX8_takesE_h305 (k28 : Int32 → Int32 → Int32 → XS → Option (Int32 × XS)) (u1 : Int32) (u2 : Int32) (u4 : Int32) (s1 : Int32) (s2 : Int32) (x : XS) : Option (Int32 × XS) :=
  (gd (inb s1 10) (st_ (wr x 109 (ix s1) (vp_nar .boolean s2)) (fun x_67 => (bd (fX8_rank u4 x_67) (fun r_68 x_69 => (bd (fX8_settle r_68 x_69) (fun _ x_71 => (gd (inb (x_71 99 20) 96) (st_ (wr x_71 108 (ix (x_71 99 20)) u4) (fun x_73 => (st_ (wr x_73 99 20 ((x_73 99 20) + 1)) (fun x_74 => (bd (fX8_go x_74) (fun _ x_76 => (k28 u1 u2 1 x_76)))))))))))))))
def fX8_takesE_h268 (k28 : Int32 → Int32 → Int32 → XS → Option (Int32 × XS)) (u1 : Int32) (u2 : Int32) (u4 : Int32) (x : XS) : Option (Int32 × XS) :=
  (bd (fX8_rank u4 x) (fun r_55 x_56 => (if r_55 = 3 then (fX8_takesE_h305 k28 u1 u2 u4 u1 1 x_56) else (bd (fX8_rank u4 x_56) (fun r_58 x_59 => (if r_58 ≤ 3 then (fX8_takesE_h305 k28 u1 u2 u4 u1 0 x_59) else (gd (inb u1 10) (if (x_59 109 (ix u1)) = 0 then (fX8_takesE_h305 k28 u1 u2 u4 u1 0 x_59) else (fX8_takesE_h305 k28 u1 u2 u4 u1 1 x_59)))))))))
def fX8_takesE_h237 (k28 : Int32 → Int32 → Int32 → XS → Option (Int32 × XS)) (u1 : Int32) (u2 : Int32) (x : XS) : Option (Int32 × XS) :=
  (bd (fX8_signHere x) (fun r_34 x_35 => (if r_34 = 0 then (some (0, x_35)) else (bd (fX8_rank r_34 x_35) (fun r_37 x_38 => (if r_37 = 3 then (gd (inb u1 10) (if (x_38 109 (ix u1)) = 0 then (fX8_takesE_h268 k28 u1 u2 r_34 x_38) else (some (0, x_38)))) else (fX8_takesE_h268 k28 u1 u2 r_34 x_38)))))))
def fX8_takesE_h39 (k28 : Int32 → Int32 → Int32 → XS → Option (Int32 × XS)) (u1 : Int32) (u2 : Int32) (u3 : Int32) (x : XS) : Option (Int32 × XS) :=
  (if u3 = 0 then (if (x 99 10) = 3 then (if (x 99 11) = 41 then (if u1 ≤ 0 then (fX8_takesE_h237 k28 u1 u2 x) else (bd (fX8_settle 0 x) (fun _ x_16 => (st_ (wr x_16 99 20 ((x_16 99 20) - 1)) (fun x_17 => (st_ (u1 + (-1)) (fun v_18 => (bd (fX8_settle 6 x_17) (fun _ x_20 => (bd (fX8_notsOpen x_20) (fun r_21 x_22 => (bd (fX8_go x_22) (fun _ x_24 => (k28 v_18 r_21 u3 x_24)))))))))))))) else (fX8_takesE_h237 k28 u1 u2 x)) else (fX8_takesE_h237 k28 u1 u2 x)) else (if (x 99 10) = 3 then (if (x 99 11) = 33 then (if 8 ≤ u2 then (fX8_takesE_h97 k28 u1 u3 x) else (gd (inb (x 99 20) 96) (st_ (wr x 108 (ix (x 99 20)) (-10)) (fun x_29 => (st_ (wr x_29 99 20 ((x_29 99 20) + 1)) (fun x_30 => (st_ (u2 + 1) (fun v_31 => (bd (fX8_go x_30) (fun _ x_33 => (fX8_takesE_h172 k28 u1 u3 x_33))))))))))) else (fX8_takesE_h97 k28 u1 u3 x)) else (fX8_takesE_h97 k28 u1 u3 x)))
def bX8_takesE_h28 (k28 : Int32 → Int32 → Int32 → XS → Option (Int32 × XS)) (u1 : Int32) (u2 : Int32) (u3 : Int32) (x : XS) : Option (Int32 × XS) :=
  (if u3 = 0 then (if (x 99 10) = 0 then (bd (fX8_settle 0 x) (fun _ x_9 => (if u1 = 0 then (some (1, x_9)) else (some (0, x_9))))) else (fX8_takesE_h39 k28 u1 u2 u3 x)) else (fX8_takesE_h39 k28 u1 u2 u3 x))
def lX8_takesE_h28 (n : Nat) : Int32 → Int32 → Int32 → XS → Option (Int32 × XS) := lp (bX8_takesE_h28) (fun _ _ _ _ => none) n
def fX8_takesE_h28 : Int32 → Int32 → Int32 → XS → Option (Int32 × XS) := lX8_takesE_h28  FU
def fX8_takesE (x : XS) : Option (Int32 × XS) :=
  (st_ (wr x 99 17 0) (fun x_1 => (st_ (wr x_1 99 18 0) (fun x_2 => (st_ (wr x_2 99 20 0) (fun x_3 => (gd (inb 0 10) (st_ (wr x_3 109 (ix 0) (vp_nar .boolean 0)) (fun x_5 => (fX8_takesE_h28 0 0 1 x_5))))))))))
def bX8_text_h117 (k117 : Int32 → Int32 → XS → Option (Int32 × XS)) (u2 : Int32) (u3 : Int32) (x : XS) : Option (Int32 × XS) :=
  (if (x 99 17) ≤ u3 then (gd (inb 8 1437) (gd (inb 8 1437) (st_ (wr x 100 (ix 8) ((x 100 (ix 8)) + 1)) (fun x_24 => (some (u2, x_24)))))) else (gd (inb u3 96) (gd (inb ((93 + (96 * u2)) + u3) 1437) (st_ (wr x 100 (ix ((93 + (96 * u2)) + u3)) (x 107 (ix u3))) (fun x_27 => (st_ (u3 + 1) (fun v_28 => (k117 u2 v_28 x_27))))))))
def lX8_text_h117 (n : Nat) : Int32 → Int32 → XS → Option (Int32 × XS) := lp (bX8_text_h117) (fun _ _ _ => none) n
def fX8_text_h117 : Int32 → Int32 → XS → Option (Int32 × XS) := lX8_text_h117  FU
def fX8_text_h33 (s0 : Int32) (x : XS) : Option (Int32 × XS) :=
  (st_ (wr x 99 7 0) (fun x_11 => (if s0 = 0 then (some (((-100) - (x_11 99 9)), x_11)) else (gd (inb 8 1437) (if (x_11 100 (ix 8)) = 14 then (some ((-1000000003), x_11)) else (gd (inb 8 1437) (st_ ((x_11 100 (ix 8))) (fun v_16 => (gd (inb (65 + (2 * v_16)) 1437) (st_ (wr x_11 100 (ix (65 + (2 * v_16))) ((1000 * (x_11 99 13)) + (x_11 99 17))) (fun x_18 => (gd (inb ((65 + (2 * v_16)) + 1) 1437) (st_ (wr x_18 100 (ix ((65 + (2 * v_16)) + 1)) (x_18 99 18)) (fun x_20 => (fX8_text_h117 v_16 0 x_20)))))))))))))))
def fX8_text (x : XS) : Option (Int32 × XS) :=
  (st_ (wr x 99 8 0) (fun x_1 => (st_ (wr x_1 99 12 (-1)) (fun x_2 => (bd (fX8_go x_2) (fun _ x_4 => (bd (fX8_takesKey x_4) (fun r_5 x_6 => (if r_5 = 0 then (fX8_text_h33 0 x_6) else (bd (fX8_takesE x_6) (fun r_8 x_9 => (if r_8 = 0 then (fX8_text_h33 0 x_9) else (fX8_text_h33 1 x_9)))))))))))))
def fX8_textTold (v1 : Int32) (v2 : Int32) (x : XS) : Option (Int32 × XS) :=
  (gd (inb 8 1437) (bd (fX8_in v1 0 ((x 100 (ix 8)) - 1) x) (fun r_2 x_3 => (if r_2 = 0 then (some ((-1000000001), x_3)) else (bd (fX8_in v2 0 1 x_3) (fun r_5 x_6 => (if r_5 = 0 then (some ((-1000000001), x_6)) else (if v2 = 0 then (gd (inb (65 + (2 * v1)) 1437) (st_ (jdiv (x_6 100 (ix (65 + (2 * v1)))) 1000) (fun v_11 => (some (v_11, x_6))))) else (gd (inb ((65 + (2 * v1)) + 1) 1437) (some ((x_6 100 (ix ((65 + (2 * v1)) + 1))), x_6)))))))))))
def fX8_why (v1 : Int32) (x : XS) : Option (Int32 × XS) :=
  (bd (fX8_in v1 0 2 x) (fun r_1 x_2 => (if r_1 = 0 then (some ((-1000000001), x_2)) else (bd (fX8_counts v1 x_2) (fun r_4 x_5 => (if 0 ≤ r_4 then (some (r_4, x_5)) else (some ((-1000000005), x_5))))))))
def fX8_isSlot (v0 : Int32) (x : XS) : Option (Int32 × XS) :=
  (bd (fX8_in v0 0 4 x) (fun r_1 x_2 => (gd (isB r_1) (some (r_1, x_2)))))
def bX8_sheet_h66 (k66 : Int32 → Int32 → XS → Option (Int32 × XS)) (u1 : Int32) (u4 : Int32) (x : XS) : Option (Int32 × XS) :=
  (if 24 ≤ u4 then (gd (inb u1 4) (some ((x 113 (ix u1)), x))) else (gd (inb ((24 * u1) + u4) 96) (st_ (wr x 114 (ix ((24 * u1) + u4)) 0) (fun x_23 => (st_ (u4 + 1) (fun v_24 => (k66 u1 v_24 x_23)))))))
def lX8_sheet_h66 (n : Nat) : Int32 → Int32 → XS → Option (Int32 × XS) := lp (bX8_sheet_h66) (fun _ _ _ => none) n
def fX8_sheet_h66 : Int32 → Int32 → XS → Option (Int32 × XS) := lX8_sheet_h66  FU
def fX8_sheet_h41 (u1 : Int32) (u2 : Int32) (u3 : Int32) (x : XS) : Option (Int32 × XS) :=
  (gd (inb u1 4) (st_ (wr x 112 (ix u1) u2) (fun x_14 => (if 0 ≤ u2 then (gd (inb u1 4) (st_ (wr x_14 113 (ix u1) u3) (fun x_17 => (fX8_sheet_h66 u1 0 x_17)))) else (gd (inb u1 4) (st_ (wr x_14 113 (ix u1) 0) (fun x_19 => (fX8_sheet_h66 u1 0 x_19))))))))
def fX8_sheet (v1 : Int32) (v2 : Int32) (v3 : Int32) (x : XS) : Option (Int32 × XS) :=
  (bd (fX8_isSheet v1 x) (fun r_1 x_2 => (if r_1 = 0 then (some ((-1000000001), x_2)) else (bd (fX8_in v2 (-1) 1 x_2) (fun r_4 x_5 => (if r_4 = 0 then (some ((-1000000001), x_5)) else (if v2 < 0 then (if v2 < 0 then (fX8_sheet_h41 v1 v2 v3 x_5) else (if 0 ≤ v3 then (fX8_sheet_h41 v1 v2 v3 x_5) else (some ((-1000000014), x_5)))) else (if v3 ≤ 24 then (if v2 < 0 then (fX8_sheet_h41 v1 v2 v3 x_5) else (if 0 ≤ v3 then (fX8_sheet_h41 v1 v2 v3 x_5) else (some ((-1000000014), x_5)))) else (some ((-1000000001), x_5))))))))))
def fX8_mark_h92 (u1 : Int32) (u2 : Int32) (u3 : Int32) (x : XS) : Option (Int32 × XS) :=
  (gd (inb u1 4) (if (x 112 (ix u1)) = 0 then (st_ (ji2s u3) (fun v_23 => (gd (inb ((24 * u1) + u2) 96) (st_ (wr x 114 (ix ((24 * u1) + u2)) v_23) (fun x_25 => (some (1, x_25))))))) else (gd (inb ((24 * u1) + u2) 96) (st_ (wr x 114 (ix ((24 * u1) + u2)) u3) (fun x_22 => (some (1, x_22)))))))
def fX8_mark_h60 (u1 : Int32) (u2 : Int32) (u3 : Int32) (x : XS) : Option (Int32 × XS) :=
  (gd (inb u1 4) (if (x 112 (ix u1)) = 1 then (if u3 = (-1000000005) then (fX8_mark_h92 u1 u2 u3 x) else (bd (fX8_in u3 (-99999) 99999 x) (fun r_16 x_17 => (if r_16 = 0 then (some ((-1000000001), x_17)) else (fX8_mark_h92 u1 u2 u3 x_17))))) else (fX8_mark_h92 u1 u2 u3 x)))
def fX8_mark (v1 : Int32) (v2 : Int32) (v3 : Int32) (x : XS) : Option (Int32 × XS) :=
  (bd (fX8_isSheet v1 x) (fun r_1 x_2 => (if r_1 = 0 then (some ((-1000000001), x_2)) else (gd (inb v1 4) (if 0 ≤ (x_2 112 (ix v1)) then (gd (inb v1 4) (bd (fX8_in v2 0 ((x_2 113 (ix v1)) - 1) x_2) (fun r_7 x_8 => (if r_7 = 0 then (some ((-1000000013), x_8)) else (gd (inb v1 4) (if (x_8 112 (ix v1)) = 0 then (if v3 = (-1000000005) then (some ((-1000000012), x_8)) else (fX8_mark_h60 v1 v2 v3 x_8)) else (fX8_mark_h60 v1 v2 v3 x_8))))))) else (some ((-1000000011), x_2)))))))
def fX8_pour_h83 (k26 : Int32 → Int32 → Int32 → XS → Option (Int32 × XS)) (u1 : Int32) (u2 : Int32) (u3 : Int32) (s0 : Int32) (x : XS) : Option (Int32 × XS) :=
  (bd (fX8_becomes ((9 + (7 * u3)) + 2) s0 x) (fun r_17 x_18 => (if r_17 = s0 then (st_ ((u2 + 0)) (fun v_22 => (st_ (u3 + 1) (fun v_23 => (k26 u1 v_22 v_23 x_18))))) else (st_ ((u2 + 1)) (fun v_20 => (st_ (u3 + 1) (fun v_21 => (k26 u1 v_20 v_21 x_18))))))))
def bX8_pour_h26 (k26 : Int32 → Int32 → Int32 → XS → Option (Int32 × XS)) (u1 : Int32) (u2 : Int32) (u3 : Int32) (x : XS) : Option (Int32 × XS) :=
  (gd (inb u1 4) (if (x 113 (ix u1)) ≤ u3 then (some (u2, x)) else (gd (inb 1 1437) (if (x 100 (ix 1)) ≤ u3 then (some (u2, x)) else (gd (inb ((24 * u1) + u3) 96) (st_ ((x 114 (ix ((24 * u1) + u3)))) (fun v_11 => (if v_11 = (-1000000005) then (bd (fX8_of u3 2 x) (fun r_15 x_16 => (fX8_pour_h83 k26 u1 u2 u3 r_15 x_16))) else (bd (fX8_within v_11 1 99 x) (fun r_13 x_14 => (fX8_pour_h83 k26 u1 u2 u3 r_13 x_14)))))))))))
def lX8_pour_h26 (n : Nat) : Int32 → Int32 → Int32 → XS → Option (Int32 × XS) := lp (bX8_pour_h26) (fun _ _ _ _ => none) n
def fX8_pour_h26 : Int32 → Int32 → Int32 → XS → Option (Int32 × XS) := lX8_pour_h26  FU
def fX8_pour (v1 : Int32) (x : XS) : Option (Int32 × XS) :=
  (bd (fX8_isSheet v1 x) (fun r_1 x_2 => (if r_1 = 0 then (some ((-1000000001), x_2)) else (gd (inb v1 4) (if 0 ≤ (x_2 112 (ix v1)) then (fX8_pour_h26 v1 0 0 x_2) else (some ((-1000000011), x_2)))))))
def bX8_reads_h24 (k24 : Int32 → Int32 → XS → Option (Int32 × XS)) (u1 : Int32) (u2 : Int32) (x : XS) : Option (Int32 × XS) :=
  (gd (inb u1 4) (if (x 113 (ix u1)) ≤ u2 then (some ((-1000000005), x)) else (gd (inb ((24 * u1) + u2) 96) (st_ ((x 114 (ix ((24 * u1) + u2)))) (fun v_9 => (if v_9 = (-1000000005) then (st_ (u2 + 1) (fun v_11 => (k24 u1 v_11 x))) else (bd (fX8_isBoy u2 x) (fun r_12 x_13 => (if r_12 = 0 then (some (u2, x_13)) else (bd (fX8_of u2 4 x_13) (fun r_15 x_16 => (if v_9 = r_15 then (st_ (u2 + 1) (fun v_18 => (k24 u1 v_18 x_16))) else (some (u2, x_16))))))))))))))
def lX8_reads_h24 (n : Nat) : Int32 → Int32 → XS → Option (Int32 × XS) := lp (bX8_reads_h24) (fun _ _ _ => none) n
def fX8_reads_h24 : Int32 → Int32 → XS → Option (Int32 × XS) := lX8_reads_h24  FU
def fX8_reads (v1 : Int32) (x : XS) : Option (Int32 × XS) :=
  (bd (fX8_isSheet v1 x) (fun r_1 x_2 => (if r_1 = 0 then (some ((-1000000001), x_2)) else (gd (inb v1 4) (if 0 ≤ (x_2 112 (ix v1)) then (fX8_reads_h24 v1 0 x_2) else (some ((-1000000011), x_2)))))))
def bX8_copy_h141 (k141 : Int32 → Int32 → Int32 → Int32 → XS → Option (Int32 × XS)) (u3 : Int32) (u4 : Int32) (u5 : Int32) (u6 : Int32) (x : XS) : Option (Int32 × XS) :=
  (if u5 ≤ u6 then (some (u5, x)) else (gd (inb u6 24) (gd (inb (((24 * u3) + u4) + u6) 96) (st_ (wr x 114 (ix (((24 * u3) + u4) + u6)) (x 119 (ix u6))) (fun x_29 => (st_ (u6 + 1) (fun v_30 => (k141 u3 u4 u5 v_30 x_29))))))))
def lX8_copy_h141 (n : Nat) : Int32 → Int32 → Int32 → Int32 → XS → Option (Int32 × XS) := lp (bX8_copy_h141) (fun _ _ _ _ _ => none) n
def fX8_copy_h141 : Int32 → Int32 → Int32 → Int32 → XS → Option (Int32 × XS) := lX8_copy_h141  FU
def bX8_copy_h104 (k104 : Int32 → Int32 → Int32 → Int32 → Int32 → Int32 → XS → Option (Int32 × XS)) (u1 : Int32) (u2 : Int32) (u3 : Int32) (u4 : Int32) (u5 : Int32) (u6 : Int32) (x : XS) : Option (Int32 × XS) :=
  (if u5 ≤ u6 then (fX8_copy_h141 u3 u4 u5 0 x) else (gd (inb (((24 * u1) + u2) + u6) 96) (gd (inb u6 24) (st_ (wr x 119 (ix u6) (x 114 (ix (((24 * u1) + u2) + u6)))) (fun x_24 => (st_ (u6 + 1) (fun v_25 => (k104 u1 u2 u3 u4 u5 v_25 x_24))))))))
def lX8_copy_h104 (n : Nat) : Int32 → Int32 → Int32 → Int32 → Int32 → Int32 → XS → Option (Int32 × XS) := lp (bX8_copy_h104) (fun _ _ _ _ _ _ _ => none) n
def fX8_copy_h104 : Int32 → Int32 → Int32 → Int32 → Int32 → Int32 → XS → Option (Int32 × XS) := lX8_copy_h104  FU
def fX8_copy (v1 : Int32) (v2 : Int32) (v3 : Int32) (v4 : Int32) (v5 : Int32) (x : XS) : Option (Int32 × XS) :=
  (bd (fX8_isSheet v1 x) (fun r_1 x_2 => (if r_1 = 0 then (some ((-1000000001), x_2)) else (bd (fX8_isSheet v3 x_2) (fun r_4 x_5 => (if r_4 = 0 then (some ((-1000000001), x_5)) else (gd (inb v1 4) (if (x_5 112 (ix v1)) < 0 then (some ((-1000000011), x_5)) else (gd (inb v3 4) (if 0 ≤ (x_5 112 (ix v3)) then (gd (inb v1 4) (gd (inb v3 4) (if (x_5 112 (ix v1)) = (x_5 112 (ix v3)) then (if v2 < 0 then (some ((-1000000013), x_5)) else (if v4 < 0 then (some ((-1000000013), x_5)) else (if v5 < 0 then (some ((-1000000013), x_5)) else (gd (inb v1 4) (if ((x_5 113 (ix v1)) - v5) < v2 then (some ((-1000000013), x_5)) else (gd (inb v3 4) (if v4 ≤ ((x_5 113 (ix v3)) - v5) then (fX8_copy_h104 v1 v2 v3 v4 v5 0 x_5) else (some ((-1000000013), x_5))))))))) else (some ((-1000000012), x_5))))) else (some ((-1000000011), x_5))))))))))))
def bX8_lay_h134 (k134 : Int32 → Int32 → Int32 → Int32 → Int32 → XS → Option (Int32 × XS)) (u1 : Int32) (u2 : Int32) (u3 : Int32) (u4 : Int32) (u5 : Int32) (x : XS) : Option (Int32 × XS) :=
  (if 24 ≤ u5 then (some (u4, x)) else (if u2 = 2 then (gd (inb ((24 * u3) + u5) 96) (gd (inb ((24 * u1) + u5) 120) (st_ (wr x 118 (ix ((24 * u1) + u5)) (x 114 (ix ((24 * u3) + u5)))) (fun x_40 => (st_ (u5 + 1) (fun v_41 => (k134 u1 u2 u3 u4 v_41 x_40))))))) else (some (u4, x))))
def lX8_lay_h134 (n : Nat) : Int32 → Int32 → Int32 → Int32 → Int32 → XS → Option (Int32 × XS) := lp (bX8_lay_h134) (fun _ _ _ _ _ _ => none) n
def fX8_lay_h134 : Int32 → Int32 → Int32 → Int32 → Int32 → XS → Option (Int32 × XS) := lX8_lay_h134  FU
def fX8_lay_h110 (u1 : Int32) (u2 : Int32) (u3 : Int32) (u4 : Int32) (s1 : Int32) (s2 : Int32) (x : XS) : Option (Int32 × XS) :=
  (gd (inb s1 5) (st_ (wr x 116 (ix s1) s2) (fun x_28 => (if u2 = 1 then (bd (fX8_worthOf u3 x_28) (fun r_32 x_33 => (gd (inb u1 5) (st_ (wr x_33 117 (ix u1) r_32) (fun x_35 => (fX8_lay_h134 u1 u2 u3 u4 0 x_35)))))) else (gd (inb u1 5) (st_ (wr x_28 117 (ix u1) 0) (fun x_31 => (fX8_lay_h134 u1 u2 u3 u4 0 x_31))))))))
def fX8_lay_h61 (u1 : Int32) (u2 : Int32) (u3 : Int32) (x : XS) : Option (Int32 × XS) :=
  (gd (inb u1 5) (st_ ((x 115 (ix u1))) (fun v_19 => (gd (inb u1 5) (st_ (wr x 115 (ix u1) u2) (fun x_21 => (if u2 = 1 then (bd (fX8_of u3 0 x_21) (fun r_25 x_26 => (fX8_lay_h110 u1 u2 u3 v_19 u1 r_25 x_26))) else (if u2 = 2 then (gd (inb u3 4) (fX8_lay_h110 u1 u2 u3 v_19 u1 (x_21 113 (ix u3)) x_21)) else (fX8_lay_h110 u1 u2 u3 v_19 u1 u3 x_21)))))))))
def fX8_lay_h44 (u1 : Int32) (u2 : Int32) (u3 : Int32) (x : XS) : Option (Int32 × XS) :=
  (if u2 = 2 then (gd (inb u3 4) (if 0 ≤ (x 112 (ix u3)) then (fX8_lay_h61 u1 u2 u3 x) else (some ((-1000000011), x)))) else (fX8_lay_h61 u1 u2 u3 x))
def fX8_lay_h29 (u1 : Int32) (u2 : Int32) (u3 : Int32) (x : XS) : Option (Int32 × XS) :=
  (if u2 = 2 then (bd (fX8_isSheet u3 x) (fun r_12 x_13 => (if r_12 = 0 then (some ((-1000000001), x_13)) else (fX8_lay_h44 u1 u2 u3 x_13)))) else (fX8_lay_h44 u1 u2 u3 x))
def fX8_lay (v1 : Int32) (v2 : Int32) (v3 : Int32) (x : XS) : Option (Int32 × XS) :=
  (bd (fX8_isSlot v1 x) (fun r_1 x_2 => (if r_1 = 0 then (some ((-1000000001), x_2)) else (bd (fX8_in v2 0 3 x_2) (fun r_4 x_5 => (if r_4 = 0 then (some ((-1000000001), x_5)) else (if v2 = 1 then (bd (fX8_isBoy v3 x_5) (fun r_8 x_9 => (if r_8 = 0 then (some ((-1000000001), x_9)) else (fX8_lay_h29 v1 v2 v3 x_9)))) else (fX8_lay_h29 v1 v2 v3 x_5))))))))
def fX8_ask (v1 : Int32) (v2 : Int32) (x : XS) : Option (Int32 × XS) :=
  (bd (fX8_isSlot v1 x) (fun r_1 x_2 => (if r_1 = 0 then (some ((-1000000001), x_2)) else (bd (fX8_in v2 0 5 x_2) (fun r_4 x_5 => (if r_4 = 0 then (some ((-1000000001), x_5)) else (gd (inb v1 5) (if (x_5 115 (ix v1)) = 0 then (some ((-1000000011), x_5)) else (gd (inb v1 5) (if (x_5 115 (ix v1)) = 1 then (gd (inb v1 5) (bd (fX8_isUnder (x_5 116 (ix v1)) v2 x_5) (fun r_12 x_13 => (if r_12 = 0 then (some ((-1000000012), x_13)) else (gd (inb v1 5) (some ((x_13 117 (ix v1)), x_13))))))) else (some ((-1000000012), x_5))))))))))))
def fX8_item (v1 : Int32) (v2 : Int32) (x : XS) : Option (Int32 × XS) :=
  (bd (fX8_isSlot v1 x) (fun r_1 x_2 => (if r_1 = 0 then (some ((-1000000001), x_2)) else (gd (inb v1 5) (if (x_2 115 (ix v1)) = 0 then (some ((-1000000011), x_2)) else (gd (inb v1 5) (if (x_2 115 (ix v1)) = 2 then (gd (inb v1 5) (bd (fX8_in v2 0 ((x_2 116 (ix v1)) - 1) x_2) (fun r_9 x_10 => (if r_9 = 0 then (some ((-1000000013), x_10)) else (gd (inb ((24 * v1) + v2) 120) (st_ ((x_10 118 (ix ((24 * v1) + v2)))) (fun v_13 => (if v_13 = (-1000000005) then (some ((-1000000012), x_10)) else (some (v_13, x_10)))))))))) else (some ((-1000000012), x_2)))))))))
def fX8_rest (v1 : Int32) (v2 : Int32) (x : XS) : Option (Int32 × XS) :=
  (bd (fX8_isSlot v1 x) (fun r_1 x_2 => (if r_1 = 0 then (some ((-1000000001), x_2)) else (gd (inb v1 5) (if (x_2 115 (ix v1)) = 0 then (some ((-1000000011), x_2)) else (gd (inb v1 5) (if (x_2 115 (ix v1)) = 3 then (if v2 = 0 then (some ((-1000000002), x_2)) else (if v2 = (-1) then (some (0, x_2)) else (gd (inb v1 5) (gd (decide (¬ v2 = 0)) (st_ (jrem (x_2 116 (ix v1)) v2) (fun v_12 => (some (v_12, x_2)))))))) else (some ((-1000000012), x_2)))))))))
def fX8_tell (v1 : Int32) (x : XS) : Option (Int32 × XS) :=
  (if (x 99 33) = 60 then (some ((-1000000003), x)) else (gd (inb (x 99 33) 60) (st_ (wr x 120 (ix (x 99 33)) v1) (fun x_3 => (st_ (wr x_3 99 33 ((x_3 99 33) + 1)) (fun x_4 => (some ((x_4 99 33), x_4))))))))
def fX8_check_h182 (u2 : Int32) (u3 : Int32) (u4 : Int32) (x : XS) : Option (Int32 × XS) :=
  (bd (fX8_copyAll 102 100 x) (fun _ x_25 => (if u4 = u2 then (if u4 = u3 then (some (0, x_25)) else (some ((1 + u4), x_25))) else (some ((1 + u4), x_25)))))
def fX8_check_h172 (k80 : Int32 → Int32 → Int32 → Int32 → XS → Option (Int32 × XS)) (u2 : Int32) (u3 : Int32) (u5 : Int32) (s0 : Int32) (x : XS) : Option (Int32 × XS) :=
  (st_ ((s0 + 0)) (fun v_36 => (st_ (u5 + 1) (fun v_37 => (k80 u2 u3 v_36 v_37 x)))))
def fX8_check_h129 (k80 : Int32 → Int32 → Int32 → Int32 → XS → Option (Int32 × XS)) (u2 : Int32) (u3 : Int32) (u5 : Int32) (s0 : Int32) (s1 : Int32) (x : XS) : Option (Int32 × XS) :=
  (st_ ((s0 + s1)) (fun v_28 => (if v_28 = ((2 * u5) + 1) then (if u2 ≤ v_28 then (fX8_check_h172 k80 u2 u3 u5 v_28 x) else (gd (inb v_28 60) (gd (inb 7 1437) (if (x 120 (ix v_28)) = (x 100 (ix 7)) then (st_ ((v_28 + 1)) (fun v_34 => (st_ (u5 + 1) (fun v_35 => (k80 u2 u3 v_34 v_35 x))))) else (fX8_check_h172 k80 u2 u3 u5 v_28 x))))) else (fX8_check_h172 k80 u2 u3 u5 v_28 x))))
def bX8_check_h80 (k80 : Int32 → Int32 → Int32 → Int32 → XS → Option (Int32 × XS)) (u2 : Int32) (u3 : Int32) (u4 : Int32) (u5 : Int32) (x : XS) : Option (Int32 × XS) :=
  (if u3 ≤ (2 * u5) then (fX8_check_h182 u2 u3 u4 x) else (if u4 = (2 * u5) then (bd (fX8_minute x) (fun _ x_18 => (if u2 ≤ u4 then (fX8_check_h129 k80 u2 u3 u5 u4 0 x_18) else (gd (inb u4 60) (bd (fX8_sumOf 4 x_18) (fun r_21 x_22 => (if (x_18 120 (ix u4)) = r_21 then (fX8_check_h129 k80 u2 u3 u5 u4 1 x_22) else (fX8_check_h129 k80 u2 u3 u5 u4 0 x_22)))))))) else (fX8_check_h182 u2 u3 u4 x)))
def lX8_check_h80 (n : Nat) : Int32 → Int32 → Int32 → Int32 → XS → Option (Int32 × XS) := lp (bX8_check_h80) (fun _ _ _ _ _ => none) n
def fX8_check_h80 : Int32 → Int32 → Int32 → Int32 → XS → Option (Int32 × XS) := lX8_check_h80  FU
def fX8_check (v1 : Int32) (x : XS) : Option (Int32 × XS) :=
  (st_ ((x 99 33)) (fun v_1 => (st_ (wr x 99 33 0) (fun x_2 => (bd (fX8_in v1 1 30 x_2) (fun r_3 x_4 => (if r_3 = 0 then (some ((-1000000001), x_4)) else (if (x_4 99 3) = 0 then (some ((-1000000002), x_4)) else (bd (fX8_copyAll 100 102 x_4) (fun _ x_8 => (bd (fX8_copyAll 101 100 x_8) (fun _ x_10 => (gd (inb 2 1437) (bd (fX8_within (9999 - (x_10 100 (ix 2))) 0 v1 x_10) (fun r_12 x_13 => (st_ ((2 * r_12)) (fun v_14 => (fX8_check_h80 v_1 v_14 0 0 x_13))))))))))))))))))
def fX8_keep (x : XS) : Option (Int32 × XS) :=
  (bd (fX8_copyAll 100 101 x) (fun _ x_2 => (st_ (wr x_2 99 3 1) (fun x_3 => (gd (inb 1 1437) (some ((x_3 100 (ix 1)), x_3)))))))
def fX8_back (x : XS) : Option (Int32 × XS) :=
  (if (x 99 3) = 0 then (some ((-1000000002), x)) else (bd (fX8_copyAll 101 100 x) (fun _ x_3 => (gd (inb 1 1437) (some ((x_3 100 (ix 1)), x_3))))))
def fX8_count_h66 (u1 : Int32) (x : XS) : Option (Int32 × XS) :=
  (gd (inb (1 + u1) 1437) (some ((x 100 (ix (1 + u1))), x)))
def fX8_count (v1 : Int32) (x : XS) : Option (Int32 × XS) :=
  (if v1 = 0 then (gd (inb 1 1437) (some ((x 100 (ix 1)), x))) else (if v1 = 1 then (gd (inb 2 1437) (some ((x 100 (ix 2)), x))) else (if v1 = 2 then (fX8_count_h66 v1 x) else (if v1 = 3 then (fX8_count_h66 v1 x) else (if v1 = 4 then (fX8_count_h66 v1 x) else (if v1 = 5 then (gd (inb 8 1437) (some ((x 100 (ix 8)), x))) else (if v1 = 6 then (some ((x 99 33), x)) else (if v1 = 7 then (some ((x 99 7), x)) else (if v1 = 8 then (gd (inb 0 1437) (some ((x 100 (ix 0)), x))) else (some ((-1000000001), x)))))))))))
