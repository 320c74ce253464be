theorem pair {f7 f8 : XS → Option (Int32 × XS)} (op : ∀ x y, CI x y → RCI (f7 x) (f8 y)) (F7 : ∀ x r z, f7 x = some (r, z) → ∀ j, 99 ≤ j → z j = x j) (F8 : ∀ x r z, f8 x = some (r, z) → ∀ j, j < 99 → z j = x j) {x : XS} (h : CI x x) : ∃ r x1 x2, f7 x = some (r, x1) ∧ f8 x1 = some (r, x2) ∧ CI x2 x2 := by
  obtain ⟨r, x1, q, y1, e1, e2, rfl, h1⟩ := op x x h
  have h2 : CI x x1 := h.cong (fun _ _ => rfl) (fun j hj => F7 _ _ _ e1 j hj)
  obtain ⟨r', x1', q', y1', g1, g2, g3, h3⟩ := op x x1 h2
  have e : some (r', x1') = some (r, x1) := g1.symm.trans e1
  cases e
  subst g3
  exact ⟨r, x1, y1', e1, g2, h3.cong (fun j hj => F8 _ _ _ g2 j hj) (fun _ _ => rfl)⟩
theorem pr_boy {v1 v2 v3 v4 : Int32} {x : XS} (h : CI x x) : ∃ r x1 x2, fX7_boy v1 v2 v3 v4 x = some (r, x1) ∧ fX8_boy v1 v2 v3 v4 x1 = some (r, x2) ∧ CI x2 x2 :=
  pair (f7 := fX7_boy v1 v2 v3 v4) (f8 := fX8_boy v1 v2 v3 v4) (fun _ _ h => op_boy h) (fun _ _ _ hf j hj => frX7_boy (by omega) (by omega) hf) (fun _ _ _ hf j hj => frX8_boy (by omega) hf) h
theorem pr_told {v1 v2 : Int32} {x : XS} (h : CI x x) : ∃ r x1 x2, fX7_told v1 v2 x = some (r, x1) ∧ fX8_told v1 v2 x1 = some (r, x2) ∧ CI x2 x2 :=
  pair (f7 := fX7_told v1 v2) (f8 := fX8_told v1 v2) (fun _ _ h => op_told h) (fun _ _ _ hf j hj => frX7_told  hf) (fun _ _ _ hf j hj => frX8_told  hf) h
theorem pr_shine {v1 v2 v3 : Int32} {x : XS} (h : CI x x) : ∃ r x1 x2, fX7_shine v1 v2 v3 x = some (r, x1) ∧ fX8_shine v1 v2 v3 x1 = some (r, x2) ∧ CI x2 x2 :=
  pair (f7 := fX7_shine v1 v2 v3) (f8 := fX8_shine v1 v2 v3) (fun _ _ h => op_shine h) (fun _ _ _ hf j hj => frX7_shine (by omega) hf) (fun _ _ _ hf j hj => frX8_shine (by omega) (by omega) hf) h
theorem pr_as {v1 v2 : Int32} {x : XS} (h : CI x x) : ∃ r x1 x2, fX7_as v1 v2 x = some (r, x1) ∧ fX8_as v1 v2 x1 = some (r, x2) ∧ CI x2 x2 :=
  pair (f7 := fX7_as v1 v2) (f8 := fX8_as v1 v2) (fun _ _ h => op_as h) (fun _ _ _ hf j hj => frX7_as  hf) (fun _ _ _ hf j hj => frX8_as  hf) h
theorem pr_turns {v1 v2 : Int32} {x : XS} (h : CI x x) : ∃ r x1 x2, fX7_turns v1 v2 x = some (r, x1) ∧ fX8_turns v1 v2 x1 = some (r, x2) ∧ CI x2 x2 :=
  pair (f7 := fX7_turns v1 v2) (f8 := fX8_turns v1 v2) (fun _ _ h => op_turns h) (fun _ _ _ hf j hj => frX7_turns (by omega) hf) (fun _ _ _ hf j hj => frX8_turns (by omega) hf) h
theorem pr_set {v1 v2 v3 : Int32} {x : XS} (h : CI x x) : ∃ r x1 x2, fX7_set v1 v2 v3 x = some (r, x1) ∧ fX8_set v1 v2 v3 x1 = some (r, x2) ∧ CI x2 x2 :=
  pair (f7 := fX7_set v1 v2 v3) (f8 := fX8_set v1 v2 v3) (fun _ _ h => op_set h) (fun _ _ _ hf j hj => frX7_set (by omega) hf) (fun _ _ _ hf j hj => frX8_set (by omega) hf) h
theorem pr_deal {v1 : Int32} {x : XS} (h : CI x x) : ∃ r x1 x2, fX7_deal v1 x = some (r, x1) ∧ fX8_deal v1 x1 = some (r, x2) ∧ CI x2 x2 :=
  pair (f7 := fX7_deal v1) (f8 := fX8_deal v1) (fun _ _ h => op_deal h) (fun _ _ _ hf j hj => frX7_deal (by omega) (by omega) hf) (fun _ _ _ hf j hj => frX8_deal (by omega) hf) h
theorem pr_seed {v1 : Int32} {x : XS} (h : CI x x) : ∃ r x1 x2, fX7_seed v1 x = some (r, x1) ∧ fX8_seed v1 x1 = some (r, x2) ∧ CI x2 x2 :=
  pair (f7 := fX7_seed v1) (f8 := fX8_seed v1) (fun _ _ h => op_seed h) (fun _ _ _ hf j hj => frX7_seed (by omega) hf) (fun _ _ _ hf j hj => frX8_seed (by omega) hf) h
theorem pr_rule {v1 v2 : Int32} {x : XS} (h : CI x x) : ∃ r x1 x2, fX7_rule v1 v2 x = some (r, x1) ∧ fX8_rule v1 v2 x1 = some (r, x2) ∧ CI x2 x2 :=
  pair (f7 := fX7_rule v1 v2) (f8 := fX8_rule v1 v2) (fun _ _ h => op_rule h) (fun _ _ _ hf j hj => frX7_rule (by omega) hf) (fun _ _ _ hf j hj => frX8_rule (by omega) hf) h
theorem pr_minutes {v1 : Int32} {x : XS} (h : CI x x) : ∃ r x1 x2, fX7_minutes v1 x = some (r, x1) ∧ fX8_minutes v1 x1 = some (r, x2) ∧ CI x2 x2 :=
  pair (f7 := fX7_minutes v1) (f8 := fX8_minutes v1) (fun _ _ h => op_minutes h) (fun _ _ _ hf j hj => frX7_minutes (by omega) (by omega) (by omega) hf) (fun _ _ _ hf j hj => frX8_minutes (by omega) (by omega) (by omega) hf) h
theorem pr_street {v1 : Int32} {x : XS} (h : CI x x) : ∃ r x1 x2, fX7_street v1 x = some (r, x1) ∧ fX8_street v1 x1 = some (r, x2) ∧ CI x2 x2 :=
  pair (f7 := fX7_street v1) (f8 := fX8_street v1) (fun _ _ h => op_street h) (fun _ _ _ hf j hj => frX7_street  hf) (fun _ _ _ hf j hj => frX8_street  hf) h
theorem pr_goesTo {v1 v2 : Int32} {x : XS} (h : CI x x) : ∃ r x1 x2, fX7_goesTo v1 v2 x = some (r, x1) ∧ fX8_goesTo v1 v2 x1 = some (r, x2) ∧ CI x2 x2 :=
  pair (f7 := fX7_goesTo v1 v2) (f8 := fX8_goesTo v1 v2) (fun _ _ h => op_goesTo h) (fun _ _ _ hf j hj => frX7_goesTo  hf) (fun _ _ _ hf j hj => frX8_goesTo  hf) h
theorem pr_behind {v1 v2 : Int32} {x : XS} (h : CI x x) : ∃ r x1 x2, fX7_behind v1 v2 x = some (r, x1) ∧ fX8_behind v1 v2 x1 = some (r, x2) ∧ CI x2 x2 :=
  pair (f7 := fX7_behind v1 v2) (f8 := fX8_behind v1 v2) (fun _ _ h => op_behind h) (fun _ _ _ hf j hj => frX7_behind (by omega) (by omega) (by omega) (by omega) hf) (fun _ _ _ hf j hj => frX8_behind (by omega) (by omega) (by omega) (by omega) (by omega) hf) h
theorem pr_best {v1 v2 v3 v4 : Int32} {x : XS} (h : CI x x) : ∃ r x1 x2, fX7_best v1 v2 v3 v4 x = some (r, x1) ∧ fX8_best v1 v2 v3 v4 x1 = some (r, x2) ∧ CI x2 x2 :=
  pair (f7 := fX7_best v1 v2 v3 v4) (f8 := fX8_best v1 v2 v3 v4) (fun _ _ h => op_best h) (fun _ _ _ hf j hj => frX7_best (by omega) (by omega) (by omega) (by omega) hf) (fun _ _ _ hf j hj => frX8_best (by omega) (by omega) (by omega) (by omega) (by omega) hf) h
theorem pr_bestShare {v1 v2 : Int32} {x : XS} (h : CI x x) : ∃ r x1 x2, fX7_bestShare v1 v2 x = some (r, x1) ∧ fX8_bestShare v1 v2 x1 = some (r, x2) ∧ CI x2 x2 :=
  pair (f7 := fX7_bestShare v1 v2) (f8 := fX8_bestShare v1 v2) (fun _ _ h => op_bestShare h) (fun _ _ _ hf j hj => frX7_bestShare (by omega) (by omega) (by omega) (by omega) hf) (fun _ _ _ hf j hj => frX8_bestShare (by omega) (by omega) (by omega) (by omega) (by omega) hf) h
theorem pr_sentAway {v1 v2 : Int32} {x : XS} (h : CI x x) : ∃ r x1 x2, fX7_sentAway v1 v2 x = some (r, x1) ∧ fX8_sentAway v1 v2 x1 = some (r, x2) ∧ CI x2 x2 :=
  pair (f7 := fX7_sentAway v1 v2) (f8 := fX8_sentAway v1 v2) (fun _ _ h => op_sentAway h) (fun _ _ _ hf j hj => frX7_sentAway (by omega) (by omega) (by omega) (by omega) hf) (fun _ _ _ hf j hj => frX8_sentAway (by omega) (by omega) (by omega) (by omega) (by omega) hf) h
theorem pr_dry {v1 : Int32} {x : XS} (h : CI x x) : ∃ r x1 x2, fX7_dry v1 x = some (r, x1) ∧ fX8_dry v1 x1 = some (r, x2) ∧ CI x2 x2 :=
  pair (f7 := fX7_dry v1) (f8 := fX8_dry v1) (fun _ _ h => op_dry h) (fun _ _ _ hf j hj => frX7_dry (by omega) (by omega) (by omega) (by omega) hf) (fun _ _ _ hf j hj => frX8_dry (by omega) (by omega) (by omega) (by omega) (by omega) hf) h
theorem pr_shone {v1 v2 : Int32} {x : XS} (h : CI x x) : ∃ r x1 x2, fX7_shone v1 v2 x = some (r, x1) ∧ fX8_shone v1 v2 x1 = some (r, x2) ∧ CI x2 x2 :=
  pair (f7 := fX7_shone v1 v2) (f8 := fX8_shone v1 v2) (fun _ _ h => op_shone h) (fun _ _ _ hf j hj => frX7_shone (by omega) hf) (fun _ _ _ hf j hj => frX8_shone (by omega) (by omega) hf) h
theorem pr_fee {x : XS} (h : CI x x) : ∃ r x1 x2, fX7_fee x = some (r, x1) ∧ fX8_fee x1 = some (r, x2) ∧ CI x2 x2 :=
  pair (f7 := fX7_fee) (f8 := fX8_fee) (fun _ _ h => op_fee h) (fun _ _ _ hf j hj => frX7_fee (by omega) hf) (fun _ _ _ hf j hj => frX8_fee (by omega) (by omega) hf) h
theorem pr_fine {v1 : Int32} {x : XS} (h : CI x x) : ∃ r x1 x2, fX7_fine v1 x = some (r, x1) ∧ fX8_fine v1 x1 = some (r, x2) ∧ CI x2 x2 :=
  pair (f7 := fX7_fine v1) (f8 := fX8_fine v1) (fun _ _ h => op_fine h) (fun _ _ _ hf j hj => frX7_fine (by omega) hf) (fun _ _ _ hf j hj => frX8_fine (by omega) (by omega) hf) h
theorem pr_feed {v1 v2 v3 : Int32} {x : XS} (h : CI x x) : ∃ r x1 x2, fX7_feed v1 v2 v3 x = some (r, x1) ∧ fX8_feed v1 v2 v3 x1 = some (r, x2) ∧ CI x2 x2 :=
  pair (f7 := fX7_feed v1 v2 v3) (f8 := fX8_feed v1 v2 v3) (fun _ _ h => op_feed h) (fun _ _ _ hf j hj => frX7_feed (by omega) (by omega) hf) (fun _ _ _ hf j hj => frX8_feed (by omega) (by omega) hf) h
theorem pr_trim {v1 : Int32} {x : XS} (h : CI x x) : ∃ r x1 x2, fX7_trim v1 x = some (r, x1) ∧ fX8_trim v1 x1 = some (r, x2) ∧ CI x2 x2 :=
  pair (f7 := fX7_trim v1) (f8 := fX8_trim v1) (fun _ _ h => op_trim h) (fun _ _ _ hf j hj => frX7_trim (by omega) hf) (fun _ _ _ hf j hj => frX8_trim (by omega) hf) h
theorem pr_text {x : XS} (h : CI x x) : ∃ r x1 x2, fX7_text x = some (r, x1) ∧ fX8_text x1 = some (r, x2) ∧ CI x2 x2 :=
  pair (f7 := fX7_text) (f8 := fX8_text) (fun _ _ h => op_text h) (fun _ _ _ hf j hj => frX7_text (by omega) (by omega) (by omega) (by omega) hf) (fun _ _ _ hf j hj => frX8_text (by omega) (by omega) (by omega) (by omega) (by omega) hf) h
theorem pr_textTold {v1 v2 : Int32} {x : XS} (h : CI x x) : ∃ r x1 x2, fX7_textTold v1 v2 x = some (r, x1) ∧ fX8_textTold v1 v2 x1 = some (r, x2) ∧ CI x2 x2 :=
  pair (f7 := fX7_textTold v1 v2) (f8 := fX8_textTold v1 v2) (fun _ _ h => op_textTold h) (fun _ _ _ hf j hj => frX7_textTold  hf) (fun _ _ _ hf j hj => frX8_textTold  hf) h
theorem pr_why {v1 : Int32} {x : XS} (h : CI x x) : ∃ r x1 x2, fX7_why v1 x = some (r, x1) ∧ fX8_why v1 x1 = some (r, x2) ∧ CI x2 x2 :=
  pair (f7 := fX7_why v1) (f8 := fX8_why v1) (fun _ _ h => op_why h) (fun _ _ _ hf j hj => frX7_why  hf) (fun _ _ _ hf j hj => frX8_why  hf) h
theorem pr_sheet {v1 v2 v3 : Int32} {x : XS} (h : CI x x) : ∃ r x1 x2, fX7_sheet v1 v2 v3 x = some (r, x1) ∧ fX8_sheet v1 v2 v3 x1 = some (r, x2) ∧ CI x2 x2 :=
  pair (f7 := fX7_sheet v1 v2 v3) (f8 := fX8_sheet v1 v2 v3) (fun _ _ h => op_sheet h) (fun _ _ _ hf j hj => frX7_sheet (by omega) hf) (fun _ _ _ hf j hj => frX8_sheet (by omega) (by omega) (by omega) hf) h
theorem pr_mark {v1 v2 v3 : Int32} {x : XS} (h : CI x x) : ∃ r x1 x2, fX7_mark v1 v2 v3 x = some (r, x1) ∧ fX8_mark v1 v2 v3 x1 = some (r, x2) ∧ CI x2 x2 :=
  pair (f7 := fX7_mark v1 v2 v3) (f8 := fX8_mark v1 v2 v3) (fun _ _ h => op_mark h) (fun _ _ _ hf j hj => frX7_mark (by omega) hf) (fun _ _ _ hf j hj => frX8_mark (by omega) hf) h
theorem pr_pour {v1 : Int32} {x : XS} (h : CI x x) : ∃ r x1 x2, fX7_pour v1 x = some (r, x1) ∧ fX8_pour v1 x1 = some (r, x2) ∧ CI x2 x2 :=
  pair (f7 := fX7_pour v1) (f8 := fX8_pour v1) (fun _ _ h => op_pour h) (fun _ _ _ hf j hj => frX7_pour (by omega) hf) (fun _ _ _ hf j hj => frX8_pour (by omega) hf) h
theorem pr_reads {v1 : Int32} {x : XS} (h : CI x x) : ∃ r x1 x2, fX7_reads v1 x = some (r, x1) ∧ fX8_reads v1 x1 = some (r, x2) ∧ CI x2 x2 :=
  pair (f7 := fX7_reads v1) (f8 := fX8_reads v1) (fun _ _ h => op_reads h) (fun _ _ _ hf j hj => frX7_reads  hf) (fun _ _ _ hf j hj => frX8_reads  hf) h
theorem pr_copy {v1 v2 v3 v4 v5 : Int32} {x : XS} (h : CI x x) : ∃ r x1 x2, fX7_copy v1 v2 v3 v4 v5 x = some (r, x1) ∧ fX8_copy v1 v2 v3 v4 v5 x1 = some (r, x2) ∧ CI x2 x2 :=
  pair (f7 := fX7_copy v1 v2 v3 v4 v5) (f8 := fX8_copy v1 v2 v3 v4 v5) (fun _ _ h => op_copy h) (fun _ _ _ hf j hj => frX7_copy (by omega) hf) (fun _ _ _ hf j hj => frX8_copy (by omega) (by omega) hf) h
theorem pr_lay {v1 v2 v3 : Int32} {x : XS} (h : CI x x) : ∃ r x1 x2, fX7_lay v1 v2 v3 x = some (r, x1) ∧ fX8_lay v1 v2 v3 x1 = some (r, x2) ∧ CI x2 x2 :=
  pair (f7 := fX7_lay v1 v2 v3) (f8 := fX8_lay v1 v2 v3) (fun _ _ h => op_lay h) (fun _ _ _ hf j hj => frX7_lay (by omega) hf) (fun _ _ _ hf j hj => frX8_lay (by omega) (by omega) (by omega) (by omega) hf) h
theorem pr_ask {v1 v2 : Int32} {x : XS} (h : CI x x) : ∃ r x1 x2, fX7_ask v1 v2 x = some (r, x1) ∧ fX8_ask v1 v2 x1 = some (r, x2) ∧ CI x2 x2 :=
  pair (f7 := fX7_ask v1 v2) (f8 := fX8_ask v1 v2) (fun _ _ h => op_ask h) (fun _ _ _ hf j hj => frX7_ask  hf) (fun _ _ _ hf j hj => frX8_ask  hf) h
theorem pr_item {v1 v2 : Int32} {x : XS} (h : CI x x) : ∃ r x1 x2, fX7_item v1 v2 x = some (r, x1) ∧ fX8_item v1 v2 x1 = some (r, x2) ∧ CI x2 x2 :=
  pair (f7 := fX7_item v1 v2) (f8 := fX8_item v1 v2) (fun _ _ h => op_item h) (fun _ _ _ hf j hj => frX7_item  hf) (fun _ _ _ hf j hj => frX8_item  hf) h
theorem pr_rest {v1 v2 : Int32} {x : XS} (h : CI x x) : ∃ r x1 x2, fX7_rest v1 v2 x = some (r, x1) ∧ fX8_rest v1 v2 x1 = some (r, x2) ∧ CI x2 x2 :=
  pair (f7 := fX7_rest v1 v2) (f8 := fX8_rest v1 v2) (fun _ _ h => op_rest h) (fun _ _ _ hf j hj => frX7_rest  hf) (fun _ _ _ hf j hj => frX8_rest  hf) h
theorem pr_tell {v1 : Int32} {x : XS} (h : CI x x) : ∃ r x1 x2, fX7_tell v1 x = some (r, x1) ∧ fX8_tell v1 x1 = some (r, x2) ∧ CI x2 x2 :=
  pair (f7 := fX7_tell v1) (f8 := fX8_tell v1) (fun _ _ h => op_tell h) (fun _ _ _ hf j hj => frX7_tell (by omega) (by omega) hf) (fun _ _ _ hf j hj => frX8_tell (by omega) (by omega) hf) h
theorem pr_check {v1 : Int32} {x : XS} (h : CI x x) : ∃ r x1 x2, fX7_check v1 x = some (r, x1) ∧ fX8_check v1 x1 = some (r, x2) ∧ CI x2 x2 :=
  pair (f7 := fX7_check v1) (f8 := fX8_check v1) (fun _ _ h => op_check h) (fun _ _ _ hf j hj => frX7_check (by omega) (by omega) (by omega) (by omega) (by omega) hf) (fun _ _ _ hf j hj => frX8_check (by omega) (by omega) (by omega) (by omega) (by omega) hf) h
theorem pr_keep {x : XS} (h : CI x x) : ∃ r x1 x2, fX7_keep x = some (r, x1) ∧ fX8_keep x1 = some (r, x2) ∧ CI x2 x2 :=
  pair (f7 := fX7_keep) (f8 := fX8_keep) (fun _ _ h => op_keep h) (fun _ _ _ hf j hj => frX7_keep (by omega) (by omega) (by omega) (by omega) hf) (fun _ _ _ hf j hj => frX8_keep (by omega) (by omega) hf) h
theorem pr_back {x : XS} (h : CI x x) : ∃ r x1 x2, fX7_back x = some (r, x1) ∧ fX8_back x1 = some (r, x2) ∧ CI x2 x2 :=
  pair (f7 := fX7_back) (f8 := fX8_back) (fun _ _ h => op_back h) (fun _ _ _ hf j hj => frX7_back (by omega) (by omega) (by omega) hf) (fun _ _ _ hf j hj => frX8_back (by omega) hf) h
theorem pr_count {v1 : Int32} {x : XS} (h : CI x x) : ∃ r x1 x2, fX7_count v1 x = some (r, x1) ∧ fX8_count v1 x1 = some (r, x2) ∧ CI x2 x2 :=
  pair (f7 := fX7_count v1) (f8 := fX8_count v1) (fun _ _ h => op_count h) (fun _ _ _ hf j hj => frX7_count  hf) (fun _ _ _ hf j hj => frX8_count  hf) h
