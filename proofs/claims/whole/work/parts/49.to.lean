/-- how many values of a cell count -/
def szc (a : Nat) : Nat := if tg a < 8 then nf (tg a) else ln a
theorem arrV_to {cA : ClassId} {n : Nat} {f g : Nat → Value} (h : ∀ j, j < n → f j = g j) : arrV cA n f = arrV cA n g := by
  have e : (fun j : Fin n => f j.val) = fun j : Fin n => g j.val := funext fun j => h j.val j.isLt
  unfold arrV
  rw [e]
theorem cV.to {G : GT} {V V1 : Nat → Nat → Value} {a : Nat} {H : Heap} (h : cV G V a H) (hv : ∀ j, j < szc a → V a j = V1 a j) : cV G V1 a H := by
  unfold cV at h ⊢
  unfold szc at hv
  by_cases ht : tg a < 8
  · rw [if_pos ht] at h hv ⊢
    exact h.to hv
  · rw [if_neg ht] at h hv ⊢
    rw [h, arrV_to hv]
theorem SV.to {G : GT} {k : Nat} {V V1 : Nat → Nat → Value} {H : Heap} {locs : List Loc} (h : SV G k V H locs) (hv : ∀ a, a < k → ∀ j, j < szc a → V a j = V1 a j) : SV G k V1 H locs :=
  ⟨⟨h.1.1, h.1.2.1, fun a ha => (h.1.2.2 a ha).to (hv a ha)⟩, h.2⟩
/-- all cells made, with the values of x: the state -/
theorem SV.full {G : GT} {V : Nat → Nat → Value} {x : XS} {H : Heap} {locs : List Loc} (h : SV G 121 V H locs) (hv : ∀ a, a < 121 → ∀ j, j < szc a → V a j = vw G.1 x a j) : SR G x H locs :=
  ⟨⟨h.1.1, h.1.2.1, fun a ha => (h.1.2.2 a ha).to (V1 := vw G.1 x) (hv a ha)⟩, h.2⟩
