theorem cc5 (s : Nat) (hs : s < 5) (k : Nat) (hk : k < 4668) : ((4668 : Int32) * nI s) + nI k = nI (4668 * s + k) := by
  show nI 4668 * nI s + nI k = _
  rw [pk_mul, nI_add]
/-- the slot s has its first i cells from f, all other slots are as they were -/
def layJ (st0 fi0 : Nat → Int32) (s : Nat) (f : Nat → Int32) (i : Nat) (st fi : Nat → Int32) : Prop := (∀ k, k < i → pst st fi s k = f k) ∧ ∀ s' k, s' < 5 → s' ≠ s → k < 4668 → pst st fi s' k = pst st0 fi0 s' k
theorem layJ_step {st0 fi0 st fi st' fi' f : Nat → Int32} {s i : Nat} (hs : s < 5) (hi : i < 4668) (hJ : layJ st0 fi0 s f i st fi) (h : ∀ s' k', s' < 5 → k' < 4668 → pst st' fi' s' k' = if s' = s ∧ k' = i then f i else pst st fi s' k') : layJ st0 fi0 s f (i + 1) st' fi' := by
  refine ⟨fun k hk => ?_, fun s' k h1 h2 h3 => ?_⟩
  · rw [h s k hs (by omega)]
    by_cases z : k = i
    · rw [if_pos ⟨rfl, z⟩, z]
    · rw [if_neg (fun q => z q.2)]; exact hJ.1 k (by omega)
  · rw [h s' k h1 h3, if_neg (fun q => h2 q.1)]; exact hJ.2 s' k h1 h2 h3
def slotF (m wr : Nat → Int32) (k : Nat) : Int32 := if k < 348 then m k else wr (2 * (k - 348)) ||| (wr (2 * (k - 348) + 1) <<< ((16 : Int32) &&& 31))
theorem slot_of {st fi m wr : Nat → Int32} {s : Nat} (h : ∀ k, k < 4668 → pst st fi s k = slotF m wr k) : slotIs st fi s m wr := by
  refine ⟨fun k hk => ?_, fun k hk => ?_⟩
  · rw [h k (by omega)]; unfold slotF; rw [if_pos hk]
  · rw [h (348 + k) (by omega)]; unfold slotF; rw [if_neg (by omega), show 348 + k - 348 = k by omega]
