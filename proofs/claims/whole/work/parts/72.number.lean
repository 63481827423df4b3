theorem tM_isColor {tl : Nat} {tx : Nat → Nat} {b_text : Nat → Int32} {i : Nat} {k : Int32 → Prop} (hT : TO tl tx) (hX : TX tl tx b_text) (hi : i ≤ 1000) (y : 48 ≤ hr tl tx i ∧ hr tl tx i ≤ 55 → k 1) (n : ¬ (48 ≤ hr tl tx i ∧ hr tl tx i ≤ 55) → k 0) : PX5_isColor b_text (nI tl) (nI i) k := by
  have hle := hr_le hT i
  unfold PX5_isColor
  refine tM_here hT hX hi ?_
  by_cases z : 48 ≤ hr tl tx i ∧ hr tl tx i ≤ 55
  · exact yes5 (L := 48) (H := 55) (by decide) (by decide) z.1 z.2 ⟨Or.inr rfl, y z⟩
  · refine no5 (A := 48) (B := 55) (by decide) (by decide) ?_ ⟨Or.inl rfl, n z⟩
    rw [i_nI (show hr tl tx i < 2 ^ 31 by omega)]
    omega
