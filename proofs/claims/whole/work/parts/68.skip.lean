/-! the reference's reading -/
def hr (tl : Nat) (tx : Nat → Nat) (i : Nat) : Nat := if i < tl then tx i else 0
theorem hr_le {tl : Nat} {tx : Nat → Nat} (hT : TO tl tx) (i : Nat) : hr tl tx i ≤ 255 := by
  unfold hr
  split
  · rename_i h; exact (hT.2 i h).2
  · omega
theorem tM_here {tl : Nat} {tx : Nat → Nat} {b_text : Nat → Int32} {i : Nat} {k : Int32 → Prop} (hT : TO tl tx) (hX : TX tl tx b_text) (hi : i ≤ 1000) (h : k (nI (hr tl tx i))) : PX5_here b_text (nI tl) (nI i) k := by
  have hl := hT.1
  unfold PX5_here
  unfold hr at h
  refine ⟨fun c => ?_, fun c => ?_⟩ <;> rw [nI_leI (by omega) (by omega)] at c
  · rw [if_neg (by omega)] at h
    exact h
  · rw [if_pos (by omega)] at h
    refine ⟨vp_in_nI (by omega) (by decide), ?_⟩
    rw [nI_clamp (by omega), hX i (by omega)]
    exact h
/-- behind the blanks from i on, f characters -/
def sk (tl : Nat) (tx : Nat → Nat) : Nat → Nat → Nat
  | 0, i => i
  | f + 1, i => if hr tl tx i = 32 then sk tl tx f (i + 1) else i
theorem sk_in {tl : Nat} {tx : Nat → Nat} : ∀ f i, i + f = tl → i ≤ sk tl tx f i ∧ sk tl tx f i ≤ tl ∧ hr tl tx (sk tl tx f i) ≠ 32 ∧ ∀ j, i ≤ j → j < sk tl tx f i → tx j = 32
  | 0, i, h => ⟨Nat.le_refl _, by show i ≤ tl; omega, by show hr tl tx i ≠ 32; unfold hr; rw [if_neg (by omega)]; decide, fun j h1 h2 => by have : j < i := h2; omega⟩
  | f + 1, i, h => by
    unfold sk
    by_cases z : hr tl tx i = 32
    · rw [if_pos z]
      obtain ⟨h1, h2, h3, h4⟩ := sk_in (tl := tl) (tx := tx) f (i + 1) (by omega)
      refine ⟨by omega, h2, h3, fun j j1 j2 => ?_⟩
      by_cases y : j = i
      · subst y
        unfold hr at z
        rwa [if_pos (by omega)] at z
      · exact h4 j (by omega) j2
    · rw [if_neg z]
      exact ⟨Nat.le_refl _, by omega, z, fun j h1 h2 => by omega⟩
theorem tM_skip {tl : Nat} {tx : Nat → Nat} {b_text : Nat → Int32} {i : Nat} {k : Int32 → Prop} (hT : TO tl tx) (hX : TX tl tx b_text) (hi : i ≤ tl) (h : k (nI (sk tl tx (tl - i) i))) : PX5_skip b_text (nI tl) (nI i) k := by
  have hl := hT.1
  unfold PX5_skip
  have key : ∀ (f i : Nat), i + f = tl → k (nI (sk tl tx f i)) → PX5_skip_L1 b_text (nI tl) (fun b_at_1 => (k b_at_1)) (f + 1) (nI i) := by
    intro f
    induction f with
    | zero =>
      intro i hi h
      unfold PX5_skip_L1
      refine tM_here hT hX (by omega) ⟨fun _ => h, fun c => ?_⟩
      unfold hr at c
      rw [if_neg (by omega)] at c
      exact absurd c (by decide)
    | succ f ihf =>
      intro i hi h
      have hle := hr_le hT i
      unfold PX5_skip_L1
      have hz : nI (hr tl tx i) = (32 : Int32) ↔ hr tl tx i = 32 := nI_eq (b := 32) (by omega) (by omega)
      unfold sk at h
      refine tM_here hT hX (by omega) ⟨fun c => ?_, fun c v ev => ?_⟩ <;> rw [hz] at c
      · rw [if_neg c] at h
        exact h
      · rw [if_pos c] at h
        rw [nI_1] at ev
        subst ev
        exact ihf (i + 1) (by omega) h
  exact ⟨tl - i + 1, key (tl - i) i (by omega) h⟩
/-- blanks change nothing but the number's end -/
theorem rd_sk {tl : Nat} {tx : Nat → Nat} : ∀ (f i : Nat) (q : RQ), i + f = tl → q.2.1 ≠ 2 → rd tx f i q = rd tx (tl - sk tl tx f i) (sk tl tx f i) q
  | 0, i, q, h, _ => by
    show rd tx 0 i q = rd tx (tl - i) i q
    rw [show tl - i = 0 by omega]
  | f + 1, i, q, h, h2 => by
    unfold sk
    by_cases z : hr tl tx i = 32
    · rw [if_pos z, ← rd_sk f (i + 1) q (by omega) h2]
      have hx : tx i = 32 := by
        unfold hr at z
        rwa [if_pos (by omega)] at z
      have e : rst q (tx i) i = (0, q) := by
        unfold rst
        rw [if_pos hx, if_neg h2]
      show (if (rst q (tx i) i).1 = 0 then rd tx f (i + 1) (rst q (tx i) i).2 else ((rst q (tx i) i).1, q)) = _
      rw [e, if_pos rfl]
    · rw [if_neg z, show tl - i = f + 1 by omega]
