/-- a color of a column changed -/
def nu2 (co : Nat → Nat → Nat → Nat) (p c l x : Nat) : Nat → Nat → Nat → Nat := nu co p (nu (co p) c (nu (co p c) l x))
theorem nu2_at (co : Nat → Nat → Nat → Nat) (p c l x q d j : Nat) : nu2 co p c l x q d j = if q = p ∧ d = c ∧ j = l then x else co q d j := by
  unfold nu2 nu
  by_cases e1 : q = p
  · subst e1
    rw [if_pos rfl]
    by_cases e2 : d = c
    · subst e2
      rw [if_pos rfl]
      by_cases e3 : j = l
      · rw [if_pos e3, if_pos ⟨rfl, rfl, e3⟩]
      · rw [if_neg e3, if_neg (fun z => e3 z.2.2)]
    · rw [if_neg e2, if_neg (fun z => e2 z.2.1)]
  · rw [if_neg e1, if_neg (fun z => e1 z.1)]
