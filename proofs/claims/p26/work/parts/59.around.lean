/-! ticksAround -/
def zS (S : AS) (ws : Int) (j : Nat) : ZS := zs (ldA S) (pwN S) (lmN S) ws (Z0S S) j
theorem zS_ok {T : Nat} {S : AS} {ws : Int} (hS : okS T S) (hws : -60 ≤ ws ∧ ws ≤ 60) (j : Nat) : okZ j (zS S ws j) := zs_ok (ldA_le S) hws (Z0S_ok hS) j
def far (S : AS) (t : Nat) : Nat := sg t (fun i => (zS S (s_stg S 0) (i + 1)).2.1.natAbs)
def TA (S : AS) (r : Int32) : Prop := (∃ t, 1 ≤ t ∧ t ≤ 500 ∧ (∀ s, s < t → far S s < 720) ∧ 720 ≤ far S t ∧ r = nI t) ∨ ((∀ s, s ≤ 500 → far S s < 720) ∧ r = -109)
theorem TA_one {S : AS} {r r' : Int32} (h : TA S r) (h' : TA S r') : r = r' := by
  rcases h with ⟨t, t1, t2, t3, t4, t5⟩ | ⟨t1, t2⟩ <;> rcases h' with ⟨u, u1, u2, u3, u4, u5⟩ | ⟨u1, u2⟩
  · rw [t5, u5]
    refine congrArg nI ?_
    rcases Nat.lt_trichotomy t u with z | z | z
    · have := u3 t z; omega
    · exact z
    · have := t3 u z; omega
  · have := u1 t t2; omega
  · have := t1 u u2; omega
  · rw [t2, u2]
theorem far_le {T : Nat} {S : AS} (hS : okS T S) (t : Nat) : far S t ≤ t * 60 := sg_le fun i _ => by
  have h := (zS_ok hS hS.2.2.2.2.2.1.1 (i + 1)).2.1
  omega
theorem pwN_le {T : Nat} {S : AS} (hS : okS T S) : pwN S ≤ 20 := by have := hS.2.2.2.2.2.1.2.1; unfold pwN; omega
theorem lmN_le {T : Nat} {S : AS} (hS : okS T S) : lmN S ≤ 9999 := by have := hS.2.2.2.2.2.1.2.2.1; unfold lmN; omega
