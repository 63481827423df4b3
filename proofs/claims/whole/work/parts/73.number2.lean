/-- behind the bracket: blanks, then a color -/
theorem rd_four {tx : Nat → Nat} {tl i : Nat} {q : RQ} (hi : i ≤ tl) (h4 : q.2.1 = 4) :
    if 48 ≤ hr tl tx (sk tl tx (tl - i) i) ∧ hr tl tx (sk tl tx (tl - i) i) ≤ 55 then sk tl tx (tl - i) i < tl ∧ rd tx (tl - i) i q = rd tx (tl - sk tl tx (tl - i) i) (sk tl tx (tl - i) i) q else (rd tx (tl - i) i q).1 = sk tl tx (tl - i) i + 1 := by
  obtain ⟨s1, s2, s3⟩ := sk_ge (tx := tx) hi
  rw [rd_sk (tl := tl) (tl - i) i q (by omega) (by omega)]
  generalize sk tl tx (tl - i) i = e at s1 s2 s3
  by_cases z : e < tl
  · have ehr : hr tl tx e = tx e := by unfold hr; rw [if_pos z]
    rw [ehr] at s3 ⊢
    by_cases y : 48 ≤ tx e ∧ tx e ≤ 55
    · rw [if_pos y]
      exact ⟨z, rfl⟩
    · rw [if_neg y, rd_step z]
      have er : rst q (tx e) e = (e + 1, q) := by
        unfold rst tkC
        rw [if_neg s3, if_neg (by omega), if_neg (by omega), if_neg (by omega), if_pos h4, if_neg (fun u => y ⟨u.1, u.2.1⟩)]
      rw [er, if_neg (by show ¬ e + 1 = 0; omega)]
  · obtain rfl : e = tl := by omega
    have ehr : hr e tx e = 0 := by unfold hr; rw [if_neg z]
    rw [ehr, if_neg (by decide), rd_end, if_neg (by omega)]
