theorem sk_ge {tl : Nat} {tx : Nat → Nat} {i : Nat} (h : i ≤ tl) : i ≤ sk tl tx (tl - i) i ∧ sk tl tx (tl - i) i ≤ tl ∧ hr tl tx (sk tl tx (tl - i) i) ≠ 32 := by
  have := sk_in (tl := tl) (tx := tx) (tl - i) i (by omega)
  exact ⟨this.1, this.2.1, this.2.2.1⟩
theorem rd_step {tx : Nat → Nat} {tl i : Nat} {q : RQ} (h : i < tl) : rd tx (tl - i) i q = if (rst q (tx i) i).1 = 0 then rd tx (tl - (i + 1)) (i + 1) (rst q (tx i) i).2 else ((rst q (tx i) i).1, q) := by
  rw [show tl - i = (tl - (i + 1)) + 1 by omega]
  rfl
theorem rd_end {tx : Nat → Nat} {tl : Nat} {q : RQ} : rd tx (tl - tl) tl q = ((if q.2.1 = 0 then 0 else tl + 1), q) := by
  rw [Nat.sub_self]
  rfl
/-- behind the number's digits: a blank or none, then the bracket -/
theorem rd_blank {tx : Nat → Nat} {tl i : Nat} {q : RQ} (hi : i ≤ tl) (h2 : q.2.1 = 2 ∨ q.2.1 = 3) (hn : ¬ (48 ≤ hr tl tx i ∧ hr tl tx i ≤ 57)) :
    if hr tl tx (sk tl tx (tl - i) i) = 41 then rd tx (tl - i) i q = rd tx (tl - (sk tl tx (tl - i) i + 1)) (sk tl tx (tl - i) i + 1) (q.1, 4, q.2.2) else (rd tx (tl - i) i q).1 = sk tl tx (tl - i) i + 1 := by
  have three : ∀ (j : Nat) (p : RQ), j ≤ tl → p.2.1 = 3 → p.1 = q.1 → p.2.2 = q.2.2 → if hr tl tx (sk tl tx (tl - j) j) = 41 then rd tx (tl - j) j p = rd tx (tl - (sk tl tx (tl - j) j + 1)) (sk tl tx (tl - j) j + 1) (q.1, 4, q.2.2) else (rd tx (tl - j) j p).1 = sk tl tx (tl - j) j + 1 := by
    intro j p hj p3 p1 p2
    obtain ⟨s1, s2, s3⟩ := sk_ge (tx := tx) hj
    rw [rd_sk (tl := tl) (tl - j) j p (by omega) (by omega)]
    generalize sk tl tx (tl - j) j = e at s1 s2 s3
    by_cases z : e < tl
    · have ehr : hr tl tx e = tx e := by unfold hr; rw [if_pos z]
      rw [ehr] at s3 ⊢
      rw [rd_step z]
      have er : rst p (tx e) e = tkB p (tx e) e := by
        unfold rst
        rw [if_neg s3, if_neg (by omega), if_neg (by omega), if_pos p3]
      rw [er]
      unfold tkB
      by_cases y : tx e = 41
      · rw [if_pos y, if_pos y, if_pos rfl, p1, p2]
      · rw [if_neg y, if_neg y, if_neg (by show ¬ e + 1 = 0; omega)]
    · obtain rfl : e = tl := by omega
      have ehr : hr e tx e = 0 := by unfold hr; rw [if_neg z]
      rw [ehr, if_neg (by decide), rd_end, if_neg (by omega)]
  rcases h2 with h2 | h3
  · by_cases z : i < tl
    · have ehr : hr tl tx i = tx i := by unfold hr; rw [if_pos z]
      rw [ehr] at hn
      by_cases y : tx i = 32
      · have er : rst q (tx i) i = (0, (q.1, 3, q.2.2)) := by
          unfold rst
          rw [if_pos y, if_pos h2]
        have es : sk tl tx (tl - i) i = sk tl tx (tl - (i + 1)) (i + 1) := by
          rw [show tl - i = (tl - (i + 1)) + 1 by omega]
          show (if hr tl tx i = 32 then _ else _) = _
          rw [ehr, if_pos y]
        rw [rd_step z, er, if_pos rfl, es]
        exact three (i + 1) _ (by omega) rfl rfl rfl
      · have es : sk tl tx (tl - i) i = i := by
          rw [show tl - i = (tl - (i + 1)) + 1 by omega]
          show (if hr tl tx i = 32 then _ else _) = _
          rw [ehr, if_neg y]
        rw [es, ehr, rd_step z]
        by_cases x : tx i = 41
        · have er : rst q (tx i) i = (0, (q.1, 4, q.2.2)) := by
            unfold rst tkB
            rw [if_neg y, if_neg (by omega), if_pos h2, if_pos x, if_pos x]
          rw [er, if_pos x, if_pos rfl]
        · have er : rst q (tx i) i = (i + 1, q) := by
            unfold rst tkD
            rw [if_neg y, if_neg (by omega), if_pos h2, if_neg x, if_neg hn]
          rw [er, if_neg x, if_neg (by show ¬ i + 1 = 0; omega)]
    · obtain rfl : i = tl := by omega
      have es : sk i tx (i - i) i = i := by rw [Nat.sub_self]; rfl
      have ehr : hr i tx i = 0 := by unfold hr; rw [if_neg z]
      rw [es, ehr, if_neg (by decide), rd_end, if_neg (by omega)]
  · exact three i q hi h3 rfl rfl
