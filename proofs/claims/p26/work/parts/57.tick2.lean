theorem mid_0 (S : AS) (ws v : Int) (t a L : Nat) (P : Nat → Nat) : s_stg (mid S ws v t a L P) 0 = ws := by
  show nu (s_stg S) 0 ws 0 = ws
  exact nu_s
theorem opp_ne {a : Nat} (h : a < 720) : opp a ≠ a := by unfold opp; omega
/-- the places behind one step more -/
theorem step_places {S : AS} {P : Nat → Nat} {a j : Nat} (ha : a < 720) (hj : 1 ≤ j) (hP : ∀ q, P q ≤ j) {wr wr1 wr2 : Nat → Int32} (h0 : ∀ a l, a < 720 → l < 12 → wr (12 * a + l) = nI (wN (wiP S P a l) (wcP S P a l)))
    (h1 : ∀ l, l < 12 → wr1 (12 * a + l) = if s_wk S 0 l = 1 then nI (8 * (s_tck S + j) + wantS S a l) else wr (12 * a + l)) (h1' : ∀ q, q < 12 * a ∨ 12 * a + 12 ≤ q → wr1 q = wr q)
    (h2 : s_sec S = 1 → (∀ l, l < 12 → wr2 (12 * opp a + l) = if s_wk S 1 l = 1 then nI (8 * (s_tck S + j) + wantS S (opp a) l) else wr1 (12 * opp a + l)) ∧ ∀ q, q < 12 * opp a ∨ 12 * opp a + 12 ≤ q → wr2 q = wr1 q) (h3 : s_sec S ≠ 1 → wr2 = wr1) :
    ∀ b l, b < 720 → l < 12 → wr2 (12 * b + l) = nI (wN (wiP S (nu P a j) b l) (wcP S (nu P a j) b l)) := by
  intro b l hb hl
  have ho := opp_lt a
  have hne := opp_ne ha
  have same : hit (s_wk S) (s_sec S) (nu P a j) b l = hit (s_wk S) (s_sec S) P b l → wN (wiP S (nu P a j) b l) (wcP S (nu P a j) b l) = wN (wiP S P b l) (wcP S P b l) := fun e => by unfold wiP wcP; rw [e]
  have new : hit (s_wk S) (s_sec S) (nu P a j) b l = j → wN (wiP S (nu P a j) b l) (wcP S (nu P a j) b l) = 8 * (s_tck S + j) + wantS S b l := fun e => by
    unfold wiP wcP
    rw [e, if_neg (by omega), if_neg (by omega)]
    unfold wN
    rw [if_neg (by omega)]
  by_cases z : b = a
  · subst z
    have e2 : wr2 (12 * b + l) = wr1 (12 * b + l) := by
      by_cases y : s_sec S = 1
      · exact (h2 y).2 _ (by omega)
      · rw [h3 y]
    rw [e2, h1 l hl]
    by_cases y : s_wk S 0 l = 1
    · rw [if_pos y, new ?_]
      unfold hit
      rw [if_pos y, nu_s, nu_n hne]
      have := hP (opp b)
      split <;> omega
    · rw [if_neg y, h0 b l hb hl, same ?_]
      unfold hit
      rw [if_neg y, if_neg y, nu_n hne]
  · have e1 : wr1 (12 * b + l) = wr (12 * b + l) := h1' _ (by omega)
    by_cases y : s_sec S = 1
    · by_cases x : b = opp a
      · subst x
        rw [(h2 y).1 l hl, e1]
        by_cases u : s_wk S 1 l = 1
        · rw [if_pos u, new ?_]
          unfold hit
          rw [if_pos (show s_sec S = 1 ∧ s_wk S 1 l = 1 from ⟨y, u⟩), opp_opp ha, nu_s, nu_n hne]
          have := hP (opp a)
          split <;> omega
        · rw [if_neg u, h0 _ l hb hl, same ?_]
          unfold hit
          rw [if_neg (show ¬ (s_sec S = 1 ∧ s_wk S 1 l = 1) from fun v => u v.2), if_neg (show ¬ (s_sec S = 1 ∧ s_wk S 1 l = 1) from fun v => u v.2), nu_n hne]
      · rw [(h2 y).2 _ (by omega), e1, h0 b l hb hl, same ?_]
        unfold hit
        have e : opp b ≠ a := fun q => x (by rw [← q, opp_opp hb])
        rw [nu_n z, nu_n e]
    · rw [h3 y, e1, h0 b l hb hl, same ?_]
      unfold hit
      rw [nu_n z, if_neg (show ¬ (s_sec S = 1 ∧ s_wk S 1 l = 1) from fun v => y v.1), if_neg (show ¬ (s_sec S = 1 ∧ s_wk S 1 l = 1) from fun v => y v.1)]
