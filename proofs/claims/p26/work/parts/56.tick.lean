/-! the reference's tick -/
def mid (S : AS) (ws v : Int) (t a L : Nat) (P : Nat → Nat) : AS := (s_cnt S, a, v, s_tck S + t, L, s_sec S, nu (s_stg S) 0 ws, s_wk S, wcP S P, wiP S P, s_wd S, s_fs S, s_sp S, s_kd S, s_co S)
def runS (S : AS) (ws : Int) (j : Nat) (Z : ZS) : AS := mid S ws Z.2.1 j Z.1 Z.2.2.1 Z.2.2.2
theorem mid_M {S : AS} {ws v ws2 v2 : Int} {t a L t2 a2 L2 : Nat} {P P2 : Nat → Nat} {m wr m2 wr2 : Nat → Int32} (h : repM (mid S ws v t a L P) m wr) (h0 : (m2 0).toInt = ws2) (h4 : m2 4 = nI a2) (h5 : (m2 5).toInt = v2) (h6 : m2 6 = nI (s_tck S + t2)) (h7 : m2 7 = nI L2) (hr : ∀ k, k ≠ 0 → k ≠ 4 → k ≠ 5 → k ≠ 6 → k ≠ 7 → m2 k = m k) (hw : ∀ a l, a < 720 → l < 12 → wr2 (12 * a + l) = nI (wN (wiP S P2 a l) (wcP S P2 a l))) : repM (mid S ws2 v2 t2 a2 L2 P2) m2 wr2 := by
  obtain ⟨q1, q2, q3, q4, q5, q6, q7, ⟨q8, q9⟩, q10⟩ := h
  refine ⟨by rw [hr _ (by decide) (by decide) (by decide) (by decide) (by decide)]; exact q1, h4, h5, h6, h7, by rw [hr _ (by decide) (by decide) (by decide) (by decide) (by decide)]; exact q6, fun j hj => ?_, ⟨fun b hb => by rw [hr _ (by omega) (by omega) (by omega) (by omega) (by omega)]; exact q8 b hb, hw⟩, fun p hp => ?_⟩
  · show (m2 j).toInt = nu (s_stg S) 0 ws2 j
    by_cases z : j = 0
    · rw [z, nu_s]; exact h0
    · rw [nu_n z, hr _ z (by omega) (by omega) (by omega) (by omega), q7 j hj]
      exact nu_n z
  · obtain ⟨b1, b2, b3, b4, b5⟩ := q10 p hp
    exact ⟨by rw [hr _ (by omega) (by omega) (by omega) (by omega) (by omega)]; exact b1, by rw [hr _ (by omega) (by omega) (by omega) (by omega) (by omega)]; exact b2, by rw [hr _ (by omega) (by omega) (by omega) (by omega) (by omega)]; exact b3, by rw [hr _ (by omega) (by omega) (by omega) (by omega) (by omega)]; exact b4, fun c h hc hh => by rw [hr _ (by omega) (by omega) (by omega) (by omega) (by omega)]; exact b5 c h hc hh⟩
theorem sg_sm (d : Nat → Nat) : sg 12 d = sm 12 d := by
  rw [sm12]
  show 0 + d 0 + d 1 + d 2 + d 3 + d 4 + d 5 + d 6 + d 7 + d 8 + d 9 + d 10 + d 11 = _
  omega
