/-! run -/
def Z0S (S : AS) : ZS := (s_ang S, s_spd S, s_ld S, fun _ => 0)
theorem Z0S_ok {T : Nat} {S : AS} (hS : okS T S) : okZ 0 (Z0S S) := ⟨hS.2.1, hS.2.2.1, hS.2.2.2.1, fun _ => Nat.le_refl 0⟩
theorem hit_0 (wk : Nat → Nat → Nat) (sec a l : Nat) : hit wk sec (fun _ => 0) a l = 0 := by
  unfold hit
  simp
theorem hit_le {wk : Nat → Nat → Nat} {sec j : Nat} {P : Nat → Nat} (hP : ∀ q, P q ≤ j) (a l : Nat) : hit wk sec P a l ≤ j := by
  unfold hit
  have h1 := hP a
  have h2 := hP (opp a)
  split <;> split <;> omega
theorem start_M {S : AS} {m wr : Nat → Int32} {x : Int32} {ws : Int} (hM : repM S m wr) (hx : x.toInt = ws) : repM (runS S ws 0 (Z0S S)) (upd m 0 x) wr := by
  obtain ⟨q1, q2, q3, q4, q5, q6, q7, qW, qP⟩ := hM
  refine ⟨by rw [pk_un (by decide)]; exact q1, by rw [pk_un (by decide)]; exact q2, by rw [pk_un (by decide)]; exact q3, by rw [pk_un (by decide)]; exact q4, by rw [pk_un (by decide)]; exact q5, by rw [pk_un (by decide)]; exact q6, fun j hj => ?_, ⟨fun b hb => by rw [pk_un (by omega)]; exact qW.1 b hb, fun a l ha hl => ?_⟩, rmP_upd (by decide) qP⟩
  · show (upd m 0 x j).toInt = nu (s_stg S) 0 ws j
    by_cases z : j = 0
    · rw [z, pk_us, nu_s]; exact hx
    · rw [pk_un z, nu_n z]; exact q7 j hj
  · rw [qW.2 a l ha hl]
    show _ = nI (wN (wiP S (fun _ => 0) a l) (wcP S (fun _ => 0) a l))
    unfold wiP wcP
    rw [hit_0, if_pos rfl, if_pos rfl]
theorem runS_ok {T T' n : Nat} {S : AS} {ws : Int} {Z : ZS} (hS : okS T S) (hZ : okZ n Z) (hws : -60 ≤ ws ∧ ws ≤ 60) (hT : s_tck S + n ≤ T') : okS T' (runS S ws n Z) := by
  obtain ⟨k1, k2, k3, k4, k5, k6, k7, ⟨k8, k9, k10, k11⟩⟩ := id hS
  obtain ⟨z1, z2, z3, z4⟩ := hZ
  refine ⟨k1, z1, z2, z3, k5, ⟨?_, ?_, ?_, ?_⟩, k7, ⟨hT, k9, fun a l ha hl => ?_, fun a l ha hl => ?_⟩⟩
  · show -60 ≤ nu (s_stg S) 0 ws 0 ∧ nu (s_stg S) 0 ws 0 ≤ 60
    rw [nu_s]; exact hws
  · show 1 ≤ nu (s_stg S) 0 ws 1 ∧ nu (s_stg S) 0 ws 1 ≤ 20
    rw [nu_n (by decide)]; exact k6.2.1
  · show 1 ≤ nu (s_stg S) 0 ws 2 ∧ nu (s_stg S) 0 ws 2 ≤ 9999
    rw [nu_n (by decide)]; exact k6.2.2.1
  · show 1 ≤ nu (s_stg S) 0 ws 3 ∧ nu (s_stg S) 0 ws 3 ≤ 99
    rw [nu_n (by decide)]; exact k6.2.2.2
  · show wcP S Z.2.2.2 a l < 8
    unfold wcP
    split
    · exact k10 a l ha hl
    · exact want_lt hS hl
  · show wiP S Z.2.2.2 a l ≤ s_tck S + n
    have h1 := k11 a l ha hl
    have h2 := hit_le (wk := s_wk S) (sec := s_sec S) z4 a l
    unfold wiP
    split <;> omega
