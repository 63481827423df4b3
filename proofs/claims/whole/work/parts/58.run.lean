/-! run -/
def Z0S (S : AS) : ZS := (s_ang S, s_spd S, s_ld S, fun _ => 0)
theorem Z0S_ok {T : Nat} {S : AS} (hS : okS T S) : okZ 0 (Z0S S) := ⟨hS.2.1, hS.2.2.1, hS.2.2.2.1, fun _ => Nat.le_refl 0⟩
theorem hit_0 (wk : Nat → Nat → Nat) (sec a l : Nat) : hit wk sec (fun _ => 0) a l = 0 := by
  unfold hit
  simp
theorem hit_le {wk : Nat → Nat → Nat} {sec j : Nat} {P : Nat → Nat} (hP : ∀ q, P q ≤ j) (a l : Nat) : hit wk sec P a l ≤ j := by
  unfold hit
  have h1 := hP a
  have h2 := hP (opp a)
  split <;> split <;> omega
theorem start_M {S : AS} {m wr : Nat → Int32} {x : Int32} {ws : Int} (hM : repM S m wr) (hx : x.toInt = ws) : repM (runS S ws 0 (Z0S S)) (upd m 0 x) wr := by
  obtain ⟨q1, q2, q3, q4, q5, q6, q7, qW, qP⟩ := hM
  refine ⟨by rw [pk_un (by decide)]; exact q1, by rw [pk_un (by decide)]; exact q2, by rw [pk_un (by decide)]; exact q3, by rw [pk_un (by decide)]; exact q4, by rw [pk_un (by decide)]; exact q5, by rw [pk_un (by decide)]; exact q6, fun j hj => ?_, ⟨fun b hb => by rw [pk_un (by omega)]; exact qW.1 b hb, fun a l ha hl => ?_⟩, rmP_upd (by decide) qP⟩
  · show (upd m 0 x j).toInt = nu (s_stg S) 0 ws j
    by_cases z : j = 0
    · rw [z, pk_us, nu_s]; exact hx
    · rw [pk_un z, nu_n z]; exact q7 j hj
  · rw [qW.2 a l ha hl]
    show _ = nI (wN (wiP S (fun _ => 0) a l) (wcP S (fun _ => 0) a l))
    unfold wiP wcP
    rw [hit_0, if_pos rfl, if_pos rfl]
theorem runS_ok {T T' n : Nat} {S : AS} {ws : Int} {Z : ZS} (hS : okS T S) (hZ : okZ n Z) (hws : -60 ≤ ws ∧ ws ≤ 60) (hT : s_tck S + n ≤ T') : okS T' (runS S ws n Z) := by
  obtain ⟨k1, k2, k3, k4, k5, k6, k7, ⟨k8, k9, k10, k11⟩⟩ := id hS
  obtain ⟨z1, z2, z3, z4⟩ := hZ
  refine ⟨k1, z1, z2, z3, k5, ⟨?_, ?_, ?_, ?_⟩, k7, ⟨hT, k9, fun a l ha hl => ?_, fun a l ha hl => ?_⟩⟩
  · show -60 ≤ nu (s_stg S) 0 ws 0 ∧ nu (s_stg S) 0 ws 0 ≤ 60
    rw [nu_s]; exact hws
  · show 1 ≤ nu (s_stg S) 0 ws 1 ∧ nu (s_stg S) 0 ws 1 ≤ 20
    rw [nu_n (by decide)]; exact k6.2.1
  · show 1 ≤ nu (s_stg S) 0 ws 2 ∧ nu (s_stg S) 0 ws 2 ≤ 9999
    rw [nu_n (by decide)]; exact k6.2.2.1
  · show 1 ≤ nu (s_stg S) 0 ws 3 ∧ nu (s_stg S) 0 ws 3 ≤ 99
    rw [nu_n (by decide)]; exact k6.2.2.2
  · show wcP S Z.2.2.2 a l < 8
    unfold wcP
    split
    · exact k10 a l ha hl
    · exact want_lt hS hl
  · show wiP S Z.2.2.2 a l ≤ s_tck S + n
    have h1 := k11 a l ha hl
    have h2 := hit_le (wk := s_wk S) (sec := s_sec S) z4 a l
    unfold wiP
    split <;> omega
theorem sim_run : SIM_run RR := by
  intro l_oldest l_historySize l_text l_textLength w_wanted w_loadAt w_passedIn w_secondArm w_power w_limit w_wantedSpeed w_angle w_speed w_load w_ticks n_pictureCount n_angle n_speed n_ticks n_load n_secondArm n_settings n_working n_written n_writtenIn n_width n_first n_step n_kind n_columns hist b_m b_written b_states b_fifth b_oldest b_stateCount b_text b_textLength b_wants a_1 hR
  obtain ⟨S, o, n, h, tl, tx, hS, hC, hM, hO, hHC, hHM, e1, e2, e3, e4, hT⟩ := id hR
  obtain ⟨c1, c2, c3, c4, c5, c6, cG, cW, cP⟩ := id hC
  obtain ⟨q1, q2, q3, q4, q5, q6, q7, qW, qP⟩ := id hM
  have kG := hS.2.2.2.2.2.1
  have kT : s_tck S ≤ 5000 := hS.2.2.2.2.2.2.2.1
  unfold PX4_run PX5_run
  refine pick4 (L := 1) (H := 100) (by decide) (by decide) (fun x hx0 hx ex => ⟨fun _ => ?_, fun c => absurd c (by decide)⟩) (fun c => ⟨fun q => absurd rfl q, fun _ => ?_⟩)
  · subst ex
    have hsum : n_ticks + nI x ≤ (5000 : Int32) ↔ s_tck S + x ≤ 5000 := by
      rw [c4, nI_add, show (5000 : Int32) = nI 5000 from rfl, nI_leI (by omega) (by omega)]
    have hsum2 : b_m 6 + nI x ≤ (5000 : Int32) ↔ s_tck S + x ≤ 5000 := by
      rw [q4, nI_add, show (5000 : Int32) = nI 5000 from rfl, nI_leI (by omega) (by omega)]
    refine ⟨fun c => ?_, fun c => ?_⟩ <;> rw [hsum] at c
    · refine tC_record hS hC hO hHC e1 e3 fun hist' hH' => ?_
      refine tC_prepare hS hC fun ww wl hww hwl => tC_start fun wp hwp => ?_
      have hws : (n_settings 0).toInt = s_stg S 0 := cG 0 (by omega)
      have hz := Z0S_ok hS
      have hpw : pwN S ≤ 20 := by have := kG.2.1; unfold pwN; omega
      have hlm : lmN S ≤ 9999 := by have := kG.2.2.1; unfold lmN; omega
      refine tC_goOn (f := ldA S) (j0 := 0) (Z0 := Z0S S) (ldA_le S) hwl hpw hlm hws kG.1 (by omega) hz ⟨hwp, c2, c3, c5, rfl⟩ fun wp' wa' wv' wl' wt' hZ => ?_
      rw [Nat.zero_add] at hZ
      obtain ⟨g1, g2, g3, g4, g5⟩ := hZ
      have hzx := zs_ok (f := ldA S) (pw := pwN S) (lm := lmN S) (ldA_le S) kG.1 hz x
      refine tC_write (by decide) hS hC hww g1 hzx.2.2.2 (by omega) g5 fun w' i' hw' hi' => ?_
      refine yes5 (L := 1) (H := 100) (by decide) (by decide) hx0 hx ⟨fun _ => ⟨fun _ => ?_, fun c2 => absurd (hsum2.mpr c) c2⟩, fun c => absurd c (by decide)⟩
      refine tM_record hM hO hHM e2 e4 fun st' fi' hM' => ?_
      refine tM_layWants hS q1 qP fun mw hmw => ?_
      have hM0 : repM (runS S (s_stg S 0) 0 (Z0S S)) b_m b_written := by
        have := start_M (x := b_m 0) hM (q7 0 (by omega))
        rwa [fa_upd_same rfl] at this
      refine tM_goOn hS (by decide) (by omega) hz kG.1 hM0 hmw fun m' wr' hMn => ?_
      refine ⟨by rw [g4]; exact hMn.2.2.2.2.1.symm, runS S (s_stg S 0) x (zs (ldA S) (pwN S) (lmN S) (s_stg S 0) (Z0S S) x), po o n, pn n, ph n h S, tl, tx, runS_ok hS hzx kG.1 c, ⟨c1, g2, g3, rfl, g4, c6, fun j hj => ?_, ⟨cW.1, hw', hi'⟩, cP⟩, hMn, HO_push hO hS, hH', hM', rfl, rfl, rfl, rfl, hT⟩
      show (n_settings j).toInt = nu (s_stg S) 0 (s_stg S 0) j
      by_cases z : j = 0
      · rw [z, nu_s]; exact hws
      · rw [nu_n z]; exact cG j hj
    · exact yes5 (L := 1) (H := 100) (by decide) (by decide) hx0 hx ⟨fun _ => ⟨fun c2 => absurd (hsum2.mp c2) c, fun _ => ⟨rfl, hR⟩⟩, fun c => absurd c (by decide)⟩
  · exact no5 (A := 1) (B := 100) (by decide) (by decide) c ⟨fun q => absurd rfl q, fun _ => ⟨rfl, hR⟩⟩
