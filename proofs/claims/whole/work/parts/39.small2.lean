theorem sim_setPlace : SIM_setPlace RR := by
  intro l_oldest l_historySize l_text l_textLength n_pictureCount n_angle n_speed n_ticks n_load n_secondArm n_settings n_working n_written n_writtenIn n_width n_first n_step n_kind n_columns hist b_m b_written b_states b_fifth b_oldest b_stateCount b_text b_textLength a_1 a_2 a_3 hR
  obtain ⟨S, o, n, h, tl, tx, hS, hC, hM, hO, hHC, hHM, e1, e2, e3, e4, hT⟩ := id hR
  have hcnt := hS.1
  have hpc := hC.1
  subst hpc
  unfold PX4_setPlace
  refine pick4p hcnt (fun p hp ep => ⟨fun c => absurd c (by simp), fun j hj ej => ?_⟩) (fun c => ⟨fun _ => ?_, fun j _ ej => absurd ej (by simp)⟩)
  · obtain rfl : p = j := by simpa using ej
    subst ep
    refine pick4 (L := 0) (H := 719) (by decide) (by decide) (fun x _ hx ex => ⟨fun c => absurd c (by decide), fun _ => ?_⟩) (fun c => ⟨fun _ => ?_, fun q => absurd rfl q⟩)
    · subst ex
      refine pick4 (L := 1) (H := 18) (by decide) (by decide) (fun y hy0 hy ey => ⟨fun _ => ?_, fun c => absurd c (by decide)⟩) (fun c => ⟨fun q => absurd rfl q, fun _ => ?_⟩)
      · subst ey
        refine tC_record hS hC hO hHC e1 e3 fun hist' hH' => ?_
        intro v ev nk ek nk2 ek2
        unfold PX5_setPlace
        refine yes5p hM.1 hcnt hp ⟨fun c => absurd c (by decide), fun _ => ?_⟩
        refine yes5 (L := 0) (H := 719) (by decide) (by decide) (by omega) hx ⟨fun c => absurd c (by decide), fun _ => ?_⟩
        refine yes5 (L := 1) (H := 18) (by decide) (by decide) (by omega) hy ⟨fun _ => ?_, fun c => absurd c (by decide)⟩
        refine tM_record hM hO hHM e2 e4 fun st' fi' hM' => ?_
        refine tM_of (j := 1) (by omega) (by omega) ?_
        have e15 : (((12 : Int32) + ((4 : Int32) * nI p)) + (1 : Int32)) = nI (12 + 4 * p + 1) := cellN p 1
        have e16 : (((12 : Int32) + ((4 : Int32) * nI p)) + (2 : Int32)) = nI (12 + 4 * p + 2) := cellN p 2
        rw [e15, e16, nI_clamp (by omega), nI_clamp (by omega)]
        refine ⟨vp_in_nI (by omega) (by decide), fun m1 em1 => ⟨vp_in_nI (by omega) (by decide), fun m2 em2 => ?_⟩⟩
        obtain ⟨-, -, -, -, -, -, -, -, rP⟩ := id hM
        obtain ⟨-, -, -, -, -, -, -, -, cP⟩ := id hC
        have hb := rP p hp
        have hm2 : ∀ k, k ≠ 12 + 4 * p + 1 → k ≠ 12 + 4 * p + 2 → m2 k = b_m k := fun k h1 h2 => by rw [em2, pk_un h2, em1, pk_un h1]
        refine ⟨by rw [ev, ((cP.2.1 p (by omega)).1), show 12 + 4 * p + 1 = 13 + 4 * p by omega, hb.2.1], sP S (s_cnt S) (s_wd S) (nu (s_fs S) p x) (nu (s_sp S) p y) (s_kd S) (s_co S), po o n, pn n, ph n h S, tl, tx, sP_ok hS hcnt ?_, sP_C hC rfl ?_, ?_, HO_push hO hS, hH', hM', rfl, rfl, rfl, rfl, hT⟩
        · obtain ⟨-, -, -, -, -, -, ⟨k1, k2, k3, k4⟩, -⟩ := hS
          refine ⟨k1, fun q hq => ?_, k3, fun q h1 h2 => ?_⟩
          · by_cases z : q = p
            · rw [z, nu_s, nu_s]; exact ⟨by omega, by omega, by omega, (k2 p (by omega)).2.2.2⟩
            · rw [nu_n z, nu_n z]; exact k2 q hq
          · rw [nu_n (by omega), nu_n (by omega)]; exact k4 q h1 h2
        · refine ⟨cP.1, fun q hq => ?_, cP.2.2⟩
          rw [ek, ek2]
          by_cases z : q = p
          · rw [z, nu_s, nu_s, pk_us, pk_us]; exact ⟨rfl, rfl, (cP.2.1 p (by omega)).2.2⟩
          · rw [nu_n z, nu_n z, pk_un z, pk_un z]; exact cP.2.1 q hq
        · obtain ⟨a1, a2, a3, a4, a5, a6, a7, ⟨a8, a8'⟩, a9⟩ := id hM
          refine ⟨by rw [hm2 _ (by omega) (by omega)]; exact a1, by rw [hm2 _ (by omega) (by omega)]; exact a2, by rw [hm2 _ (by omega) (by omega)]; exact a3, by rw [hm2 _ (by omega) (by omega)]; exact a4, by rw [hm2 _ (by omega) (by omega)]; exact a5, by rw [hm2 _ (by omega) (by omega)]; exact a6, fun j hj => by rw [hm2 _ (by omega) (by omega)]; exact a7 j hj, ⟨fun a ha => by rw [hm2 _ (by omega) (by omega)]; exact a8 a ha, a8'⟩, fun q hq => ?_⟩
          obtain ⟨b1, b2, b3, b4, b5⟩ := rP q hq
          have hq4 : q < 4 := Nat.lt_of_lt_of_le hq hcnt
          refine ⟨by rw [hm2 _ (by omega) (by omega)]; exact b1, ?_, ?_, by rw [hm2 _ (by omega) (by omega)]; exact b4, fun c h hc hh => by rw [hm2 _ (by omega) (by omega)]; exact b5 c h hc hh⟩
          · by_cases z : q = p
            · subst z
              rw [em2, pk_un (by omega), em1, show 13 + 4 * q = 12 + 4 * q + 1 by omega, pk_us]
              exact congrArg nI nu_s.symm
            · rw [hm2 _ (by omega) (by omega), b2]
              exact congrArg nI (nu_n z).symm
          · by_cases z : q = p
            · subst z
              rw [em2, show 14 + 4 * q = 12 + 4 * q + 2 by omega, pk_us]
              exact congrArg nI nu_s.symm
            · rw [hm2 _ (by omega) (by omega), b3]
              exact congrArg nI (nu_n z).symm
      · unfold PX5_setPlace
        refine yes5p hM.1 hcnt hp ⟨fun c => absurd c (by decide), fun _ => ?_⟩
        refine yes5 (L := 0) (H := 719) (by decide) (by decide) (by omega) hx ⟨fun c => absurd c (by decide), fun _ => ?_⟩
        exact no5 (A := 1) (B := 18) (by decide) (by decide) c ⟨fun q => absurd rfl q, fun _ => ⟨rfl, hR⟩⟩
    · unfold PX5_setPlace
      refine yes5p hM.1 hcnt hp ⟨fun c => absurd c (by decide), fun _ => ?_⟩
      exact no5 (A := 0) (B := 719) (by decide) (by decide) c ⟨fun _ => ⟨rfl, hR⟩, fun q => absurd rfl q⟩
  · unfold PX5_setPlace
    exact no5p hM.1 hcnt c ⟨fun _ => ⟨rfl, hR⟩, fun q => absurd rfl q⟩
theorem sim_setting : SIM_setting RR := by
  intro l_oldest l_historySize l_text l_textLength n_pictureCount n_angle n_speed n_ticks n_load n_secondArm n_settings n_working n_written n_writtenIn n_width n_first n_step n_kind n_columns hist b_m b_written b_states b_fifth b_oldest b_stateCount b_text b_textLength a_1 hR
  obtain ⟨S, o, n, h, tl, tx, hS, hC, hM, hO, hHC, hHM, e1, e2, e3, e4, hT⟩ := id hR
  unfold PX4_setting PX5_setting
  refine pick4 (L := 0) (H := 3) (by decide) (by decide) (fun x _ hx ex => ⟨fun c => absurd c (by decide), fun _ => ?_⟩) (fun c => ⟨fun _ => ?_, fun q => absurd rfl q⟩)
  · subst ex
    refine ⟨vp_in_nI (by omega) (by decide), ?_⟩
    refine yes5 (L := 0) (H := 3) (by decide) (by decide) (by omega) hx ⟨fun c => absurd c (by decide), fun _ => ⟨vp_in_nI (by omega) (by decide), ?_, hR⟩⟩
    rw [nI_clamp (by omega)]
    exact Int32.toInt_inj.mp ((hC.2.2.2.2.2.2.1 x (by omega)).trans (hM.2.2.2.2.2.2.1 x (by omega)).symm)
  · exact no5 (A := 0) (B := 3) (by decide) (by decide) c ⟨fun _ => ⟨rfl, hR⟩, fun q => absurd rfl q⟩
theorem sim_setSecondArm : SIM_setSecondArm RR := by
  intro l_oldest l_historySize l_text l_textLength n_pictureCount n_angle n_speed n_ticks n_load n_secondArm n_settings n_working n_written n_writtenIn n_width n_first n_step n_kind n_columns hist b_m b_written b_states b_fifth b_oldest b_stateCount b_text b_textLength a_1 hR
  obtain ⟨S, o, n, h, tl, tx, hS, hC, hM, hO, hHC, hHM, e1, e2, e3, e4, hT⟩ := id hR
  unfold PX4_setSecondArm PX5_setSecondArm
  refine pick4 (L := 0) (H := 1) (by decide) (by decide) (fun x _ hx ex => ⟨fun _ => ?_, fun c => absurd c (by decide)⟩) (fun c => ⟨fun q => absurd rfl q, fun _ => ?_⟩)
  · subst ex
    refine tC_record hS hC hO hHC e1 e3 fun hist' hH' => ?_
    refine yes5 (L := 0) (H := 1) (by decide) (by decide) (by omega) hx ⟨fun c => absurd c (by decide), fun _ => ?_⟩
    unfold PX5_put
    refine tM_record hM hO hHM e2 e4 fun st' fi' hM' => ?_
    refine ⟨vp_in_nI (n := 8) (by omega) (by decide), fun v2 ev2 => ⟨vp_in_nI (n := 8) (by omega) (by decide), fun m2 em2 => ?_⟩⟩
    have e8 : Int32.toNatClampNeg (8 : Int32) = 8 := nI_clamp (n := 8) (by omega)
    rw [e8] at ev2 em2
    obtain ⟨c1, c2, c3, c4, c5, c6, c7⟩ := id hC
    obtain ⟨m1, m2', m3, m4, m5, m6, m7, m8, m9⟩ := id hM
    obtain ⟨k1, k2, k3, k4, k5, k6⟩ := id hS
    refine ⟨by rw [ev2, c6, m6], (s_cnt S, s_ang S, s_spd S, s_tck S, s_ld S, x, S.2.2.2.2.2.2), po o n, pn n, ph n h S, tl, tx, ⟨k1, k2, k3, k4, hx, k6⟩, ⟨c1, c2, c3, c4, c5, rfl, c7⟩, ?_, HO_push hO hS, hH', hM', rfl, rfl, rfl, rfl, hT⟩
    subst em2
    exact ⟨by rw [pk_un (by decide)]; exact m1, by rw [pk_un (by decide)]; exact m2', by rw [pk_un (by decide)]; exact m3, by rw [pk_un (by decide)]; exact m4, by rw [pk_un (by decide)]; exact m5, by rw [pk_us], fun j hj => by rw [pk_un (by omega)]; exact m7 j hj, rmW_upd (by omega) m8, rmP_upd (by omega) m9⟩
  · exact no5 (A := 0) (B := 1) (by decide) (by decide) c ⟨fun _ => ⟨rfl, hR⟩, fun q => absurd rfl q⟩
