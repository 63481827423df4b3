theorem rcW_cong {wk wc wi : Nat → Nat → Nat} {n_working n_written : Nat → Int64} {n_writtenIn : Nat → Int32} {wk' : Nat → Nat → Nat} {w' : Nat → Int64} (h : rcW wk wc wi n_working n_written n_writtenIn) (hw : ∀ a, a < 2 → w' a = lN (dg 8 12 (wk' a))) : rcW wk' wc wi w' n_written n_writtenIn := ⟨hw, h.2.1, h.2.2⟩
theorem sim_addPicture : SIM_addPicture RR := by
  intro l_oldest l_historySize l_text l_textLength n_pictureCount n_angle n_speed n_ticks n_load n_secondArm n_settings n_working n_written n_writtenIn n_width n_first n_step n_kind n_columns hist b_m b_written b_states b_fifth b_oldest b_stateCount b_text b_textLength a_1 hR
  obtain ⟨S, o, n, h, tl, tx, hS, hC, hM, hO, hHC, hHM, e1, e2, e3, e4, hT⟩ := id hR
  have hcnt := hS.1
  have hpc := hC.1
  subst hpc
  have hm11 := hM.1
  unfold PX4_addPicture PX5_addPicture
  refine pick4 (L := 1) (H := 40) (by decide) (by decide) (fun x hx0 hx ex => ⟨fun _ => ⟨fun c => ?_, fun c => ?_⟩, fun c => absurd c (by decide)⟩) (fun c => ⟨fun q => absurd rfl q, fun _ => ?_⟩)
  · subst ex
    rw [show (4 : Int32) = nI 4 from rfl, nI_ltI (by omega) (by omega)] at c
    generalize hp : s_cnt S = p at c hcnt hm11 hC hR
    have hp4 : p < 4 := c
    refine tC_record hS hC hO hHC e1 e3 fun hist' hH' => ⟨vp_in_nI (by omega) (by decide), fun j hj ej nw ew fc ef => ?_⟩
    rw [nI_clamp (by omega)] at ej
    subst ej
    refine yes5 (L := 1) (H := 40) (by decide) (by decide) hx0 hx ⟨fun _ => ⟨fun _ => ?_, fun c2 => ?_⟩, fun c => absurd c (by decide)⟩
    · refine tM_record hM hO hHM e2 e4 fun st' fi' hM' => ?_
      intro v ev m1 em1
      rw [hm11] at ev em1
      subst ev
      have f0 : (((12 : Int32) + ((4 : Int32) * nI p)) + (0 : Int32)) = nI (12 + 4 * p + 0) := cellN p 0
      have f1 : (((12 : Int32) + ((4 : Int32) * nI p)) + (1 : Int32)) = nI (12 + 4 * p + 1) := cellN p 1
      have f2 : (((12 : Int32) + ((4 : Int32) * nI p)) + (2 : Int32)) = nI (12 + 4 * p + 2) := cellN p 2
      have f3 : (((12 : Int32) + ((4 : Int32) * nI p)) + (3 : Int32)) = nI (12 + 4 * p + 3) := cellN p 3
      rw [f0, f1, f2, f3, nI_clamp (by omega), nI_clamp (by omega), nI_clamp (by omega), nI_clamp (by omega)]
      refine ⟨vp_in_nI (by omega) (by decide), fun m2 em2 => ⟨vp_in_nI (by omega) (by decide), fun m3 em3 => ⟨vp_in_nI (by omega) (by decide), fun m4 em4 => ⟨vp_in_nI (by omega) (by decide), fun m5 em5 => ?_⟩⟩⟩⟩
      refine lp2 (PX5_addPicture_L1 (nI p) _) (fun v m' => ∃ i, i ≤ 80 ∧ v = nI i ∧ (∀ q, ¬ (28 + 80 * p ≤ q ∧ q < 28 + 80 * p + 80) → m' q = m5 q) ∧ ∀ q, q < i → m' (28 + 80 * p + q) = 0) (fun v _ => 80 - v.toNatClampNeg) ?_ _ _ ⟨0, by omega, rfl, fun _ _ => rfl, fun q hq => by omega⟩
      rintro f v m' ⟨i, hi, ev, hJ1, hJ2⟩ ih
      subst ev
      unfold PX5_addPicture_L1
      refine ⟨fun c => ?_, fun c => ?_⟩ <;> rw [show (80 : Int32) = nI 80 from rfl, nI_leI (by omega) (by omega)] at c
      · obtain rfl : i = 80 := by omega
        have hlow : ∀ q, q ≠ 11 → q < 12 ∨ 12 + 4 * p + 4 ≤ q ∧ q < 28 ∨ q < 12 + 4 * p ∨ 28 + 80 * p + 80 ≤ q ∨ 28 ≤ q ∧ q < 28 + 80 * p → m' q = b_m q := by
          intro q h11 hq
          rw [hJ1 q (by omega), em5, pk_un (by omega), em4, pk_un (by omega), em3, pk_un (by omega), em2, pk_un (by omega), em1, pk_un h11]
        have g11 : m' 11 = nI (p + 1) := by
          rw [hJ1 11 (by omega), em5, pk_un (by omega), em4, pk_un (by omega), em3, pk_un (by omega), em2, pk_un (by omega), em1, pk_us, nI_1]
        have g3 : m' (12 + 4 * p + 3) = 0 := by rw [hJ1 _ (by omega), em5, pk_us]
        have g2 : m' (12 + 4 * p + 2) = 6 := by rw [hJ1 _ (by omega), em5, pk_un (by omega), em4, pk_us]
        have g1 : m' (12 + 4 * p + 1) = 0 := by rw [hJ1 _ (by omega), em5, pk_un (by omega), em4, pk_un (by omega), em3, pk_us]
        have g0 : m' (12 + 4 * p + 0) = nI x := by rw [hJ1 _ (by omega), em5, pk_un (by omega), em4, pk_un (by omega), em3, pk_un (by omega), em2, pk_us]
        obtain ⟨c1, c2, c3, c4, c5, c6, c7, c8, cP⟩ := id hC
        obtain ⟨r1, r2, r3, r4, r5, r6, r7, ⟨r8, r8'⟩, rP⟩ := id hM
        obtain ⟨k1, k2, k3, k4⟩ := hS.2.2.2.2.2.2.1
        rw [hp] at k1 k4 rP
        rw [hp] at cP
        obtain ⟨y1, y2, y3, y4⟩ := k4 p (Nat.le_refl _) hp4
        refine ⟨rfl, sP S (p + 1) (nu (s_wd S) p x) (s_fs S) (s_sp S) (s_kd S) (s_co S), po o n, pn n, ph n h S, tl, tx, sP_ok hS (by omega) ⟨fun q hq => ?_, k2, k3, fun q h1 h2 => k4 q (by omega) h2⟩, sP_C hC (by rw [ef, nI_1]) ⟨fun q hq => ?_, cP.2.1, cP.2.2⟩, ?_, HO_push hO hS, hH', hM', rfl, rfl, rfl, rfl, hT⟩
        · by_cases z : q = p
          · rw [z, nu_s]; exact ⟨hx0, hx⟩
          · rw [nu_n z]; exact k1 q (by omega)
        · rw [ew]
          by_cases z : q = p
          · rw [z, nu_s, pk_us]
          · rw [nu_n z, pk_un z]; exact cP.1 q (by omega)
        · refine ⟨g11, by rw [hlow _ (by omega) (by omega)]; exact r2, by rw [hlow _ (by omega) (by omega)]; exact r3, by rw [hlow _ (by omega) (by omega)]; exact r4, by rw [hlow _ (by omega) (by omega)]; exact r5, by rw [hlow _ (by omega) (by omega)]; exact r6, fun j hj => by rw [hlow _ (by omega) (by omega)]; exact r7 j hj, ⟨fun a ha => by rw [hlow _ (by omega) (by omega)]; exact r8 a ha, r8'⟩, fun q hq => ?_⟩
          show m' (12 + 4 * q) = nI (nu (s_wd S) p x q) ∧ m' (13 + 4 * q) = nI (s_fs S q) ∧ m' (14 + 4 * q) = nI (s_sp S q) ∧ m' (15 + 4 * q) = nI (s_kd S q) ∧ ∀ c h, c < 40 → h < 2 → m' (28 + 80 * q + 2 * c + h) = nI (dg 8 6 (fun i => s_co S q c (6 * h + i)))
          have hq1 : q < p + 1 := hq
          by_cases z : q = p
          · subst z
            rw [nu_s, y1, y2, y3, show 12 + 4 * q = 12 + 4 * q + 0 by omega, g0, show 13 + 4 * q = 12 + 4 * q + 1 by omega, g1, show 14 + 4 * q = 12 + 4 * q + 2 by omega, g2, show 15 + 4 * q = 12 + 4 * q + 3 by omega, g3]
            refine ⟨rfl, rfl, rfl, rfl, fun c h hc hh => ?_⟩
            rw [show 28 + 80 * q + 2 * c + h = 28 + 80 * q + (2 * c + h) by omega, hJ2 _ (by omega), dg_congr (e := fun _ => 0) (fun i hi => y4 c (6 * h + i) hc (by omega)), dg_zero]
            rfl
          · obtain ⟨b1, b2, b3, b4, b5⟩ := rP q (by omega)
            rw [nu_n z]
            exact ⟨by rw [hlow _ (by omega) (by omega)]; exact b1, by rw [hlow _ (by omega) (by omega)]; exact b2, by rw [hlow _ (by omega) (by omega)]; exact b3, by rw [hlow _ (by omega) (by omega)]; exact b4, fun c h hc hh => by rw [hlow _ (by omega) (by omega)]; exact b5 c h hc hh⟩
      · have e28 : (((28 : Int32) + ((80 : Int32) * nI p)) + nI i) = nI (28 + 80 * p + i) := by
          rw [show (28 : Int32) = nI 28 from rfl, show (80 : Int32) = nI 80 from rfl, pk_mul, nI_add, nI_add]
        rw [e28, nI_clamp (by omega)]
        refine ⟨vp_in_nI (by omega) (by decide), fun m6 em6 v1 f1 => ?_⟩
        rw [nI_1] at f1
        refine ih _ _ ⟨i + 1, by omega, f1, fun q hq => ?_, fun q hq => ?_⟩ ?_
        · rw [em6, pk_un (by omega)]; exact hJ1 q hq
        · rw [em6]
          by_cases z : q = i
          · rw [z, pk_us]
          · rw [pk_un (by omega)]; exact hJ2 q (by omega)
        · rw [f1, nI_clamp (by omega), nI_clamp (by omega)]; omega
    · rw [hm11, show (4 : Int32) = nI 4 from rfl, nI_eq (by omega) (by omega)] at c2
      omega
  · subst ex
    rw [show (4 : Int32) = nI 4 from rfl, nI_ltI (by omega) (by omega)] at c
    refine yes5 (L := 1) (H := 40) (by decide) (by decide) hx0 hx ⟨fun _ => ⟨fun c2 => ?_, fun _ => ⟨rfl, hR⟩⟩, fun c => absurd c (by decide)⟩
    rw [hm11, show (4 : Int32) = nI 4 from rfl, nI_eq (by omega) (by omega)] at c2
    omega
  · exact no5 (A := 1) (B := 40) (by decide) (by decide) c ⟨fun q => absurd rfl q, fun _ => ⟨rfl, hR⟩⟩
