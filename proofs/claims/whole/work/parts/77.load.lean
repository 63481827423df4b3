theorem sim_load : SIM_load RR := by
  intro l_oldest l_historySize l_text l_textLength r_columns r_columnCount r_awaited r_told r_number r_numberStart n_pictureCount n_angle n_speed n_ticks n_load n_secondArm n_settings n_working n_written n_writtenIn n_width n_first n_step n_kind n_columns hist b_m b_written b_states b_fifth b_oldest b_stateCount b_text b_textLength b_at b_read b_columns b_told a_1 hR
  obtain ⟨S, o, n, h, tl, tx, hS, hC, hM, hO, hHC, hHM, e1, e2, e3, e4, hT, hXl, hXb, e5, e6⟩ := id hR
  have hcnt := hS.1
  have hpc := hC.1
  subst hpc e5 e6
  have hm11 := hM.1
  have hl := hT.1
  unfold PX4_load PX5_load
  refine pick4p hcnt (fun p hp ep => ⟨fun c => absurd c (by simp), fun j hj ej => ?_⟩) (fun c => ⟨fun _ => ?_, fun j _ ej => absurd ej (by simp)⟩)
  · obtain rfl : p = j := by simpa using ej
    subst ep
    refine tC_read hT hXl (fun e he hrd c cc a t nu ns => ⟨fun c4 => absurd c4 (nI_pos (by omega)), fun _ => ?_⟩) (fun hrd hok c cc a t num ns hRC => ⟨fun _ => ?_, fun c4 => absurd (by decide) c4⟩)
    · refine yes5p hM.1 hcnt hp ⟨fun _ => tM_readText hT hXb (fun e2 r c t he2 hrd2 => ⟨fun c => absurd rfl c, fun _ => ?_⟩) (fun hrd2 => absurd (hrd.symm.trans hrd2) (by omega)), fun c => absurd c (by decide)⟩
      obtain rfl : e = e2 := by omega
      exact ⟨rfl, hR⟩
    · obtain ⟨g1, g2, -, -, -⟩ := hRC
      refine tC_record hS hC hO hHC e1 e3 fun hist' hH' w' ew cs' ecs => ?_
      refine yes5p hM.1 hcnt hp ⟨fun _ => tM_readText hT hXb (fun e2 r c t he2 hrd2 => absurd (hrd2.symm.trans hrd) (by omega)) (fun _ at' r c2 t2 hRM => ⟨fun _ => ?_, fun c => absurd c (by decide)⟩), fun c => absurd c (by decide)⟩
      obtain ⟨q1, q2, -⟩ := hRM
      generalize (rd tx tl 0 q00).2 = q at hok g1 g2 q1 q2
      obtain ⟨⟨o1, o1'⟩, -, -, -, -, o6⟩ := hok
      subst g2 q2
      have ecol : nI (q.1 - 1) + (1 : Int32) = nI q.1 := by rw [nI_1]; exact congrArg nI (by omega)
      rw [ecol]
      refine tM_record hM hO hHM e2 e4 fun st' fi' hM' => ?_
      have f0 : (((12 : Int32) + ((4 : Int32) * nI p)) + (0 : Int32)) = nI (12 + 4 * p + 0) := cellN p 0
      rw [f0, nI_clamp (by omega)]
      refine ⟨vp_in_nI (by omega) (by decide), fun m1 em1 => ?_⟩
      refine lp2 (PX5_load_L1 (nI p) r _) (fun v m' => ∃ i, i ≤ 80 ∧ v = nI i ∧ (∀ q, ¬ (28 + 80 * p ≤ q ∧ q < 28 + 80 * p + 80) → m' q = m1 q) ∧ ∀ q, q < i → m' (28 + 80 * p + q) = r q) (fun v _ => 80 - v.toNatClampNeg) ?_ _ _ ⟨0, by omega, rfl, fun _ _ => rfl, fun q hq => by omega⟩
      rintro f v m' ⟨i, hi, ev, hJ1, hJ2⟩ ih
      subst ev
      unfold PX5_load_L1
      refine ⟨fun c => ?_, fun c => ?_⟩ <;> rw [show (80 : Int32) = nI 80 from rfl, nI_leI (by omega) (by omega)] at c
      · obtain rfl : i = 80 := by omega
        have hlow : ∀ x, x ≠ 12 + 4 * p → ¬ (28 + 80 * p ≤ x ∧ x < 28 + 80 * p + 80) → m' x = b_m x := by
          intro x h12 hx
          rw [hJ1 x hx, em1, pk_un (by omega)]
        have g0 : m' (12 + 4 * p) = nI q.1 := by
          rw [hJ1 _ (by omega), em1, show 12 + 4 * p + 0 = 12 + 4 * p by omega, pk_us]
        obtain ⟨k1, k2, k3, k4⟩ := hS.2.2.2.2.2.2.1
        obtain ⟨c1, c2, c3, c4, c5, c6, c7, c8, cP⟩ := id hC
        obtain ⟨r1, r2, r3, r4, r5, r6, r7, ⟨r8, r8'⟩, rP⟩ := id hM
        refine ⟨by rw [ew, pk_us], sP S (s_cnt S) (nu (s_wd S) p q.1) (s_fs S) (s_sp S) (s_kd S) (nu (s_co S) p q.2.2.2.2.2), po o n, pn n, ph n h S, 0, tx, sP_ok hS hcnt ⟨fun x hx => ?_, k2, fun x c l hx hc hl => ?_, fun x h1 h2 => ?_⟩, sP_C hC rfl ⟨fun x hx => ?_, cP.2.1, fun x c hx hc => ?_⟩, ?_, HO_push hO hS, hH', hM', rfl, rfl, rfl, rfl, ⟨by omega, fun x hx => by omega⟩, fun x hx => by omega, fun x hx => by omega, rfl, rfl⟩
        · by_cases z : x = p
          · rw [z, nu_s]; exact ⟨o1, o1'⟩
          · rw [nu_n z]; exact k1 x hx
        · by_cases z : x = p
          · rw [z, nu_s]; exact o6 c l hc hl
          · rw [nu_n z]; exact k3 x c l hx hc hl
        · rw [nu_n (by omega)]; exact k4 x h1 h2
        · rw [ew]
          by_cases z : x = p
          · rw [z, nu_s, pk_us]
          · rw [nu_n z, pk_un z]; exact cP.1 x hx
        · rw [ecs]
          by_cases z : x = p
          · subst z
            rw [nu_s, va_up_self, cpy0 hc]
            exact g1 c hc
          · rw [nu_n z, va_up_ne _ _ z]; exact cP.2.2 x c hx hc
        · refine ⟨by rw [hlow _ (by omega) (by omega)]; exact r1, by rw [hlow _ (by omega) (by omega)]; exact r2, by rw [hlow _ (by omega) (by omega)]; exact r3, by rw [hlow _ (by omega) (by omega)]; exact r4, by rw [hlow _ (by omega) (by omega)]; exact r5, by rw [hlow _ (by omega) (by omega)]; exact r6, fun j hj => by rw [hlow _ (by omega) (by omega)]; exact r7 j hj, ⟨fun a ha => by rw [hlow _ (by omega) (by omega)]; exact r8 a ha, r8'⟩, fun x hx => ?_⟩
          show m' (12 + 4 * x) = nI (nu (s_wd S) p q.1 x) ∧ m' (13 + 4 * x) = nI (s_fs S x) ∧ m' (14 + 4 * x) = nI (s_sp S x) ∧ m' (15 + 4 * x) = nI (s_kd S x) ∧ ∀ c h, c < 40 → h < 2 → m' (28 + 80 * x + 2 * c + h) = nI (dg 8 6 (fun i => nu (s_co S) p q.2.2.2.2.2 x c (6 * h + i)))
          have hx1 : x < s_cnt S := hx
          obtain ⟨b1, b2, b3, b4, b5⟩ := rP x hx1
          refine ⟨?_, by rw [hlow _ (by omega) (by omega)]; exact b2, by rw [hlow _ (by omega) (by omega)]; exact b3, by rw [hlow _ (by omega) (by omega)]; exact b4, fun c h hc hh => ?_⟩
          · by_cases z : x = p
            · rw [z, nu_s]; exact g0
            · rw [nu_n z, hlow _ (by omega) (by omega)]; exact b1
          · by_cases z : x = p
            · subst z
              rw [nu_s, show 28 + 80 * x + 2 * c + h = 28 + 80 * x + (2 * c + h) by omega, hJ2 _ (by omega)]
              exact q1 c h hc hh
            · rw [nu_n z, hlow _ (by omega) (by omega)]; exact b5 c h hc hh
      · have e28 : (((28 : Int32) + ((80 : Int32) * nI p)) + nI i) = nI (28 + 80 * p + i) := by
          rw [show (28 : Int32) = nI 28 from rfl, show (80 : Int32) = nI 80 from rfl, pk_mul, nI_add, nI_add]
        rw [e28, nI_clamp (by omega), nI_clamp (by omega)]
        refine ⟨vp_in_nI (by omega) (by decide), vp_in_nI (by omega) (by decide), fun m6 em6 v1 f1 => ?_⟩
        rw [nI_1] at f1
        refine ih _ _ ⟨i + 1, by omega, f1, fun x hx => ?_, fun x hx => ?_⟩ ?_
        · rw [em6, pk_un (by omega)]; exact hJ1 x hx
        · rw [em6]
          by_cases z : x = i
          · rw [z, pk_us]
          · rw [pk_un (by omega)]; exact hJ2 x (by omega)
        · rw [f1, nI_clamp (by omega), nI_clamp (by omega)]; omega
  · exact no5p hM.1 hcnt c ⟨fun q => absurd rfl q, fun _ => ⟨rfl, hR⟩⟩
