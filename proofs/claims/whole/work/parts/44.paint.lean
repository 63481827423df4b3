/-- a color of a column changed -/
def nu2 (co : Nat → Nat → Nat → Nat) (p c l x : Nat) : Nat → Nat → Nat → Nat := nu co p (nu (co p) c (nu (co p c) l x))
theorem nu2_at (co : Nat → Nat → Nat → Nat) (p c l x q d j : Nat) : nu2 co p c l x q d j = if q = p ∧ d = c ∧ j = l then x else co q d j := by
  unfold nu2 nu
  by_cases e1 : q = p
  · subst e1
    rw [if_pos rfl]
    by_cases e2 : d = c
    · subst e2
      rw [if_pos rfl]
      by_cases e3 : j = l
      · rw [if_pos e3, if_pos ⟨rfl, rfl, e3⟩]
      · rw [if_neg e3, if_neg (fun z => e3 z.2.2)]
    · rw [if_neg e2, if_neg (fun z => e2 z.2.1)]
  · rw [if_neg e1, if_neg (fun z => e1 z.1)]
theorem sim_paint : SIM_paint RR := by
  intro l_oldest l_historySize l_text l_textLength n_pictureCount n_angle n_speed n_ticks n_load n_secondArm n_settings n_working n_written n_writtenIn n_width n_first n_step n_kind n_columns hist b_m b_written b_states b_fifth b_oldest b_stateCount b_text b_textLength a_1 a_2 a_3 a_4 hR
  obtain ⟨S, o, n, h, tl, tx, hS, hC, hM, hO, hHC, hHM, e1, e2, e3, e4, hT⟩ := id hR
  have hcnt := hS.1
  have hpc := hC.1
  subst hpc
  unfold PX4_paint PX5_paint
  refine pick4p hcnt (fun p hp ep => ⟨fun c => absurd c (by simp), fun j hj ej => ?_⟩) (fun c => ⟨fun _ => ?_, fun j _ ej => absurd ej (by simp)⟩)
  · obtain rfl : p = j := by simpa using ej
    subst ep
    obtain ⟨q1, q2, q3, q4, q5, q6, q7⟩ := okQ_of hS hp
    obtain ⟨c1, c2, c3, c4, c5⟩ := cP_of hC hcnt hp
    have hmp := mP_of hM hp
    have htop : (nI (s_wd S p) - (1 : Int32)).toInt = ((s_wd S p - 1 : Nat) : Int) := by
      rw [show (1 : Int32) = nI 1 from rfl, pk_sub q1]
      exact i_nI (by omega)
    rw [c1]
    refine pick4 (L := 0) (H := s_wd S p - 1) (by decide) htop (fun x _ hx ex => ⟨fun c => absurd c (by decide), fun _ => ?_⟩) (fun c => ⟨fun _ => ?_, fun q => absurd rfl q⟩)
    · subst ex
      have hx40 : x < 40 := by omega
      refine pick4 (L := 0) (H := 11) (by decide) (by decide) (fun y _ hy ey => ⟨fun c => absurd c (by decide), fun _ => ?_⟩) (fun c => ⟨fun _ => ?_, fun q => absurd rfl q⟩)
      · subst ey
        have hy12 : y < 12 := by omega
        refine pick4 (L := 0) (H := 7) (by decide) (by decide) (fun z _ hz ez => ⟨fun _ => ?_, fun c => absurd c (by decide)⟩) (fun c => ⟨fun q => absurd rfl q, fun _ => ?_⟩)
        · subst ez
          refine tC_record hS hC hO hHC e1 e3 fun hist' hH' => ⟨vp_in_nI (by omega) (by decide), ?_⟩
          rw [nI_clamp (by omega), c5 x hx40]
          refine pX4_colorIn (fun l hl => q7 x l hx40 hl) hy12 ⟨vp_in_nI (by omega) (by decide), ?_⟩
          refine pX4_withColor (fun l hl => q7 x l hx40 hl) hy12 (by omega) ⟨vp_in_nI (by omega) (by decide), fun nc enc => ?_⟩
          refine yes5p hM.1 hcnt hp ⟨fun c => absurd c (by decide), fun _ => tM_of0 (by omega) ?_⟩
          rw [hmp.1]
          refine yes5 (L := 0) (H := s_wd S p - 1) (by decide) htop (by omega) hx ⟨fun c => absurd c (by decide), fun _ => ?_⟩
          refine yes5l hy ⟨fun c => absurd c (by decide), fun _ => ?_⟩
          refine yes5 (L := 0) (H := 7) (by decide) (by decide) (by omega) hz ⟨fun _ => ?_, fun c => absurd c (by decide)⟩
          refine tM_record hM hO hHM e2 e4 fun st' fi' hM' => ?_
          refine tM_colorOf (by omega) hmp q7 hx40 hy12 (tM_putColor (by omega) hmp q7 hx40 hy12 (by omega) ?_)
          obtain ⟨-, -, -, -, -, -, -, -, rP⟩ := id hM
          obtain ⟨-, -, -, -, -, -, -, -, cP⟩ := id hC
          refine ⟨rfl, sP S (s_cnt S) (s_wd S) (s_fs S) (s_sp S) (s_kd S) (nu2 (s_co S) p x y z), po o n, pn n, ph n h S, tl, tx, sP_ok hS hcnt ?_, sP_C hC rfl ⟨cP.1, cP.2.1, fun q c hq hc => ?_⟩, repM_top (by omega) hM rfl fun q hq => ?_, HO_push hO hS, hH', hM', rfl, rfl, rfl, rfl, hT⟩
          · obtain ⟨-, -, -, -, -, -, ⟨k1, k2, k3, k4⟩, -⟩ := hS
            refine ⟨k1, k2, fun q c l hq hc hl => ?_, fun q h1 h2 => ⟨(k4 q h1 h2).1, (k4 q h1 h2).2.1, (k4 q h1 h2).2.2.1, fun c l hc hl => ?_⟩⟩
            · rw [nu2_at]
              split
              · omega
              · exact k3 q c l hq hc hl
            · rw [nu2_at, if_neg (fun w => by have := w.1; omega)]
              exact (k4 q h1 h2).2.2.2 c l hc hl
          · subst enc
            by_cases w : q = p
            · subst w
              rw [va_up_self]
              by_cases v : c = x
              · subst v
                rw [pk_uLs]
                refine congrArg lN (dg_congr fun j hj => ?_)
                rw [nu2_at]
                by_cases u : j = y
                · rw [if_pos u, if_pos ⟨rfl, rfl, u⟩]
                · rw [if_neg u, if_neg (fun t => u t.2.2)]
              · rw [pk_uLn v, cP.2.2 q c hq hc]
                refine congrArg lN (dg_congr fun j hj => ?_)
                rw [nu2_at, if_neg (fun t => v t.2.1)]
            · rw [va_up_ne _ _ w, cP.2.2 q c hq hc]
              refine congrArg lN (dg_congr fun j hj => ?_)
              rw [nu2_at, if_neg (fun t => w t.1)]
          · obtain ⟨b1, b2, b3, b4, b5⟩ := rP q hq
            have hq4 : q < 4 := Nat.lt_of_lt_of_le hq hcnt
            refine ⟨by rw [pk_un (by omega)]; exact b1, by rw [pk_un (by omega)]; exact b2, by rw [pk_un (by omega)]; exact b3, by rw [pk_un (by omega)]; exact b4, fun c g hc hg => ?_⟩
            by_cases w : q = p ∧ c = x ∧ g = y / 6
            · obtain ⟨w1, w2, w3⟩ := w
              subst w1 w2 w3
              rw [pk_us]
              refine congrArg nI (dg_congr fun j hj => ?_)
              show _ = nu2 (s_co S) q c y z q c (6 * (y / 6) + j)
              rw [nu2_at]
              by_cases u : j = y % 6
              · rw [u, nu_s, if_pos ⟨rfl, rfl, by omega⟩]
              · rw [nu_n u, if_neg (fun t => by have := t.2.2; omega)]
            · rw [pk_un (by omega), b5 c g hc hg]
              refine congrArg nI (dg_congr fun j hj => ?_)
              show _ = nu2 (s_co S) p x y z q c (6 * g + j)
              rw [nu2_at, if_neg (fun t => w ⟨t.1, t.2.1, by have := t.2.2; omega⟩)]
        · refine yes5p hM.1 hcnt hp ⟨fun c => absurd c (by decide), fun _ => tM_of0 (by omega) ?_⟩
          rw [hmp.1]
          refine yes5 (L := 0) (H := s_wd S p - 1) (by decide) htop (by omega) hx ⟨fun c => absurd c (by decide), fun _ => ?_⟩
          refine yes5l hy ⟨fun c => absurd c (by decide), fun _ => ?_⟩
          exact no5 (A := 0) (B := 7) (by decide) (by decide) c ⟨fun q => absurd rfl q, fun _ => ⟨rfl, hR⟩⟩
      · refine yes5p hM.1 hcnt hp ⟨fun c => absurd c (by decide), fun _ => tM_of0 (by omega) ?_⟩
        rw [hmp.1]
        refine yes5 (L := 0) (H := s_wd S p - 1) (by decide) htop (by omega) hx ⟨fun c => absurd c (by decide), fun _ => ?_⟩
        exact no5l c ⟨fun _ => ⟨rfl, hR⟩, fun q => absurd rfl q⟩
    · refine yes5p hM.1 hcnt hp ⟨fun c => absurd c (by decide), fun _ => tM_of0 (by omega) ?_⟩
      rw [hmp.1]
      exact no5 (A := 0) (by decide) htop c ⟨fun _ => ⟨rfl, hR⟩, fun q => absurd rfl q⟩
  · exact no5p hM.1 hcnt c ⟨fun _ => ⟨rfl, hR⟩, fun q => absurd rfl q⟩
