def spd (i : Nat) : Int := -60 + 10 * (i : Int)
def bR (S : AS) (n i : Nat) : Nat := Rn S n (zS S (spd i) n).2.2.2
def bm (S : AS) (n : Nat) : Nat → Int × Int
  | 0 => (-60, -1)
  | i + 1 => if (bR S n i : Int) ≤ (bm S n i).2 then bm S n i else (spd i, (bR S n i : Int))
theorem bR_le (S : AS) (n i : Nat) : bR S n i ≤ 8640 := by
  have := sg_le (b := 1) (n := 8640) (f := fun q => if litN (s_tck S + n) (gN S) (wiP S (zS S (spd i) n).2.2.2) (wcP S (zS S (spd i) n).2.2.2) q = wantS S (q / 12) (q % 12) then 1 else 0) (fun q _ => by split <;> omega)
  unfold bR Rn
  omega
theorem l_notd {d : Nat → Nat} : (9817068105 : Int64) &&& (lN (dg 8 12 (dk d)) ^^^ (-1 : Int64)) = lN (dg 8 12 (fun l => if d l = 0 then 1 else 0)) := by
  have h1 : ∀ l, l < 12 → (fun _ : Nat => 1) l < 8 := fun l _ => by show 1 < 8; omega
  have h2 : ∀ l, l < 12 → dk d l < 8 := fun l _ => dk_lt d l
  have b1 := l_lt h1
  have b2 := l_lt h2
  have b5 : dg 8 12 (dk d) ^^^ (2 ^ 64 - 1) < 2 ^ 64 := Nat.xor_lt_two_pow (n := 64) (by omega) (by decide)
  rw [l_ones, l_all1, l_xor, wb_and (by omega) b5, dg8_andn (n := 12) (w := 64) (by decide) h1 h2]
  refine congrArg lN (dg_congr fun l hl => ?_)
  show 1 &&& (dk d l ^^^ 7) = if d l = 0 then 1 else 0
  unfold dk
  by_cases z : d l = 0
  · rw [if_pos z, if_pos z]; rfl
  · rw [if_neg z, if_neg z]; rfl
theorem sim_bestSpeed : SIM_bestSpeed RR := by
  intro l_oldest l_historySize l_text l_textLength l_rightAlone w_wanted w_loadAt w_passedIn w_secondArm w_power w_limit w_wantedSpeed w_angle w_speed w_load w_ticks n_pictureCount n_angle n_speed n_ticks n_load n_secondArm n_settings n_working n_written n_writtenIn n_width n_first n_step n_kind n_columns hist b_m b_written b_spare b_spareWritten b_states b_fifth b_oldest b_stateCount b_text b_textLength b_wants a_1 hR
  obtain ⟨S, o, n, h, tl, tx, hS, hC, hM, hO, hHC, hHM, e1, e2, e3, e4, hT⟩ := id hR
  obtain ⟨c1, c2, c3, c4, c5, c6, cG, cW, cP⟩ := id hC
  obtain ⟨q1, q2, q3, q4, q5, q6, q7, qW, qP⟩ := id hM
  have kG := hS.2.2.2.2.2.1
  have hg := gN_lt kG
  unfold PX4_bestSpeed PX5_bestSpeed
  refine pick4 (L := 1) (H := 40) (by decide) (by decide) (fun x hx0 hx ex => ⟨fun _ => ?_, fun c => absurd c (by decide)⟩) (fun c => ⟨fun q => absurd rfl q, fun _ => ?_⟩)
  · subst ex
    have spd_in : ∀ {i}, i ≤ 12 → -60 ≤ spd i ∧ spd i ≤ 60 := fun hi => by unfold spd; omega
    have bm2 : ∀ i, -1 ≤ (bm S x i).2 ∧ (bm S x i).2 ≤ 8640 := by
      intro i
      induction i with
      | zero => exact ⟨show (-1 : Int) ≤ -1 by decide, show (-1 : Int) ≤ 8640 by decide⟩
      | succ i ih =>
        have := bR_le S x i
        unfold bm
        split
        · exact ih
        · show -1 ≤ (bR S x i : Int) ∧ (bR S x i : Int) ≤ 8640
          omega
    have model : ∀ r : Int32, r.toInt = (bm S x 13).1 → PX5_in (nI x) (1 : Int32) (40 : Int32) (fun r4_1 => ((¬ r4_1 = 0 → PX5_setAside b_m b_written b_spare b_spareWritten  (fun b_spare_3 b_spareWritten_4 => PX5_layWants b_m b_wants  (fun b_wants_5 => (∃ n_1, PX5_bestSpeed_L1 (nI x) b_spare_3 b_spareWritten_4 b_wants_5 (fun v2_6 v3_7 v4_8 b_m_9 b_written_10 => (r = v2_6 ∧ RR l_oldest l_historySize l_text l_textLength n_pictureCount n_angle n_speed n_ticks n_load n_secondArm n_settings n_working n_written n_writtenIn n_width n_first n_step n_kind n_columns hist b_m_9 b_written_10 b_states b_fifth b_oldest b_stateCount b_text b_textLength)) n_1 (0 : Int32) (-1 : Int32) (-60 : Int32) b_m b_written)))) ∧ (r4_1 = 0 → (r = (-101 : Int32) ∧ RR l_oldest l_historySize l_text l_textLength n_pictureCount n_angle n_speed n_ticks n_load n_secondArm n_settings n_working n_written n_writtenIn n_width n_first n_step n_kind n_columns hist b_m b_written b_states b_fifth b_oldest b_stateCount b_text b_textLength)))) := by
      intro r hr
      refine yes5 (L := 1) (H := 40) (by decide) (by decide) hx0 hx ⟨fun _ => ?_, fun c => absurd c (by decide)⟩
      refine tM_setAside fun sp sw hsp hsw => tM_layWants hS q1 qP fun mw hmw => ?_
      refine lp5 (PX5_bestSpeed_L1 (nI x) sp sw mw _) (fun v2 v3 v4 m wr => ∃ i, i ≤ 13 ∧ v4.toInt = spd i ∧ v3.toInt = (bm S x i).2 ∧ (1 ≤ i → v2.toInt = (bm S x i).1) ∧ repM S m wr) (fun _ _ v4 _ _ => (70 - v4.toInt).toNat) ?_ _ _ _ _ _ ⟨0, by omega, by decide, show (-1 : Int32).toInt = -1 by decide, fun z => by omega, hM⟩
      rintro f v2 v3 v4 m wr ⟨i, hi, ev4, ev3, ev2, hJ⟩ ih
      unfold PX5_bestSpeed_L1
      have h60 : (60 : Int32).toInt = 60 := by decide
      refine ⟨fun c => ?_, fun c m2 em2 => ?_⟩ <;> rw [i_lt h60 ev4] at c
      · obtain rfl : i = 13 := by unfold spd at c; omega
        exact ⟨Int32.toInt_inj.mp (by rw [hr, ev2 (by omega)]), S, o, n, h, tl, tx, hS, hC, hJ, hO, hHC, hHM, e1, e2, e3, e4, hT⟩
      · have hi12 : i ≤ 12 := by unfold spd at c; omega
        have hsi := spd_in hi12
        have hM0 : repM (runS S (spd i) 0 (Z0S S)) m2 wr := by rw [em2]; exact start_M hJ ev4
        refine tM_goOn hS (by decide) (by omega) (Z0S_ok hS) hsi hM0 hmw fun m3 wr3 hM3 => ?_
        have hok := runS_ok (T' := 5040) hS (zS_ok hS hsi x) hsi (by have := hS.2.2.2.2.2.2.2.1; omega)
        obtain ⟨-, -, -, g6, -, -, gG, gW, -⟩ := id hM3
        obtain ⟨-, -, -, -, -, kG2, -, ⟨k1', -, k3', k4'⟩⟩ := id hok
        have g3 : m3 3 = nI (gN S) := i_of (by rw [gG 3 (by omega)]; show nu (s_stg S) 0 (spd i) 3 = _; rw [nu_n (by decide)]; have := kG.2.2.2; unfold gN; omega)
        refine tM_litPlaces1 gW k3' k4' (t := s_tck S + x) (g := gN S) (by have := hS.2.2.2.2.2.2.2.1; omega) (by omega) g6 g3 hmw (fun a l _ hl => want_lt hS hl) ?_
        have hb := bR_le S x i
        have hRI : (nI (bR S x i)).toInt = (bR S x i : Int) := i_nI (by omega)
        have back : ∀ (w2 w3 : Int32), w3.toInt = (bm S x (i + 1)).2 → w2.toInt = (bm S x (i + 1)).1 → PX5_bringBack m3 wr3 sp sw (fun b_m_18 b_written_19 => (∀ v4_20 : Int32, v4_20 = v4 + (10 : Int32) → PX5_bestSpeed_L1 (nI x) sp sw mw (fun v2_6 v3_7 v4_8 b_m_9 b_written_10 => (r = v2_6 ∧ RR l_oldest l_historySize l_text l_textLength n_pictureCount n_angle n_speed n_ticks n_load n_secondArm n_settings n_working n_written n_writtenIn n_width n_first n_step n_kind n_columns hist b_m_9 b_written_10 b_states b_fifth b_oldest b_stateCount b_text b_textLength)) f w2 w3 v4_20 b_m_18 b_written_19)) := by
          intro w2 w3 h3 h2
          refine tM_bringBack fun m' wr' h1' h2' v5 e5 => ?_
          have e5' : v5.toInt = spd (i + 1) := by
            rw [e5, i_add ev4 (show (10 : Int32).toInt = 10 by decide) (by omega) (by omega)]
            unfold spd
            omega
          refine ih _ _ _ _ _ ⟨i + 1, by omega, e5', h3, fun _ => h2, repM_congr hS.1 (fun q hq => (h1' q hq).trans (hsp q hq)) (fun q hq => (h2' q hq).trans (hsw q hq)) hM⟩ ?_
          rw [e5', ev4]
          unfold spd
          omega
        show ((nI (bR S x i) ≤ v3 → _) ∧ (¬ nI (bR S x i) ≤ v3 → _))
        have hle : nI (bR S x i) ≤ v3 ↔ (bR S x i : Int) ≤ (bm S x i).2 := i_le hRI ev3
        refine ⟨fun c2 => ⟨fun _ => ?_, fun c3 => absurd c2 c3⟩, fun c2 => ⟨fun c3 => absurd c3 c2, fun _ => ?_⟩⟩ <;> rw [hle] at c2
        · have hi1 : 1 ≤ i := by
            rcases Nat.eq_zero_or_pos i with z | z
            · subst z
              have : (bm S x 0).2 = -1 := rfl
              omega
            · exact z
          have ebm : bm S x (i + 1) = bm S x i := by
            show (if (bR S x i : Int) ≤ (bm S x i).2 then bm S x i else _) = _
            rw [if_pos c2]
          exact back _ _ (by rw [ebm]; exact ev3) (by rw [ebm]; exact ev2 hi1)
        · have ebm : bm S x (i + 1) = (spd i, (bR S x i : Int)) := by
            show (if (bR S x i : Int) ≤ (bm S x i).2 then bm S x i else _) = _
            rw [if_neg c2]
          exact back _ _ (by rw [ebm]; exact hRI) (by rw [ebm]; exact ev4)
    refine tC_prepare hS hC fun ww wl hww hwl => ?_
    refine lp2 (PX4_bestSpeed_L1 n_ticks n_settings n_written n_writtenIn (nI x) ww _) (fun v ra => ∃ i, i ≤ 720 ∧ v = nI i ∧ ∀ a, a < i → ra a = lN (dg 8 12 (fun l => if litS S x a l = wantS S a l then 1 else 0))) (fun v _ => 720 - v.toNatClampNeg) ?_ _ _ ⟨0, by omega, rfl, fun a ha => by omega⟩
    rintro f v ra ⟨i, hi, ev, hJ⟩ ih
    subst ev
    unfold PX4_bestSpeed_L1
    refine ⟨fun c => ?_, fun c => ?_⟩ <;> rw [show (720 : Int32) = nI 720 from rfl, nI_leI (by omega) (by omega)] at c
    · obtain rfl : i = 720 := by omega
      intro v2 ev2 v4 ev4
      have hlo : (tabLO 0).toInt = -60 := by decide
      have hhi : (tabHI 0).toInt = 60 := by decide
      subst ev2
      refine lp9 (PX4_bestSpeed_L2 n_angle n_speed n_load n_settings n_working (nI x) wl (nI (s_sec S)) (nI (pwN S)) (nI (lmN S)) ra _) (fun v2 v3 v4 _ _ _ _ _ _ => ∃ i, i ≤ 13 ∧ v4.toInt = spd i ∧ v3.toInt = (bm S x i).2 ∧ v2.toInt = (bm S x i).1) (fun _ _ v4 _ _ _ _ _ _ => (70 - v4.toInt).toNat) ?_ _ _ _ _ _ _ _ _ _ ⟨0, by omega, by rw [ev4, hlo]; rfl, show (-1 : Int32).toInt = -1 by decide, hlo⟩
      rintro f v2 v3 v4 wp w1 w2 w3 w4 w5 ⟨i, hi, ev4, ev3, ev2⟩ ih
      unfold PX4_bestSpeed_L2
      refine ⟨fun c => ?_, fun c => ?_⟩ <;> rw [i_lt hhi ev4] at c
      · obtain rfl : i = 13 := by unfold spd at c; omega
        exact model _ ev2
      · have hi12 : i ≤ 12 := by unfold spd at c; omega
        have hsi := spd_in hi12
        refine tC_start fun wp hwp => ?_
        refine tC_goOn (f := ldA S) (j0 := 0) (Z0 := Z0S S) (ldA_le S) hwl (pwN_le hS) (lmN_le hS) ev4 hsi (by omega) (Z0S_ok hS) ⟨hwp, c2, c3, c5, rfl⟩ fun wp' wa' wv' wl' wt' hZ => ?_
        rw [Nat.zero_add] at hZ
        have hzx := zS_ok hS hsi x
        refine tC_countRight (P := (zS S (spd i) x).2.2.2) hS hC (by omega) (fun q => Nat.le_trans (hzx.2.2.2 q) (by omega)) hZ.1 hJ ?_
        have hb := bR_le S x i
        have hRI : (nI (bR S x i)).toInt = (bR S x i : Int) := i_nI (by omega)
        show ((nI (bR S x i) ≤ v3 → _) ∧ (¬ nI (bR S x i) ≤ v3 → _))
        have hle : nI (bR S x i) ≤ v3 ↔ (bR S x i : Int) ≤ (bm S x i).2 := i_le hRI ev3
        have nx : ∀ v5 : Int32, v5 = v4 + (10 : Int32) → v5.toInt = spd (i + 1) := fun v5 e5 => by
          rw [e5, i_add ev4 (show (10 : Int32).toInt = 10 by decide) (by omega) (by omega)]
          unfold spd
          omega
        refine ⟨fun c2 v5 e5 => ?_, fun c2 v5 e5 => ?_⟩ <;> rw [hle] at c2
        · have ebm : bm S x (i + 1) = bm S x i := by
            show (if (bR S x i : Int) ≤ (bm S x i).2 then bm S x i else _) = _
            rw [if_pos c2]
          refine ih _ _ _ _ _ _ _ _ _ ⟨i + 1, by omega, nx v5 e5, by rw [ebm]; exact ev3, by rw [ebm]; exact ev2⟩ ?_
          rw [nx v5 e5, ev4]
          unfold spd
          omega
        · have ebm : bm S x (i + 1) = (spd i, (bR S x i : Int)) := by
            show (if (bR S x i : Int) ≤ (bm S x i).2 then bm S x i else _) = _
            rw [if_neg c2]
          refine ih _ _ _ _ _ _ _ _ _ ⟨i + 1, by omega, nx v5 e5, by rw [ebm]; exact hRI, by rw [ebm]; exact ev4⟩ ?_
          rw [nx v5 e5, ev4]
          unfold spd
          omega
    · have hi7 : i < 720 := by omega
      have hin : vp_in (nI i) 720 := vp_in_nI hi7 (by decide)
      have d1 : ∀ l, l < 12 → litS S x i l < 8 := fun l hl => litS_lt hS hi7 hl
      have d2 : ∀ l, l < 12 → wantS S i l < 8 := fun l hl => want_lt hS hl
      refine tC_lit (x := x) (by decide) hS hC (by omega) hi7 ⟨hin, ?_⟩
      rw [nI_clamp (by omega), hww i hi7, l_xorD d1 d2]
      refine pX4_notDark (fun l hl => Nat.xor_lt_two_pow (n := 3) (d1 l hl) (d2 l hl)) ⟨hin, fun ra1 e1' v1 f1 => ?_⟩
      rw [l_notd] at e1'
      rw [nI_1] at f1
      refine ih _ _ ⟨i + 1, by omega, f1, fun a ha => ?_⟩ (by rw [f1, nI_clamp (by omega), nI_clamp (by omega)]; omega)
      rw [e1']
      by_cases z : a = i
      · rw [z, pk_uLs]
        refine congrArg lN (dg_congr fun l hl => ?_)
        by_cases y : litS S x i l = wantS S i l
        · rw [if_pos (xor_0.mpr y), if_pos y]
        · rw [if_neg (fun q => y (xor_0.mp q)), if_neg y]
      · rw [pk_uLn z]; exact hJ a (by omega)
  · exact no5 (A := 1) (B := 40) (by decide) (by decide) c ⟨fun q => absurd rfl q, fun _ => ⟨rfl, hR⟩⟩
