/-! the class's questions, over the one mathematical value -/
theorem tA_gaps {S : AS} {n : Nat} {h : Nat → AS} {k : Int32 → VS → Prop} {x : Nat} (hx : x ≤ 200) (hk : k (nI (sg 720 (gp S (zS S (s_stg S 0) x).2.2.2))) (S, n, h)) : PA_gaps (S, n, h) (nI x) k := by
  intro l_oldest l_historySize w_wanted w_loadAt w_passedIn w_secondArm w_power w_limit w_wantedSpeed w_angle w_speed w_load w_ticks n_pictureCount n_angle n_speed n_ticks n_load n_secondArm n_settings n_working n_written n_writtenIn n_width n_first n_step n_kind n_columns hist hR
  obtain ⟨hS, hC, o, hO, hHC, e1, e3⟩ := RAC_out hR
  obtain ⟨c1, c2, c3, c4, c5, c6, cG, cW, cP⟩ := id hC
  have kG := hS.2.2.2.2.2.1
  have hws : (n_settings 0).toInt = s_stg S 0 := cG 0 (by omega)
  unfold PX4_gaps
  refine yes4 (L := 0) (H := 200) (by decide) (by decide) (by omega) hx ⟨fun _ => ?_, fun c => absurd c (by decide)⟩
  refine tC_prepare hS hC fun ww wl hww hwl => tC_start fun wp hwp => ?_
  refine tC_goOn (f := ldA S) (j0 := 0) (Z0 := Z0S S) (ldA_le S) hwl (pwN_le hS) (lmN_le hS) hws kG.1 (by omega) (Z0S_ok hS) ⟨hwp, c2, c3, c5, rfl⟩ fun wp' wa' wv' wl' wt' hZ => ?_
  rw [Nat.zero_add] at hZ
  have hzx := zS_ok hS kG.1 x
  exact tC_gapsL (P := (zS S (s_stg S 0) x).2.2.2) hS hC (fun q => Nat.le_trans (hzx.2.2.2 q) (by omega)) hZ.1 ⟨(S, n, h), hR, hk⟩
theorem tA_gapsX {S : AS} {n : Nat} {h : Nat → AS} {k : Int32 → VS → Prop} {a : Int32} (h0 : ¬ (0 ≤ a.toInt ∧ a.toInt ≤ 200)) (hk : k (-101) (S, n, h)) : PA_gaps (S, n, h) a k := by
  intro l_oldest l_historySize w_wanted w_loadAt w_passedIn w_secondArm w_power w_limit w_wantedSpeed w_angle w_speed w_load w_ticks n_pictureCount n_angle n_speed n_ticks n_load n_secondArm n_settings n_working n_written n_writtenIn n_width n_first n_step n_kind n_columns hist hR
  obtain ⟨hS, hC, o, hO, hHC, e1, e3⟩ := RAC_out hR
  unfold PX4_gaps
  exact no4 (A := 0) (B := 200) (by decide) (by decide) h0 ⟨fun q => absurd rfl q, fun _ => ⟨(S, n, h), hR, hk⟩⟩
theorem tA_ticksAround {S : AS} {n : Nat} {h : Nat → AS} {k : Int32 → VS → Prop} (hk : ∀ r, TA S r → k r (S, n, h)) : PA_ticksAround (S, n, h) k := by
  intro l_oldest l_historySize w_wanted w_loadAt w_passedIn w_secondArm w_power w_limit w_wantedSpeed w_angle w_speed w_load w_ticks n_pictureCount n_angle n_speed n_ticks n_load n_secondArm n_settings n_working n_written n_writtenIn n_width n_first n_step n_kind n_columns hist hR
  obtain ⟨hS, hC, o, hO, hHC, e1, e3⟩ := RAC_out hR
  obtain ⟨c1, c2, c3, c4, c5, c6, cG, cW, cP⟩ := id hC
  have kG := hS.2.2.2.2.2.1
  have hws : (n_settings 0).toInt = s_stg S 0 := cG 0 (by omega)
  unfold PX4_ticksAround
  refine tC_prepare hS hC fun ww wl hww hwl => tC_start fun wp hwp => ?_
  refine lp7 (PX4_ticksAround_L1 _ ww wl (nI (s_sec S)) (nI (pwN S)) (nI (lmN S)) (n_settings 0) _) (fun v1 v2 wp wa wv wl wt => ∃ i, i ≤ 500 ∧ v2 = nI (i + 1) ∧ v1 = nI (far S i) ∧ ZC i (zS S (s_stg S 0) i) wp wa wv wl wt ∧ ∀ s, s ≤ i → far S s < 720) (fun _ v2 _ _ _ _ _ => 501 - v2.toNatClampNeg) ?_ _ _ _ _ _ _ _ ⟨0, by omega, rfl, rfl, ⟨hwp, c2, c3, c5, rfl⟩, fun s hs => by rw [show s = 0 by omega]; show 0 < 720; omega⟩
  rintro g v1 v2 wp wa wv wld wt ⟨i, hi, ev2, ev1, hJ, hs⟩ ih
  subst ev1 ev2
  unfold PX4_ticksAround_L1
  refine ⟨fun c => ?_, fun c => ?_⟩ <;> rw [show (500 : Int32) = nI 500 from rfl, nI_ltI (by omega) (by omega)] at c
  · exact ⟨(S, n, h), hR, hk _ (Or.inr ⟨fun s hs' => hs s (by omega), rfl⟩)⟩
  · refine tC_goOn (f := ldA S) (n := 1) (j0 := i) (Z0 := Z0S S) (ldA_le S) hwl (pwN_le hS) (lmN_le hS) hws kG.1 (by omega) (Z0S_ok hS) hJ fun wp' wa' wv' wl' wt' hZ => ?_
    intro v1 f1
    have hvr := (zS_ok hS kG.1 (i + 1)).2.1
    rw [absI (X := (zS S (s_stg S 0) (i + 1)).2.1) hZ.2.2.1 hvr, nI_add] at f1
    have f1' : v1 = nI (far S (i + 1)) := f1
    have hfl := far_le hS (i + 1)
    rw [f1', show (720 : Int32) = nI 720 from rfl]
    refine ⟨fun c2 v2 f2 => ?_, fun c2 => ?_⟩ <;> rw [nI_ltI (by omega) (by omega)] at c2
    · rw [nI_1] at f2
      refine ih _ _ _ _ _ _ _ ⟨i + 1, by omega, f2, rfl, hZ, fun s hs' => ?_⟩ (by rw [f2, nI_clamp (by omega), nI_clamp (by omega)]; omega)
      by_cases z : s ≤ i
      · exact hs s z
      · rw [show s = i + 1 by omega]; omega
    · exact ⟨(S, n, h), hR, hk _ (Or.inl ⟨i + 1, by omega, by omega, fun s hs' => hs s (by omega), by omega, rfl⟩)⟩
theorem bm_spd (S : AS) (x : Nat) : ∀ i, i ≤ 13 → ∃ j, j ≤ 12 ∧ (bm S x i).1 = spd j := by
  intro i
  induction i with
  | zero => exact fun _ => ⟨0, by omega, rfl⟩
  | succ i ih =>
    intro hi
    unfold bm
    split
    · exact ih (by omega)
    · exact ⟨i, by omega, rfl⟩
theorem tA_bestSpeed {S : AS} {n : Nat} {h : Nat → AS} {k : Int32 → VS → Prop} {x : Nat} (hx0 : 1 ≤ x) (hx : x ≤ 40) (hk : ∀ (r : Int32) (j : Nat), j ≤ 12 → r.toInt = spd j → k r (S, n, h)) : PA_bestSpeed (S, n, h) (nI x) k := by
  intro l_oldest l_historySize l_rightAlone w_wanted w_loadAt w_passedIn w_secondArm w_power w_limit w_wantedSpeed w_angle w_speed w_load w_ticks n_pictureCount n_angle n_speed n_ticks n_load n_secondArm n_settings n_working n_written n_writtenIn n_width n_first n_step n_kind n_columns hist hR
  obtain ⟨hS, hC, o, hO, hHC, e1, e3⟩ := RAC_out hR
  obtain ⟨c1, c2, c3, c4, c5, c6, cG, cW, cP⟩ := id hC
  have kG := hS.2.2.2.2.2.1
  have hg := gN_lt kG
  have spd_in : ∀ {i}, i ≤ 12 → -60 ≤ spd i ∧ spd i ≤ 60 := fun hi => by unfold spd; omega
  have model : ∀ r : Int32, r.toInt = (bm S x 13).1 → k r (S, n, h) := by
    intro r hr
    obtain ⟨j, hj, ej⟩ := bm_spd S x 13 (by omega)
    exact hk r j hj (hr.trans ej)
  unfold PX4_bestSpeed
  refine yes4 (L := 1) (H := 40) (by decide) (by decide) hx0 hx ⟨fun _ => ?_, fun c => absurd c (by decide)⟩
  refine tC_prepare hS hC fun ww wl hww hwl => ?_
  refine lp2 (PX4_bestSpeed_L1 n_ticks n_settings n_written n_writtenIn (nI x) ww _) (fun v ra => ∃ i, i ≤ 720 ∧ v = nI i ∧ ∀ a, a < i → ra a = lN (dg 8 12 (fun l => if litS S x a l = wantS S a l then 1 else 0))) (fun v _ => 720 - v.toNatClampNeg) ?_ _ _ ⟨0, by omega, rfl, fun a ha => by omega⟩
  rintro f v ra ⟨i, hi, ev, hJ⟩ ih
  subst ev
  unfold PX4_bestSpeed_L1
  refine ⟨fun c => ?_, fun c => ?_⟩ <;> rw [show (720 : Int32) = nI 720 from rfl, nI_leI (by omega) (by omega)] at c
  · obtain rfl : i = 720 := by omega
    intro v2 ev2 v4 ev4
    have hlo : (tabLO 0).toInt = -60 := by decide
    have hhi : (tabHI 0).toInt = 60 := by decide
    subst ev2
    refine lp9 (PX4_bestSpeed_L2 n_angle n_speed n_load n_settings n_working (nI x) wl (nI (s_sec S)) (nI (pwN S)) (nI (lmN S)) ra _) (fun v2 v3 v4 _ _ _ _ _ _ => ∃ i, i ≤ 13 ∧ v4.toInt = spd i ∧ v3.toInt = (bm S x i).2 ∧ v2.toInt = (bm S x i).1) (fun _ _ v4 _ _ _ _ _ _ => (70 - v4.toInt).toNat) ?_ _ _ _ _ _ _ _ _ _ ⟨0, by omega, by rw [ev4, hlo]; rfl, show (-1 : Int32).toInt = -1 by decide, hlo⟩
    rintro f v2 v3 v4 wp w1 w2 w3 w4 w5 ⟨i, hi, ev4, ev3, ev2⟩ ih
    unfold PX4_bestSpeed_L2
    refine ⟨fun c => ?_, fun c => ?_⟩ <;> rw [i_lt hhi ev4] at c
    · obtain rfl : i = 13 := by unfold spd at c; omega
      exact ⟨(S, n, h), hR, model _ ev2⟩
    · have hi12 : i ≤ 12 := by unfold spd at c; omega
      have hsi := spd_in hi12
      refine tC_start fun wp hwp => ?_
      refine tC_goOn (f := ldA S) (j0 := 0) (Z0 := Z0S S) (ldA_le S) hwl (pwN_le hS) (lmN_le hS) ev4 hsi (by omega) (Z0S_ok hS) ⟨hwp, c2, c3, c5, rfl⟩ fun wp' wa' wv' wl' wt' hZ => ?_
      rw [Nat.zero_add] at hZ
      have hzx := zS_ok hS hsi x
      refine tC_countRight (P := (zS S (spd i) x).2.2.2) hS hC (by omega) (fun q => Nat.le_trans (hzx.2.2.2 q) (by omega)) hZ.1 hJ ?_
      have hb := bR_le S x i
      have hRI : (nI (bR S x i)).toInt = (bR S x i : Int) := i_nI (by omega)
      show ((nI (bR S x i) ≤ v3 → _) ∧ (¬ nI (bR S x i) ≤ v3 → _))
      have hle : nI (bR S x i) ≤ v3 ↔ (bR S x i : Int) ≤ (bm S x i).2 := i_le hRI ev3
      have nx : ∀ v5 : Int32, v5 = v4 + (10 : Int32) → v5.toInt = spd (i + 1) := fun v5 e5 => by
        rw [e5, i_add ev4 (show (10 : Int32).toInt = 10 by decide) (by omega) (by omega)]
        unfold spd
        omega
      refine ⟨fun c2 v5 e5 => ?_, fun c2 v5 e5 => ?_⟩ <;> rw [hle] at c2
      · have ebm : bm S x (i + 1) = bm S x i := by
          show (if (bR S x i : Int) ≤ (bm S x i).2 then bm S x i else _) = _
          rw [if_pos c2]
        refine ih _ _ _ _ _ _ _ _ _ ⟨i + 1, by omega, nx v5 e5, by rw [ebm]; exact ev3, by rw [ebm]; exact ev2⟩ ?_
        rw [nx v5 e5, ev4]
        unfold spd
        omega
      · have ebm : bm S x (i + 1) = (spd i, (bR S x i : Int)) := by
          show (if (bR S x i : Int) ≤ (bm S x i).2 then bm S x i else _) = _
          rw [if_neg c2]
        refine ih _ _ _ _ _ _ _ _ _ ⟨i + 1, by omega, nx v5 e5, by rw [ebm]; exact hRI, by rw [ebm]; exact ev4⟩ ?_
        rw [nx v5 e5, ev4]
        unfold spd
        omega
  · have hi7 : i < 720 := by omega
    have hin : vp_in (nI i) 720 := vp_in_nI hi7 (by decide)
    have d1 : ∀ l, l < 12 → litS S x i l < 8 := fun l hl => litS_lt hS hi7 hl
    have d2 : ∀ l, l < 12 → wantS S i l < 8 := fun l hl => want_lt hS hl
    refine tC_lit (x := x) (by decide) hS hC (by omega) hi7 ⟨hin, ?_⟩
    rw [nI_clamp (by omega), hww i hi7, l_xorD d1 d2]
    refine pX4_notDark (fun l hl => Nat.xor_lt_two_pow (n := 3) (d1 l hl) (d2 l hl)) ⟨hin, fun ra1 e1' v1 f1 => ?_⟩
    rw [l_notd] at e1'
    rw [nI_1] at f1
    refine ih _ _ ⟨i + 1, by omega, f1, fun a ha => ?_⟩ (by rw [f1, nI_clamp (by omega), nI_clamp (by omega)]; omega)
    rw [e1']
    by_cases z : a = i
    · rw [z, pk_uLs]
      refine congrArg lN (dg_congr fun l hl => ?_)
      by_cases y : litS S x i l = wantS S i l
      · rw [if_pos (xor_0.mpr y), if_pos y]
      · rw [if_neg (fun q => y (xor_0.mp q)), if_neg y]
    · rw [pk_uLn z]; exact hJ a (by omega)
theorem tA_bestSpeedX {S : AS} {n : Nat} {h : Nat → AS} {k : Int32 → VS → Prop} {a : Int32} (h0 : ¬ (1 ≤ a.toInt ∧ a.toInt ≤ 40)) (hk : k (-101) (S, n, h)) : PA_bestSpeed (S, n, h) a k := by
  intro l_oldest l_historySize l_rightAlone w_wanted w_loadAt w_passedIn w_secondArm w_power w_limit w_wantedSpeed w_angle w_speed w_load w_ticks n_pictureCount n_angle n_speed n_ticks n_load n_secondArm n_settings n_working n_written n_writtenIn n_width n_first n_step n_kind n_columns hist hR
  obtain ⟨hS, hC, o, hO, hHC, e1, e3⟩ := RAC_out hR
  unfold PX4_bestSpeed
  exact no4 (A := 1) (B := 40) (by decide) (by decide) h0 ⟨fun q => absurd rfl q, fun _ => ⟨(S, n, h), hR, hk⟩⟩
