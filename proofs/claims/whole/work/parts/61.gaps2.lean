def gp (S : AS) (P : Nat → Nat) (q : Nat) : Nat := if cm (s_sec S) P q = 0 ∧ cvc S q (s_cnt S) = 1 then 1 else 0
theorem tC_gapsL {T : Nat} {S : AS} {n_pictureCount n_angle n_speed n_ticks n_load n_secondArm : Int32} {n_settings : Nat → Int32} {n_working n_written : Nat → Int64} {n_writtenIn n_width n_first n_step n_kind : Nat → Int32} {n_columns : Nat → Nat → Int64} {P : Nat → Nat} {wp : Nat → Int32} {k : Int32 → Prop} (hS : okS T S) (hC : repC S n_pictureCount n_angle n_speed n_ticks n_load n_secondArm n_settings n_working n_written n_writtenIn n_width n_first n_step n_kind n_columns) (hP : ∀ q, P q ≤ 1000) (hwp : ∀ q, q < 720 → wp q = nI (P q)) (h : k (nI (sg 720 (gp S P)))) : ∃ n_1, PX4_gaps_L1 n_pictureCount n_width n_first n_step n_kind (nI (s_sec S)) wp (fun v2_19 v3_20 => k v2_19) n_1 (0 : Int32) (0 : Int32) := by
  have ksec := hS.2.2.2.2.1
  refine lp2 (PX4_gaps_L1 n_pictureCount n_width n_first n_step n_kind (nI (s_sec S)) wp _) (fun v w => ∃ i, i ≤ 720 ∧ w = nI i ∧ v = nI (sg i (gp S P))) (fun _ w => 720 - w.toNatClampNeg) ?_ _ _ ⟨0, by omega, rfl, rfl⟩
  rintro f v w ⟨i, hi, ew, ev⟩ ih
  subst ew ev
  unfold PX4_gaps_L1
  refine ⟨fun c => ?_, fun c => ?_⟩ <;> rw [show (720 : Int32) = nI 720 from rfl, nI_leI (by omega) (by omega)] at c
  · obtain rfl : i = 720 := by omega
    exact h
  · have hi7 : i < 720 := by omega
    have ho := opp_lt i
    have hPi := hP i
    have hPo := hP (opp i)
    have nxt0 : gp S P i = 0 → ∀ w1 : Int32, w1 = nI i + (1 : Int32) → PX4_gaps_L1 n_pictureCount n_width n_first n_step n_kind (nI (s_sec S)) wp (fun v2_19 v3_20 => k v2_19) f (nI (sg i (gp S P))) w1 := by
      intro h0 w1 f1
      rw [nI_1] at f1
      refine ih _ _ ⟨i + 1, by omega, f1, ?_⟩ (by rw [f1, nI_clamp (by omega), nI_clamp (by omega)]; omega)
      show nI (sg i (gp S P)) = nI (sg i (gp S P) + gp S P i)
      rw [h0]
      rfl
    have pos0 : ∀ {x : Nat}, x ≤ 1000 → ((0 : Int32) < nI x ↔ 0 < x) := fun hx => nI_ltI (a := 0) (by omega) (by omega)
    unfold PX3_firstArmAt
    rw [nI_clamp (by omega), hwp i hi7]
    refine ⟨vp_in_nI hi7 (by decide), fun c2 => nxt0 ?_, fun c2 => ?_⟩ <;> rw [pos0 hPi] at c2
    · unfold gp cm
      rw [if_pos (Or.inl (by omega)), if_neg (by omega)]
    · have last : ∀ x : Nat, x ≤ 1000 → x = (if s_sec S = 1 then P (opp i) else 0) → ((nI x ≤ 0 → PX2_isCoveredAt n_pictureCount n_width n_first n_step n_kind (nI i) (fun r103_29 => ((r103_29 = 0 → (∀ v3_31 : Int32, v3_31 = nI i + (1 : Int32) → PX4_gaps_L1 n_pictureCount n_width n_first n_step n_kind (nI (s_sec S)) wp (fun v2_19 v3_20 => k v2_19) f (nI (sg i (gp S P))) v3_31)) ∧ (¬ r103_29 = 0 → (∀ v2_32 : Int32, v2_32 = nI (sg i (gp S P)) + (1 : Int32) → (∀ v3_33 : Int32, v3_33 = nI i + (1 : Int32) → PX4_gaps_L1 n_pictureCount n_width n_first n_step n_kind (nI (s_sec S)) wp (fun v2_19 v3_20 => k v2_19) f v2_32 v3_33)))))) ∧ (¬ nI x ≤ 0 → (∀ v3_35 : Int32, v3_35 = nI i + (1 : Int32) → PX4_gaps_L1 n_pictureCount n_width n_first n_step n_kind (nI (s_sec S)) wp (fun v2_19 v3_20 => k v2_19) f (nI (sg i (gp S P))) v3_35))) := by
        intro x hx ex
        have hz : nI x ≤ (0 : Int32) ↔ x ≤ 0 := nI_leI (b := 0) (by omega) (by omega)
        refine ⟨fun c3 => ?_, fun c3 => nxt0 ?_⟩ <;> rw [hz] at c3
        · have hcm : cm (s_sec S) P i = 0 := by
            unfold cm
            refine if_neg fun z => ?_
            rcases z with z | z
            · omega
            · rw [if_pos z.1] at ex
              exact z.2 (by omega)
          have hle := cvc_le S i (s_cnt S)
          refine tC_isCovered hS hC hi7 ⟨fun c4 => nxt0 ?_, fun c4 v1 e1 w1 f1 => ?_⟩ <;> rw [show (0 : Int32) = nI 0 from rfl, nI_eq (by omega) (by omega)] at c4
          · unfold gp
            rw [if_neg (by omega)]
          · rw [nI_1] at e1 f1
            refine ih _ _ ⟨i + 1, by omega, f1, e1.trans (congrArg nI ?_)⟩ (by rw [f1, nI_clamp (by omega), nI_clamp (by omega)]; omega)
            show sg i (gp S P) + 1 = sg i (gp S P) + gp S P i
            have : gp S P i = 1 := by
              unfold gp
              rw [if_pos ⟨hcm, by omega⟩]
            omega
        · have hcm : cm (s_sec S) P i = 1 := by
            unfold cm
            refine if_pos (Or.inr ?_)
            by_cases z : s_sec S = 1
            · rw [if_pos z] at ex
              exact ⟨z, by omega⟩
            · rw [if_neg z] at ex
              omega
          unfold gp
          rw [if_neg (by omega)]
      unfold PX3_secondArmAt PX3_opposite
      rw [opp_I i hi7]
      refine ⟨fun c3 => ?_, fun c3 => ⟨vp_in_nI ho (by decide), ?_⟩⟩
      · have z : s_sec S = 0 := (nI_eq (b := 0) (by omega) (by omega)).mp c3
        exact last 0 (by omega) (by rw [if_neg (by omega)])
      · have z : s_sec S = 1 := by
          have : ¬ s_sec S = 0 := fun z => c3 (by rw [z]; rfl)
          omega
        rw [nI_clamp (by omega), hwp _ ho]
        exact last _ hPo (by rw [if_pos z])
theorem tM_gapsL {T : Nat} {S : AS} {m wr cc : Nat → Int32} {P : Nat → Nat} {k : Int32 → Prop} (hS : okS T S) (hM : repM S m wr) (hc : ∀ q, q < 720 → cc q = nI (cm (s_sec S) P q)) (h : k (nI (sg 720 (gp S P)))) : ∃ n_3, PX5_gaps_L3 cc m (fun v2_23 v3_24 => k v2_23) n_3 (0 : Int32) (0 : Int32) := by
  refine lp2 (PX5_gaps_L3 cc m _) (fun v w => ∃ i, i ≤ 720 ∧ w = nI i ∧ v = nI (sg i (gp S P))) (fun _ w => 720 - w.toNatClampNeg) ?_ _ _ ⟨0, by omega, rfl, rfl⟩
  rintro f v w ⟨i, hi, ew, ev⟩ ih
  subst ew ev
  unfold PX5_gaps_L3
  refine ⟨fun c => ?_, fun c => ?_⟩ <;> rw [show (720 : Int32) = nI 720 from rfl, nI_leI (by omega) (by omega)] at c
  · obtain rfl : i = 720 := by omega
    exact h
  · have hi7 : i < 720 := by omega
    have hcm : cm (s_sec S) P i ≤ 1 := by unfold cm; split <;> omega
    have hle := cvc_le S i (s_cnt S)
    have nxt : ∀ d : Nat, d = gp S P i → ∀ v1 : Int32, v1 = nI (sg i (gp S P)) + nI d → ∀ w1 : Int32, w1 = nI i + (1 : Int32) → PX5_gaps_L3 cc m (fun v2_23 v3_24 => k v2_23) f v1 w1 := by
      intro d hd v1 e1 w1 f1
      rw [nI_add] at e1
      rw [nI_1] at f1
      exact ih _ _ ⟨i + 1, by omega, f1, by rw [e1, hd]; rfl⟩ (by rw [f1, nI_clamp (by omega), nI_clamp (by omega)]; omega)
    rw [nI_clamp (by omega), hc i hi7]
    have hz : nI (cm (s_sec S) P i) = 0 ↔ cm (s_sec S) P i = 0 := nI_eq (b := 0) (by omega) (by omega)
    refine ⟨vp_in_nI hi7 (by decide), fun c2 => nxt 0 ?_, fun c2 => ?_⟩ <;> rw [hz] at c2
    · unfold gp
      rw [if_neg (fun z => c2 z.1)]
    · refine tM_isCovered hS hM hi7 ⟨fun c3 => nxt 0 ?_, fun c3 => nxt 1 ?_⟩ <;> rw [show (0 : Int32) = nI 0 from rfl, nI_eq (by omega) (by omega)] at c3
      · unfold gp
        rw [if_neg (fun z => by omega)]
      · unfold gp
        rw [if_pos ⟨c2, by omega⟩]
theorem sim_gaps : SIM_gaps RR := by
  intro l_oldest l_historySize l_text l_textLength w_wanted w_loadAt w_passedIn w_secondArm w_power w_limit w_wantedSpeed w_angle w_speed w_load w_ticks n_pictureCount n_angle n_speed n_ticks n_load n_secondArm n_settings n_working n_written n_writtenIn n_width n_first n_step n_kind n_columns hist b_m b_written b_spare b_spareWritten b_states b_fifth b_oldest b_stateCount b_text b_textLength b_wants b_comes a_1 hR
  obtain ⟨S, o, n, h, tl, tx, hS, hC, hM, hO, hHC, hHM, e1, e2, e3, e4, hT⟩ := id hR
  obtain ⟨c1, c2, c3, c4, c5, c6, cG, cW, cP⟩ := id hC
  obtain ⟨q1, q2, q3, q4, q5, q6, q7, qW, qP⟩ := id hM
  have kG := hS.2.2.2.2.2.1
  have hws : (n_settings 0).toInt = s_stg S 0 := cG 0 (by omega)
  unfold PX4_gaps PX5_gaps
  refine pick4 (L := 0) (H := 200) (by decide) (by decide) (fun x hx0 hx ex => ⟨fun _ => ?_, fun c => absurd c (by decide)⟩) (fun c => ⟨fun q => absurd rfl q, fun _ => ?_⟩)
  · subst ex
    refine tC_prepare hS hC fun ww wl hww hwl => tC_start fun wp hwp => ?_
    refine tC_goOn (f := ldA S) (j0 := 0) (Z0 := Z0S S) (ldA_le S) hwl (pwN_le hS) (lmN_le hS) hws kG.1 (by omega) (Z0S_ok hS) ⟨hwp, c2, c3, c5, rfl⟩ fun wp' wa' wv' wl' wt' hZ => ?_
    rw [Nat.zero_add] at hZ
    have hzx := zS_ok hS kG.1 x
    refine tC_gapsL (P := (zS S (s_stg S 0) x).2.2.2) hS hC (fun q => Nat.le_trans (hzx.2.2.2 q) (by omega)) hZ.1 ?_
    refine yes5 (L := 0) (H := 200) (by decide) (by decide) (by omega) hx ⟨fun _ => ?_, fun c => absurd c (by decide)⟩
    refine tM_setAside fun sp sw hsp hsw => tM_layWants hS q1 qP fun mw hmw => ?_
    refine lp2 (PX5_gaps_L1 _) (fun v w => ∃ i, i ≤ 720 ∧ v = nI i ∧ ∀ a, a < i → w a = nI 0) (fun v _ => 720 - v.toNatClampNeg) ?_ _ _ ⟨0, by omega, rfl, fun a ha => by omega⟩
    rintro f v cc ⟨i, hi, ev, hJ⟩ ih
    subst ev
    unfold PX5_gaps_L1
    refine ⟨fun c => ?_, fun c => ?_⟩ <;> rw [show (720 : Int32) = nI 720 from rfl, nI_leI (by omega) (by omega)] at c
    · obtain rfl : i = 720 := by omega
      have hM0 : repM (runS S (s_stg S 0) 0 (zS S (s_stg S 0) 0)) b_m b_written := by
        have := start_M (x := b_m 0) hM (q7 0 (by omega))
        rwa [fa_upd_same rfl] at this
      have hc0 : ∀ q, q < 720 → cc q = nI (cm (s_sec S) (zS S (s_stg S 0) 0).2.2.2 q) := fun q hq => by
        rw [hJ q hq]
        refine congrArg nI ?_
        show 0 = cm (s_sec S) (fun _ => 0) q
        simp [cm]
      refine lp4 (PX5_gaps_L2 (nI x) mw _) (fun v m wr cc => ∃ i, i ≤ x ∧ v = nI i ∧ repM (runS S (s_stg S 0) i (zS S (s_stg S 0) i)) m wr ∧ ∀ q, q < 720 → cc q = nI (cm (s_sec S) (zS S (s_stg S 0) i).2.2.2 q)) (fun v _ _ _ => x - v.toNatClampNeg) ?_ _ _ _ _ ⟨0, by omega, rfl, hM0, hc0⟩
      rintro f2 v m wr cc2 ⟨i, hi, ev, hJ1, hJ2⟩ ih2
      subst ev
      unfold PX5_gaps_L2
      refine ⟨fun c => ?_, fun c => ?_⟩ <;> rw [nI_leI (by omega) (by omega)] at c
      · obtain rfl : i = x := by omega
        refine tM_bringBack fun m' wr' h1' h2' => ?_
        have hMb := repM_congr hS.1 (fun q hq => (h1' q hq).trans (hsp q hq)) (fun q hq => (h2' q hq).trans (hsw q hq)) hM
        exact tM_gapsL hS hMb hJ2 ⟨rfl, S, o, n, h, tl, tx, hS, hC, hMb, hO, hHC, hHM, e1, e2, e3, e4, hT⟩
      · refine tM_mark hS (by decide) (by omega) (zS_ok hS kG.1 i) kG.1 hJ1 hmw hJ2 fun m' wr' c' hM' hc' v1 f1 => ?_
        rw [nI_1] at f1
        exact ih2 _ _ _ _ ⟨i + 1, by omega, f1, hM', hc'⟩ (by rw [f1, nI_clamp (by omega), nI_clamp (by omega)]; omega)
    · refine ⟨vp_in_nI (by omega) (by decide), fun w1 e1' v1 f1 => ?_⟩
      rw [nI_clamp (by omega)] at e1'
      rw [nI_1] at f1
      refine ih _ _ ⟨i + 1, by omega, f1, fun a ha => ?_⟩ (by rw [f1, nI_clamp (by omega), nI_clamp (by omega)]; omega)
      rw [e1']
      by_cases z : a = i
      · rw [z, pk_us]; rfl
      · rw [pk_un z]; exact hJ a (by omega)
  · exact no5 (A := 0) (B := 200) (by decide) (by decide) c ⟨fun q => absurd rfl q, fun _ => ⟨rfl, hR⟩⟩
