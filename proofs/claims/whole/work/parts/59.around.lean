/-! ticksAround -/
theorem tM_setAside {m wr sp sw : Nat → Int32} {k : (Nat → Int32) → (Nat → Int32) → Prop} (h : ∀ sp' sw', (∀ q, q < 348 → sp' q = m q) → (∀ q, q < 8640 → sw' q = wr q) → k sp' sw') : PX5_setAside m wr sp sw k := by
  unfold PX5_setAside
  refine lp2 (PX5_setAside_L1 m _) (fun v w => ∃ i, i ≤ 348 ∧ v = nI i ∧ ∀ q, q < i → w q = m q) (fun v _ => 348 - v.toNatClampNeg) ?_ _ _ ⟨0, by omega, rfl, fun q hq => by omega⟩
  rintro g v w ⟨i, hi, ev, hJ⟩ ih
  subst ev
  unfold PX5_setAside_L1
  refine ⟨fun c => ?_, fun c => ?_⟩ <;> rw [show (348 : Int32) = nI 348 from rfl, nI_leI (by omega) (by omega)] at c
  · obtain rfl : i = 348 := by omega
    refine lp2 (PX5_setAside_L2 wr _) (fun v w => ∃ i, i ≤ 8640 ∧ v = nI i ∧ ∀ q, q < i → w q = wr q) (fun v _ => 8640 - v.toNatClampNeg) ?_ _ _ ⟨0, by omega, rfl, fun q hq => by omega⟩
    rintro g v w2 ⟨i, hi, ev, hJ2⟩ ih
    subst ev
    unfold PX5_setAside_L2
    refine ⟨fun c => ?_, fun c => ?_⟩ <;> rw [show (8640 : Int32) = nI 8640 from rfl, nI_leI (by omega) (by omega)] at c
    · obtain rfl : i = 8640 := by omega
      exact h _ _ hJ hJ2
    · refine ⟨vp_in_nI (by omega) (by decide), vp_in_nI (by omega) (by decide), fun w1 e1 v1 f1 => ?_⟩
      rw [nI_clamp (by omega)] at e1
      rw [nI_1] at f1
      refine ih _ _ ⟨i + 1, by omega, f1, fun q hq => ?_⟩ (by rw [f1, nI_clamp (by omega), nI_clamp (by omega)]; omega)
      rw [e1]
      by_cases z : q = i
      · rw [z, pk_us]
      · rw [pk_un z]; exact hJ2 q (by omega)
  · refine ⟨vp_in_nI (by omega) (by decide), vp_in_nI (by omega) (by decide), fun w1 e1 v1 f1 => ?_⟩
    rw [nI_clamp (by omega)] at e1
    rw [nI_1] at f1
    refine ih _ _ ⟨i + 1, by omega, f1, fun q hq => ?_⟩ (by rw [f1, nI_clamp (by omega), nI_clamp (by omega)]; omega)
    rw [e1]
    by_cases z : q = i
    · rw [z, pk_us]
    · rw [pk_un z]; exact hJ q (by omega)
theorem tM_bringBack {m wr sp sw : Nat → Int32} {k : (Nat → Int32) → (Nat → Int32) → Prop} (h : ∀ m' wr', (∀ q, q < 348 → m' q = sp q) → (∀ q, q < 8640 → wr' q = sw q) → k m' wr') : PX5_bringBack m wr sp sw k := by
  unfold PX5_bringBack
  refine lp2 (PX5_bringBack_L1 sp _) (fun v w => ∃ i, i ≤ 348 ∧ v = nI i ∧ ∀ q, q < i → w q = sp q) (fun v _ => 348 - v.toNatClampNeg) ?_ _ _ ⟨0, by omega, rfl, fun q hq => by omega⟩
  rintro g v w ⟨i, hi, ev, hJ⟩ ih
  subst ev
  unfold PX5_bringBack_L1
  refine ⟨fun c => ?_, fun c => ?_⟩ <;> rw [show (348 : Int32) = nI 348 from rfl, nI_leI (by omega) (by omega)] at c
  · obtain rfl : i = 348 := by omega
    refine lp2 (PX5_bringBack_L2 sw _) (fun v w => ∃ i, i ≤ 8640 ∧ v = nI i ∧ ∀ q, q < i → w q = sw q) (fun v _ => 8640 - v.toNatClampNeg) ?_ _ _ ⟨0, by omega, rfl, fun q hq => by omega⟩
    rintro g v w2 ⟨i, hi, ev, hJ2⟩ ih
    subst ev
    unfold PX5_bringBack_L2
    refine ⟨fun c => ?_, fun c => ?_⟩ <;> rw [show (8640 : Int32) = nI 8640 from rfl, nI_leI (by omega) (by omega)] at c
    · obtain rfl : i = 8640 := by omega
      exact h _ _ hJ hJ2
    · refine ⟨vp_in_nI (by omega) (by decide), vp_in_nI (by omega) (by decide), fun w1 e1 v1 f1 => ?_⟩
      rw [nI_clamp (by omega)] at e1
      rw [nI_1] at f1
      refine ih _ _ ⟨i + 1, by omega, f1, fun q hq => ?_⟩ (by rw [f1, nI_clamp (by omega), nI_clamp (by omega)]; omega)
      rw [e1]
      by_cases z : q = i
      · rw [z, pk_us]
      · rw [pk_un z]; exact hJ2 q (by omega)
  · refine ⟨vp_in_nI (by omega) (by decide), vp_in_nI (by omega) (by decide), fun w1 e1 v1 f1 => ?_⟩
    rw [nI_clamp (by omega)] at e1
    rw [nI_1] at f1
    refine ih _ _ ⟨i + 1, by omega, f1, fun q hq => ?_⟩ (by rw [f1, nI_clamp (by omega), nI_clamp (by omega)]; omega)
    rw [e1]
    by_cases z : q = i
    · rw [z, pk_us]
    · rw [pk_un z]; exact hJ q (by omega)
def zS (S : AS) (ws : Int) (j : Nat) : ZS := zs (ldA S) (pwN S) (lmN S) ws (Z0S S) j
theorem zS_ok {T : Nat} {S : AS} {ws : Int} (hS : okS T S) (hws : -60 ≤ ws ∧ ws ≤ 60) (j : Nat) : okZ j (zS S ws j) := zs_ok (ldA_le S) hws (Z0S_ok hS) j
def far (S : AS) (t : Nat) : Nat := sg t (fun i => (zS S (s_stg S 0) (i + 1)).2.1.natAbs)
def TA (S : AS) (r : Int32) : Prop := (∃ t, 1 ≤ t ∧ t ≤ 500 ∧ (∀ s, s < t → far S s < 720) ∧ 720 ≤ far S t ∧ r = nI t) ∨ ((∀ s, s ≤ 500 → far S s < 720) ∧ r = -109)
theorem TA_one {S : AS} {r r' : Int32} (h : TA S r) (h' : TA S r') : r = r' := by
  rcases h with ⟨t, t1, t2, t3, t4, t5⟩ | ⟨t1, t2⟩ <;> rcases h' with ⟨u, u1, u2, u3, u4, u5⟩ | ⟨u1, u2⟩
  · rw [t5, u5]
    refine congrArg nI ?_
    rcases Nat.lt_trichotomy t u with z | z | z
    · have := u3 t z; omega
    · exact z
    · have := t3 u z; omega
  · have := u1 t t2; omega
  · have := t1 u u2; omega
  · rw [t2, u2]
theorem far_le {T : Nat} {S : AS} (hS : okS T S) (t : Nat) : far S t ≤ t * 60 := sg_le fun i _ => by
  have h := (zS_ok hS hS.2.2.2.2.2.1.1 (i + 1)).2.1
  omega
theorem pwN_le {T : Nat} {S : AS} (hS : okS T S) : pwN S ≤ 20 := by have := hS.2.2.2.2.2.1.2.1; unfold pwN; omega
theorem lmN_le {T : Nat} {S : AS} (hS : okS T S) : lmN S ≤ 9999 := by have := hS.2.2.2.2.2.1.2.2.1; unfold lmN; omega
theorem sim_ticksAround : SIM_ticksAround RR := by
  intro l_oldest l_historySize l_text l_textLength w_wanted w_loadAt w_passedIn w_secondArm w_power w_limit w_wantedSpeed w_angle w_speed w_load w_ticks n_pictureCount n_angle n_speed n_ticks n_load n_secondArm n_settings n_working n_written n_writtenIn n_width n_first n_step n_kind n_columns hist b_m b_written b_spare b_spareWritten b_states b_fifth b_oldest b_stateCount b_text b_textLength b_wants hR
  obtain ⟨S, o, n, h, tl, tx, hS, hC, hM, hO, hHC, hHM, e1, e2, e3, e4, hT⟩ := id hR
  obtain ⟨c1, c2, c3, c4, c5, c6, cG, cW, cP⟩ := id hC
  obtain ⟨q1, q2, q3, q4, q5, q6, q7, qW, qP⟩ := id hM
  have kG := hS.2.2.2.2.2.1
  have hws : (n_settings 0).toInt = s_stg S 0 := cG 0 (by omega)
  have model : ∀ r, TA S r → PX5_ticksAround b_m b_written b_spare b_spareWritten b_wants (fun r' b_m' b_written' b_spare' b_spareWritten' b_wants' => r = r' ∧ RR l_oldest l_historySize l_text l_textLength n_pictureCount n_angle n_speed n_ticks n_load n_secondArm n_settings n_working n_written n_writtenIn n_width n_first n_step n_kind n_columns hist b_m' b_written' b_states b_fifth b_oldest b_stateCount b_text b_textLength) := by
    intro r hr
    unfold PX5_ticksAround
    refine tM_setAside fun sp sw hsp hsw => tM_layWants hS q1 qP fun mw hmw => ?_
    have hM0 : repM (runS S (s_stg S 0) 0 (zS S (s_stg S 0) 0)) b_m b_written := by
      have := start_M (x := b_m 0) hM (q7 0 (by omega))
      rwa [fa_upd_same rfl] at this
    have fin : ∀ (v2 : Int32) (m wr : Nat → Int32), TA S v2 → PX5_bringBack m wr sp sw (fun b_m_15 b_written_16 => v2 = v2 → r = v2 ∧ RR l_oldest l_historySize l_text l_textLength n_pictureCount n_angle n_speed n_ticks n_load n_secondArm n_settings n_working n_written n_writtenIn n_width n_first n_step n_kind n_columns hist b_m_15 b_written_16 b_states b_fifth b_oldest b_stateCount b_text b_textLength) := by
      intro v2 m wr hv
      refine tM_bringBack fun m' wr' h1 h2 _ => ⟨TA_one hr hv, S, o, n, h, tl, tx, hS, hC, repM_congr hS.1 (fun q hq => (h1 q hq).trans (hsp q hq)) (fun q hq => (h2 q hq).trans (hsw q hq)) hM, hO, hHC, hHM, e1, e2, e3, e4, hT⟩
    refine lp4 (PX5_ticksAround_L1 mw _) (fun v1 v2 m wr => ∃ i, i ≤ 500 ∧ v2 = nI i ∧ v1 = nI (far S i) ∧ repM (runS S (s_stg S 0) i (zS S (s_stg S 0) i)) m wr ∧ ∀ s, s < i → far S s < 720) (fun _ v2 _ _ => 500 - v2.toNatClampNeg) ?_ _ _ _ _ ⟨0, by omega, rfl, rfl, hM0, fun s hs => by omega⟩
    rintro g v1 v2 m wr ⟨i, hi, ev2, ev1, hJ, hs⟩ ih
    subst ev1 ev2
    have hfl := far_le hS i
    unfold PX5_ticksAround_L1
    refine ⟨fun c => ?_, fun c => ⟨fun c2 => ?_, fun c2 => ?_⟩⟩
    · have c' := c
      rw [show (720 : Int32) = nI 720 from rfl, nI_leI (by omega) (by omega)] at c'
      have h1 : 1 ≤ i := by
        rcases Nat.eq_zero_or_pos i with z | z
        · rw [z] at c'; exact absurd c' (by show ¬ 720 ≤ 0; omega)
        · exact z
      refine tM_bringBack fun m' wr' h1' h2 => ⟨fun _ => ⟨TA_one hr (Or.inl ⟨i, h1, hi, hs, c', rfl⟩), S, o, n, h, tl, tx, hS, hC, repM_congr hS.1 (fun q hq => (h1' q hq).trans (hsp q hq)) (fun q hq => (h2 q hq).trans (hsw q hq)) hM, hO, hHC, hHM, e1, e2, e3, e4, hT⟩, fun z => absurd c z⟩
    · have c' := c
      rw [show (720 : Int32) = nI 720 from rfl, nI_leI (by omega) (by omega)] at c'
      rw [show (500 : Int32) = nI 500 from rfl, nI_leI (by omega) (by omega)] at c2
      have h5 : i = 500 := by omega
      refine tM_bringBack fun m' wr' h1' h2 => ⟨fun z => absurd z c, fun _ => ⟨TA_one hr (Or.inr ⟨fun s hs' => ?_, rfl⟩), S, o, n, h, tl, tx, hS, hC, repM_congr hS.1 (fun q hq => (h1' q hq).trans (hsp q hq)) (fun q hq => (h2 q hq).trans (hsw q hq)) hM, hO, hHC, hHM, e1, e2, e3, e4, hT⟩⟩
      by_cases z : s < i
      · exact hs s z
      · rw [show s = i by omega]; omega
    · rw [show (720 : Int32) = nI 720 from rfl, nI_leI (by omega) (by omega)] at c
      rw [show (500 : Int32) = nI 500 from rfl, nI_leI (by omega) (by omega)] at c2
      refine tM_tick hS (by decide) (by omega) (zS_ok hS kG.1 i) kG.1 hJ hmw fun m' wr' hM' => ?_
      have hv : (m' 5).toInt = (zS S (s_stg S 0) (i + 1)).2.1 := hM'.2.2.1
      have hvr := (zS_ok hS kG.1 (i + 1)).2.1
      have h0 : (0 : Int32).toInt = 0 := by decide
      have nxt : ∀ x : Int32, x = nI (zS S (s_stg S 0) (i + 1)).2.1.natAbs → ∀ v1 : Int32, v1 = nI (far S i) + x → ∀ v2 : Int32, v2 = nI i + (1 : Int32) → PX5_ticksAround_L1 mw (fun v1_4 v2_5 b_m_6 b_written_7 => PX5_bringBack b_m_6 b_written_7 sp sw  (fun b_m_15 b_written_16 => (((720 : Int32) ≤ v1_4 → (r = v2_5 ∧ RR l_oldest l_historySize l_text l_textLength n_pictureCount n_angle n_speed n_ticks n_load n_secondArm n_settings n_working n_written n_writtenIn n_width n_first n_step n_kind n_columns hist b_m_15 b_written_16 b_states b_fifth b_oldest b_stateCount b_text b_textLength)) ∧ (¬ (720 : Int32) ≤ v1_4 → (r = (-109 : Int32) ∧ RR l_oldest l_historySize l_text l_textLength n_pictureCount n_angle n_speed n_ticks n_load n_secondArm n_settings n_working n_written n_writtenIn n_width n_first n_step n_kind n_columns hist b_m_15 b_written_16 b_states b_fifth b_oldest b_stateCount b_text b_textLength))))) g v1 v2 m' wr' := by
        intro x ex v1 f1 v2 f2
        rw [ex, nI_add] at f1
        rw [nI_1] at f2
        refine ih _ _ _ _ ⟨i + 1, by omega, f2, f1, hM', fun s hs' => ?_⟩ (by rw [f2, nI_clamp (by omega), nI_clamp (by omega)]; omega)
        by_cases z : s < i
        · exact hs s z
        · rw [show s = i by omega]; omega
      unfold PX5_size
      refine ⟨fun c3 => nxt _ ?_, fun c3 => nxt _ ?_⟩ <;> rw [i_le h0 hv] at c3
      · exact i_of (by rw [hv]; omega)
      · exact i_of (by rw [i_neg hv (by omega) (by omega)]; omega)
  unfold PX4_ticksAround
  refine tC_prepare hS hC fun ww wl hww hwl => tC_start fun wp hwp => ?_
  refine lp7 (PX4_ticksAround_L1 _ ww wl (nI (s_sec S)) (nI (pwN S)) (nI (lmN S)) (n_settings 0) _) (fun v1 v2 wp wa wv wl wt => ∃ i, i ≤ 500 ∧ v2 = nI (i + 1) ∧ v1 = nI (far S i) ∧ ZC i (zS S (s_stg S 0) i) wp wa wv wl wt ∧ ∀ s, s ≤ i → far S s < 720) (fun _ v2 _ _ _ _ _ => 501 - v2.toNatClampNeg) ?_ _ _ _ _ _ _ _ ⟨0, by omega, rfl, rfl, ⟨hwp, c2, c3, c5, rfl⟩, fun s hs => by rw [show s = 0 by omega]; show 0 < 720; omega⟩
  rintro g v1 v2 wp wa wv wld wt ⟨i, hi, ev2, ev1, hJ, hs⟩ ih
  subst ev1 ev2
  unfold PX4_ticksAround_L1
  refine ⟨fun c => ?_, fun c => ?_⟩ <;> rw [show (500 : Int32) = nI 500 from rfl, nI_ltI (by omega) (by omega)] at c
  · exact model _ (Or.inr ⟨fun s hs' => hs s (by omega), rfl⟩)
  · refine tC_goOn (f := ldA S) (n := 1) (j0 := i) (Z0 := Z0S S) (ldA_le S) hwl (pwN_le hS) (lmN_le hS) hws kG.1 (by omega) (Z0S_ok hS) hJ fun wp' wa' wv' wl' wt' hZ => ?_
    intro v1 f1
    have hvr := (zS_ok hS kG.1 (i + 1)).2.1
    rw [absI (X := (zS S (s_stg S 0) (i + 1)).2.1) hZ.2.2.1 hvr, nI_add] at f1
    have f1' : v1 = nI (far S (i + 1)) := f1
    have hfl := far_le hS (i + 1)
    rw [f1', show (720 : Int32) = nI 720 from rfl]
    refine ⟨fun c2 v2 f2 => ?_, fun c2 => ?_⟩ <;> rw [nI_ltI (by omega) (by omega)] at c2
    · rw [nI_1] at f2
      refine ih _ _ _ _ _ _ _ ⟨i + 1, by omega, f2, rfl, hZ, fun s hs' => ?_⟩ (by rw [f2, nI_clamp (by omega), nI_clamp (by omega)]; omega)
      by_cases z : s ≤ i
      · exact hs s z
      · rw [show s = i + 1 by omega]; omega
    · exact model _ (Or.inl ⟨i + 1, by omega, by omega, fun s hs' => hs s (by omega), by omega, rfl⟩)
