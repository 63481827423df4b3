theorem mP_of {S : AS} {m wr : Nat → Int32} {p : Nat} (h : repM S m wr) (hp : p < s_cnt S) : mP m p (s_wd S p) (s_fs S p) (s_sp S p) (s_kd S p) (s_co S p) := by
  obtain ⟨-, -, -, -, -, -, -, -, rP⟩ := h
  exact rP p hp
/-- what is known of one picture -/
def okQ (wd fs sp kd : Nat) (co : Nat → Nat → Nat) : Prop := 1 ≤ wd ∧ wd ≤ 40 ∧ 1 ≤ sp ∧ sp ≤ 18 ∧ fs < 720 ∧ kd ≤ 2 ∧ ∀ c l, c < 40 → l < 12 → co c l < 8
theorem okQ_of {T : Nat} {S : AS} {p : Nat} (h : okS T S) (hp : p < s_cnt S) : okQ (s_wd S p) (s_fs S p) (s_sp S p) (s_kd S p) (s_co S p) := by
  obtain ⟨k0, -, -, -, -, -, ⟨k1, k2, k3, k4⟩, -⟩ := h
  have hp4 : p < 4 := by omega
  exact ⟨(k1 p hp).1, (k1 p hp).2, (k2 p hp4).2.1, (k2 p hp4).2.2.1, (k2 p hp4).1, (k2 p hp4).2.2.2, fun c l => k3 p c l hp4⟩
theorem cP_of {S : AS} {n_pictureCount n_angle n_speed n_ticks n_load n_secondArm : Int32} {n_settings : Nat → Int32} {n_working n_written : Nat → Int64} {n_writtenIn n_width n_first n_step n_kind : Nat → Int32} {n_columns : Nat → Nat → Int64} {p : Nat} (hC : repC S n_pictureCount n_angle n_speed n_ticks n_load n_secondArm n_settings n_working n_written n_writtenIn n_width n_first n_step n_kind n_columns) (hc : s_cnt S ≤ 4) (hp : p < s_cnt S) :
    n_width p = nI (s_wd S p) ∧ n_first p = nI (s_fs S p) ∧ n_step p = nI (s_sp S p) ∧ n_kind p = nI (s_kd S p) ∧ ∀ c, c < 40 → n_columns p c = lN (dg 8 12 (s_co S p c)) := by
  obtain ⟨-, -, -, -, -, -, -, -, ⟨c1, c2, c3⟩⟩ := hC
  have hp4 : p < 4 := by omega
  exact ⟨c1 p hp, (c2 p hp4).1, (c2 p hp4).2.1, (c2 p hp4).2.2, fun c hc => c3 p c hp4 hc⟩
theorem sim_columnAt : SIM_columnAt RR := by
  intro l_oldest l_historySize l_text l_textLength n_pictureCount n_angle n_speed n_ticks n_load n_secondArm n_settings n_working n_written n_writtenIn n_width n_first n_step n_kind n_columns hist b_m b_written b_states b_fifth b_oldest b_stateCount b_text b_textLength a_1 a_2 hR
  obtain ⟨S, o, n, h, tl, tx, hS, hC, hM, hO, hHC, hHM, e1, e2, e3, e4, hT⟩ := id hR
  have hcnt := hS.1
  have hpc := hC.1
  subst hpc
  unfold PX4_columnAt PX5_columnAt
  refine pick4p hcnt (fun p hp ep => ⟨fun c => absurd c (by simp), fun j hj ej => ?_⟩) (fun c => ⟨fun _ => ?_, fun j _ ej => absurd ej (by simp)⟩)
  · obtain rfl : p = j := by simpa using ej
    subst ep
    obtain ⟨q1, q2, q3, q4, q5, q6, q7⟩ := okQ_of hS hp
    obtain ⟨c1, c2, c3, c4, c5⟩ := cP_of hC hcnt hp
    refine pick4 (L := 0) (H := 719) (by decide) (by decide) (fun x _ hx ex => ⟨fun _ => ?_, fun c => absurd c (by decide)⟩) (fun c => ⟨fun q => absurd rfl q, fun _ => ?_⟩)
    · subst ex
      rw [c1, c2, c3, c4]
      have hx' : x < 720 := by omega
      refine tC_covers q2 q4 q5 hx' (fun y => ⟨fun q => absurd q (by decide), fun _ => ?_⟩) (fun y => ⟨fun _ => ?_, fun q => absurd rfl q⟩)
      · refine tC_columnOf q1 q2 q3 q4 q5 hx' q6 y ?_
        refine yes5p hM.1 hcnt hp ⟨fun c => absurd c (by decide), fun _ => ?_⟩
        refine yes5 (L := 0) (H := 719) (by decide) (by decide) (by omega) hx ⟨fun c => absurd c (by decide), fun _ => ?_⟩
        exact tM_columnOf (by omega) (mP_of hM hp) q1 q2 q3 q4 q5 hx' q6 (fun _ => ⟨rfl, hR⟩) (fun z => absurd y z)
      · refine yes5p hM.1 hcnt hp ⟨fun c => absurd c (by decide), fun _ => ?_⟩
        refine yes5 (L := 0) (H := 719) (by decide) (by decide) (by omega) hx ⟨fun c => absurd c (by decide), fun _ => ?_⟩
        exact tM_columnOf (by omega) (mP_of hM hp) q1 q2 q3 q4 q5 hx' q6 (fun z => absurd z y) (fun _ => ⟨rfl, hR⟩)
    · refine yes5p hM.1 hcnt hp ⟨fun c => absurd c (by decide), fun _ => ?_⟩
      exact no5 (A := 0) (B := 719) (by decide) (by decide) c ⟨fun _ => ⟨rfl, hR⟩, fun q => absurd rfl q⟩
  · exact no5p hM.1 hcnt c ⟨fun _ => ⟨rfl, hR⟩, fun q => absurd rfl q⟩
theorem sim_color : SIM_color RR := by
  intro l_oldest l_historySize l_text l_textLength n_pictureCount n_angle n_speed n_ticks n_load n_secondArm n_settings n_working n_written n_writtenIn n_width n_first n_step n_kind n_columns hist b_m b_written b_states b_fifth b_oldest b_stateCount b_text b_textLength a_1 a_2 a_3 hR
  obtain ⟨S, o, n, h, tl, tx, hS, hC, hM, hO, hHC, hHM, e1, e2, e3, e4, hT⟩ := id hR
  have hcnt := hS.1
  have hpc := hC.1
  subst hpc
  unfold PX4_color PX5_color
  refine pick4p hcnt (fun p hp ep => ⟨fun c => absurd c (by simp), fun j hj ej => ?_⟩) (fun c => ⟨fun _ => ?_, fun j _ ej => absurd ej (by simp)⟩)
  · obtain rfl : p = j := by simpa using ej
    subst ep
    obtain ⟨q1, q2, q3, q4, q5, q6, q7⟩ := okQ_of hS hp
    obtain ⟨c1, c2, c3, c4, c5⟩ := cP_of hC hcnt hp
    have hmp := mP_of hM hp
    refine pick4 (L := 0) (H := 39) (by decide) (by decide) (fun x _ hx ex => ⟨fun c => absurd c (by decide), fun _ => ?_⟩) (fun c => ⟨fun _ => ?_, fun q => absurd rfl q⟩)
    · subst ex
      refine pick4 (L := 0) (H := 11) (by decide) (by decide) (fun y _ hy ey => ⟨fun _ => ?_, fun c => absurd c (by decide)⟩) (fun c => ⟨fun q => absurd rfl q, fun _ => ?_⟩)
      · subst ey
        rw [c1]
        refine ⟨fun c => ?_, fun c => ?_⟩
        · refine yes5p hM.1 hcnt hp ⟨fun c => absurd c (by decide), fun _ => ?_⟩
          refine yes5 (L := 0) (H := 39) (by decide) (by decide) (by omega) hx ⟨fun c => absurd c (by decide), fun _ => ?_⟩
          refine yes5l hy ⟨fun _ => tM_of0 (by omega) ?_, fun c => absurd c (by decide)⟩
          rw [hmp.1]
          exact ⟨fun _ => ⟨rfl, hR⟩, fun z => absurd c z⟩
        · refine ⟨vp_in_nI (by omega) (by decide), ?_⟩
          rw [nI_clamp (by omega), c5 x (by omega)]
          refine pX4_colorIn (fun l hl => q7 x l (by omega) hl) (by omega) ?_
          refine yes5p hM.1 hcnt hp ⟨fun c => absurd c (by decide), fun _ => ?_⟩
          refine yes5 (L := 0) (H := 39) (by decide) (by decide) (by omega) hx ⟨fun c => absurd c (by decide), fun _ => ?_⟩
          refine yes5l hy ⟨fun _ => tM_of0 (by omega) ?_, fun c => absurd c (by decide)⟩
          rw [hmp.1]
          refine ⟨fun z => absurd z c, fun _ => ?_⟩
          exact tM_colorOf (by omega) hmp q7 (by omega) (by omega) ⟨rfl, hR⟩
      · refine yes5p hM.1 hcnt hp ⟨fun c => absurd c (by decide), fun _ => ?_⟩
        refine yes5 (L := 0) (H := 39) (by decide) (by decide) (by omega) hx ⟨fun c => absurd c (by decide), fun _ => ?_⟩
        exact no5l c ⟨fun q => absurd rfl q, fun _ => ⟨rfl, hR⟩⟩
    · refine yes5p hM.1 hcnt hp ⟨fun c => absurd c (by decide), fun _ => ?_⟩
      exact no5 (A := 0) (B := 39) (by decide) (by decide) c ⟨fun _ => ⟨rfl, hR⟩, fun q => absurd rfl q⟩
  · exact no5p hM.1 hcnt c ⟨fun _ => ⟨rfl, hR⟩, fun q => absurd rfl q⟩
