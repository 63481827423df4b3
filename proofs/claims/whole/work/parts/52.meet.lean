/-! meetings -/
def pwS (S : AS) (p a l : Nat) : Nat := pw (s_wd S p) (s_fs S p) (s_sp S p) (s_kd S p) (s_co S p) a l
def mt (S : AS) (p q a l : Nat) : Nat := if pwS S p a l = 0 then 0 else if pwS S q a l = 0 then 0 else 1
theorem mt_and (S : AS) (p q a l : Nat) : dk (pwS S p a) l &&& dk (pwS S q a) l = mt S p q a l := by
  unfold dk mt
  by_cases h1 : pwS S p a l = 0
  · rw [if_pos h1, if_pos h1, Nat.zero_and]
  · rw [if_neg h1, if_neg h1]
    by_cases h2 : pwS S q a l = 0
    · rw [if_pos h2]; rfl
    · rw [if_neg h2]; rfl
theorem tC_meet {T : Nat} {S : AS} {n_pictureCount n_angle n_speed n_ticks n_load n_secondArm : Int32} {n_settings : Nat → Int32} {n_working n_written : Nat → Int64} {n_writtenIn n_width n_first n_step n_kind : Nat → Int32} {n_columns : Nat → Nat → Int64} {p q : Nat} {k : Int32 → Prop} (hS : okS T S) (hC : repC S n_pictureCount n_angle n_speed n_ticks n_load n_secondArm n_settings n_working n_written n_writtenIn n_width n_first n_step n_kind n_columns) (hp : p < s_cnt S) (hq : q < s_cnt S) (h : k (nI (sg 720 (fun a => sm 12 (mt S p q a))))) : ∃ n_5, PX4_meetings_L5 n_width n_first n_step n_kind n_columns p q (fun v5_8 v6_9 => (k v5_8)) n_5 (0 : Int32) (0 : Int32) := by
  have hcnt := hS.1
  have Qp := okQ_of hS hp
  have Qq := okQ_of hS hq
  obtain ⟨a1, a2, a3, a4, a5, a6, a7⟩ := id Qp
  obtain ⟨b1, b2, b3, b4, b5, b6, b7⟩ := id Qq
  obtain ⟨c1, c2, c3, c4, c5⟩ := cP_of hC hcnt hp
  obtain ⟨d1, d2, d3, d4, d5⟩ := cP_of hC hcnt hq
  refine lp2 (PX4_meetings_L5 n_width n_first n_step n_kind n_columns p q _) (fun v w => ∃ i, i ≤ 720 ∧ w = nI i ∧ v = nI (sg i (fun a => sm 12 (mt S p q a)))) (fun _ w => 720 - w.toNatClampNeg) ?_ _ _ ⟨0, by omega, rfl, rfl⟩
  rintro f v w ⟨i, hi, ew, ev⟩ ih
  subst ew ev
  unfold PX4_meetings_L5
  refine ⟨fun c => ?_, fun c => ?_⟩ <;> rw [show (720 : Int32) = nI 720 from rfl, nI_leI (by omega) (by omega)] at c
  · obtain rfl : i = 720 := by omega
    exact h
  · rw [c1, c2, c3, c4, d1, d2, d3, d4]
    refine tC_pwanted a1 a2 a3 a4 a5 (by omega) a6 c5 ?_
    refine pX4_notDark (fun l hl => pw_lt Qp hl) ?_
    refine tC_pwanted b1 b2 b3 b4 b5 (by omega) b6 d5 ?_
    refine pX4_notDark (fun l hl => pw_lt Qq hl) ?_
    rw [l_and (fun l _ => dk_lt _ l) (fun l _ => dk_lt _ l)]
    have e : ∀ l, l < 12 → dk (pw (s_wd S p) (s_fs S p) (s_sp S p) (s_kd S p) (s_co S p) i) l &&& dk (pw (s_wd S q) (s_fs S q) (s_sp S q) (s_kd S q) (s_co S q) i) l = mt S p q i l := fun l _ => mt_and S p q i l
    rw [dg_congr e]
    refine pJ13_dk (fun l _ => ?_) ?_
    · unfold mt; split
      · omega
      · split <;> omega
    intro v1 e1 w1 f1
    rw [nI_add] at e1
    rw [nI_1] at f1
    refine ih _ _ ⟨i + 1, by omega, f1, e1⟩ ?_
    rw [f1, nI_clamp (by omega), nI_clamp (by omega)]
    omega
theorem tM_meets {T : Nat} {S : AS} {m wr : Nat → Int32} {p q a l : Nat} {k : Int32 → Prop} (hS : okS T S) (hM : repM S m wr) (hp : p < s_cnt S) (hq : q < s_cnt S) (hp2 : s_kd S p ≠ 2) (hq2 : s_kd S q ≠ 2) (ha : a < 720) (hl : l < 12) (h : k (nI (mt S p q a l))) : PX5_meets m (nI p) (nI q) (nI a) (nI l) k := by
  have hcnt := hS.1
  obtain ⟨a1, a2, a3, a4, a5, a6, a7⟩ := okQ_of hS hp
  obtain ⟨b1, b2, b3, b4, b5, b6, b7⟩ := okQ_of hS hq
  have nn : ∀ {c : Nat}, c < 40 → ¬ nI c = (-109 : Int32) := fun hc e => by
    have h1 := i_nI (n := _) (show _ < 2 ^ 31 by exact Nat.lt_trans hc (by decide))
    rw [e] at h1
    have : (-109 : Int32).toInt = -109 := by decide
    omega
  unfold mt pwS pw at h
  rw [if_neg hp2, if_neg hq2] at h
  unfold PX5_meets
  have h8 : ∀ {x : Nat}, x < 8 → (nI x = 0 ↔ x = 0) := fun hx => nI_eq (b := 0) (by omega) (by omega)
  refine tM_columnOf (by omega) (mP_of hM hp) a1 a2 a3 a4 a5 ha a6 (fun y => ?_) (fun y => ?_)
  · have y1 := (clN_lt (kd := s_kd S p) y).1
    rw [if_pos y] at h
    refine tM_columnOf (by omega) (mP_of hM hq) b1 b2 b3 b4 b5 ha b6 (fun z => ?_) (fun z => ?_)
    · have z1 := (clN_lt (kd := s_kd S q) z).1
      rw [if_pos z] at h
      refine ⟨fun e => absurd e (nn (by omega)), fun _ => ⟨fun e => absurd e (nn (by omega)), fun _ => ?_⟩⟩
      refine tM_colorOf (by omega) (mP_of hM hp) a7 (by omega) hl ⟨fun e => ?_, fun e => ?_⟩ <;> rw [h8 (a7 _ _ (by omega) hl)] at e
      · rw [if_pos e] at h
        exact h
      · rw [if_neg e] at h
        refine tM_colorOf (by omega) (mP_of hM hq) b7 (by omega) hl ⟨fun e2 => ?_, fun e2 => ?_⟩ <;> rw [h8 (b7 _ _ (by omega) hl)] at e2
        · rw [if_pos e2] at h
          exact h
        · rw [if_neg e2] at h
          exact h
    · rw [if_neg z] at h
      refine ⟨fun e => absurd e (nn (by omega)), fun _ => ⟨fun _ => ?_, fun e => absurd rfl e⟩⟩
      rw [if_pos rfl] at h
      split at h <;> exact h
  · rw [if_neg y, if_pos rfl] at h
    refine tM_columnOf (by omega) (mP_of hM hq) b1 b2 b3 b4 b5 ha b6 (fun z => ⟨fun _ => h, fun e => absurd rfl e⟩) (fun z => ⟨fun _ => h, fun e => absurd rfl e⟩)
theorem tM_meet1 {T : Nat} {S : AS} {m wr : Nat → Int32} {p q : Nat} {k : Int32 → Prop} (hS : okS T S) (hM : repM S m wr) (hp : p < s_cnt S) (hq : q < s_cnt S) (hp2 : s_kd S p ≠ 2) (hq2 : s_kd S q ≠ 2) (h : k (nI (sg 720 (fun a => sm 12 (mt S p q a))))) : PX5_meetings_J2 m (nI p) (nI q) k (1 : Int32) := by
  have hs : sg 720 (fun a => sm 12 (mt S p q a)) = sg 8640 (fun i => mt S p q (i / 12) (i % 12)) := by
    rw [show (8640 : Nat) = 12 * 720 from rfl, sg12]
    refine sg_congr fun c hc => sm_congr fun l hl => ?_
    rw [show (12 * c + l) / 12 = c by omega, show (12 * c + l) % 12 = l by omega]
  rw [hs] at h
  unfold PX5_meetings_J2
  refine lp2 (PX5_meetings_L3 m (nI p) (nI q) (1 : Int32) _) (fun v w => ∃ i, i ≤ 8640 ∧ w = nI i ∧ v = nI (sg i (fun i => mt S p q (i / 12) (i % 12)))) (fun _ w => 8640 - w.toNatClampNeg) ?_ _ _ ⟨0, by omega, rfl, rfl⟩
  rintro f v w ⟨i, hi, ew, ev⟩ ih
  subst ew ev
  unfold PX5_meetings_L3
  refine ⟨fun c => ?_, fun c => ⟨fun e => absurd e (by decide), fun _ => ?_⟩⟩ <;> rw [show (8640 : Int32) = nI 8640 from rfl, nI_leI (by omega) (by omega)] at c
  · obtain rfl : i = 8640 := by omega
    exact h
  · have nxt : ∀ d : Nat, d = mt S p q (i / 12) (i % 12) → ∀ v1 : Int32, v1 = nI (sg i (fun i => mt S p q (i / 12) (i % 12))) + nI d → ∀ w1 : Int32, w1 = nI i + (1 : Int32) → PX5_meetings_L3 m (nI p) (nI q) 1 (fun v2_1 v3_2 => k v2_1) f v1 w1 := by
      intro d hd v1 e1 w1 f1
      rw [nI_add] at e1
      rw [nI_1] at f1
      refine ih _ _ ⟨i + 1, by omega, f1, by rw [e1, hd]; rfl⟩ ?_
      rw [f1, nI_clamp (by omega), nI_clamp (by omega)]
      omega
    rw [show (12 : Int32) = nI 12 from rfl, pk_rem (by omega) (by omega) (by omega), pk_div (by omega) (by omega) (by omega)]
    have hm1 : mt S p q (i / 12) (i % 12) ≤ 1 := by
      unfold mt; split
      · omega
      · split <;> omega
    refine tM_meets hS hM hp hq hp2 hq2 (by omega) (Nat.mod_lt _ (by decide)) ⟨fun c2 => nxt 0 ?_, fun c2 => nxt 1 ?_⟩ <;> rw [show (0 : Int32) = nI 0 from rfl, nI_eq (by omega) (by omega)] at c2 <;> omega
theorem sg_zero {f : Nat → Nat} : ∀ {n : Nat}, (∀ i, i < n → f i = 0) → sg n f = 0
  | 0, _ => rfl
  | n + 1, h => by
    show sg n f + f n = 0
    rw [sg_zero (n := n) fun i hi => h i (by omega), h n (by omega)]
theorem tM_meet0 {S : AS} {m : Nat → Int32} {p q : Nat} {k : Int32 → Prop} (hz : s_kd S p = 2 ∨ s_kd S q = 2) (h : k (nI (sg 720 (fun a => sm 12 (mt S p q a))))) : PX5_meetings_J2 m (nI p) (nI q) k (0 : Int32) := by
  have hs : sg 720 (fun a => sm 12 (mt S p q a)) = 0 := by
    refine sg_zero fun a ha => ?_
    have : ∀ l, l < 12 → mt S p q a l ≤ 0 := fun l hl => by
      unfold mt pwS pw
      rcases hz with z | z
      · simp [z]
      · simp [z]
    have := sm_le (b := 0) this
    omega
  rw [hs] at h
  refine ⟨1, ?_⟩
  unfold PX5_meetings_L3
  exact ⟨fun _ => h, fun _ => ⟨fun _ => h, fun e => absurd rfl e⟩⟩
theorem sim_meetings : SIM_meetings RR := by
  intro l_oldest l_historySize l_text l_textLength n_pictureCount n_angle n_speed n_ticks n_load n_secondArm n_settings n_working n_written n_writtenIn n_width n_first n_step n_kind n_columns hist b_m b_written b_states b_fifth b_oldest b_stateCount b_text b_textLength a_1 a_2 hR
  obtain ⟨S, o, n, h, tl, tx, hS, hC, hM, hO, hHC, hHM, e1, e2, e3, e4, hT⟩ := id hR
  have hcnt := hS.1
  have hpc := hC.1
  subst hpc
  unfold PX4_meetings PX5_meetings PX4_meetings_J1 PX4_meetings_J2 PX4_meetings_J3 PX4_meetings_J4 PX5_meetings_J1
  refine pick4p hcnt (fun p hp ep => ⟨fun c => absurd c (by simp), fun j hj ej => ?_⟩) (fun c => ⟨fun _ => ?_, fun j _ ej => absurd ej (by simp)⟩)
  · obtain rfl : p = j := by simpa using ej
    subst ep
    refine pick4p hcnt (fun q hq eq => ⟨fun c => absurd c (by simp), fun j2 hj2 ej2 => ?_⟩) (fun c => ⟨fun _ => ?_, fun j _ ej => absurd ej (by simp)⟩)
    · obtain rfl : q = j2 := by simpa using ej2
      subst eq
      refine ⟨fun ne => tC_meet hS hC hp hq ?_, fun e => ?_⟩
      · refine yes5p hM.1 hcnt hp ⟨fun c => absurd c (by decide), fun _ => ?_⟩
        refine yes5p hM.1 hcnt hq ⟨fun c => absurd c (by decide), fun _ => ⟨fun _ => ?_, fun e => absurd e ne⟩⟩
        have kp := (okQ_of hS hp).2.2.2.2.2.1
        have kq := (okQ_of hS hq).2.2.2.2.2.1
        refine tM_of3 (by omega) ?_
        rw [(mP_of hM hp).2.2.2.1]
        refine ⟨fun c => ?_, fun c => ?_⟩
        · exact tM_meet0 (Or.inl ((k_eq kp (c := 2) (by omega)).mp c)) ⟨rfl, hR⟩
        · refine tM_of3 (by omega) ?_
          rw [(mP_of hM hq).2.2.2.1]
          refine ⟨fun c2 => ?_, fun c2 => ?_⟩
          · exact tM_meet0 (Or.inr ((k_eq kq (c := 2) (by omega)).mp c2)) ⟨rfl, hR⟩
          · exact tM_meet1 hS hM hp hq (fun z => c ((k_eq kp (c := 2) (by omega)).mpr z)) (fun z => c2 ((k_eq kq (c := 2) (by omega)).mpr z)) ⟨rfl, hR⟩
      · refine yes5p hM.1 hcnt hp ⟨fun c => absurd c (by decide), fun _ => ?_⟩
        exact yes5p hM.1 hcnt hq ⟨fun c => absurd c (by decide), fun _ => ⟨fun ne => absurd e ne, fun _ => ⟨rfl, hR⟩⟩⟩
    · refine yes5p hM.1 hcnt hp ⟨fun c => absurd c (by decide), fun _ => ?_⟩
      exact no5p hM.1 hcnt c ⟨fun _ => ⟨rfl, hR⟩, fun q => absurd rfl q⟩
  · have fin : PX5_isPicture b_m a_1 (fun r2_1 => ((r2_1 = 0 → ((-101 : Int32) = (-101 : Int32) ∧ RR l_oldest l_historySize l_text l_textLength (nI (s_cnt S)) n_angle n_speed n_ticks n_load n_secondArm n_settings n_working n_written n_writtenIn n_width n_first n_step n_kind n_columns hist b_m b_written b_states b_fifth b_oldest b_stateCount b_text b_textLength)) ∧ (¬ r2_1 = 0 → False))) := no5p hM.1 hcnt c ⟨fun _ => ⟨rfl, hR⟩, fun q => absurd rfl q⟩
    refine pick4p hcnt (fun q hq eq => ⟨fun c => absurd c (by simp), fun j2 hj2 ej2 => ?_⟩) (fun c2 => ⟨fun _ => ?_, fun j _ ej => absurd ej (by simp)⟩)
    · exact no5p hM.1 hcnt c ⟨fun _ => ⟨rfl, hR⟩, fun q => absurd rfl q⟩
    · exact no5p hM.1 hcnt c ⟨fun _ => ⟨rfl, hR⟩, fun q => absurd rfl q⟩
