theorem set_key {x : Nat} {a : Int32} (hx : x < 4) : ∃ lo hi : Int, (tabLO x).toInt = lo ∧ (tabHI x).toInt = hi ∧ (∀ g : Nat → Int, okG g → ∀ y : Int, lo ≤ y → y ≤ hi → okG (nu g x y)) ∧ ∀ k : Int32 → Prop, (lo ≤ a.toInt → a.toInt ≤ hi → k 1) → (¬ (lo ≤ a.toInt ∧ a.toInt ≤ hi) → k 0) → PX5_isSetting (nI x) a k := by
  rcases pk4 hx with rfl | rfl | rfl | rfl
  · refine ⟨(-60), 60, by decide, by decide, fun g hg y y1 y2 => ⟨⟨y1, y2⟩, hg.2⟩, fun k h1 h0 => ?_⟩
    unfold PX5_isSetting
    exact ⟨fun c => absurd c (by decide), fun _ => pX5_in (a := -60) (b := 60) (by decide) (by decide) (fun q1 q2 => ⟨Or.inr rfl, h1 q1 q2⟩) (fun q => ⟨Or.inl rfl, h0 q⟩), fun c => absurd c (by decide), fun c => absurd c (by decide), fun c => absurd c (by decide)⟩
  · refine ⟨1, 20, by decide, by decide, fun g hg y y1 y2 => ⟨hg.1, ⟨y1, y2⟩, hg.2.2⟩, fun k h1 h0 => ?_⟩
    unfold PX5_isSetting
    exact ⟨fun c => absurd c (by decide), fun c => absurd c (by decide), fun _ => pX5_in (a := 1) (b := 20) (by decide) (by decide) (fun q1 q2 => ⟨Or.inr rfl, h1 q1 q2⟩) (fun q => ⟨Or.inl rfl, h0 q⟩), fun c => absurd c (by decide), fun c => absurd c (by decide)⟩
  · refine ⟨1, 9999, by decide, by decide, fun g hg y y1 y2 => ⟨hg.1, hg.2.1, ⟨y1, y2⟩, hg.2.2.2⟩, fun k h1 h0 => ?_⟩
    unfold PX5_isSetting
    exact ⟨fun c => absurd c (by decide), fun c => absurd c (by decide), fun c => absurd c (by decide), fun _ => pX5_in (a := 1) (b := 9999) (by decide) (by decide) (fun q1 q2 => ⟨Or.inr rfl, h1 q1 q2⟩) (fun q => ⟨Or.inl rfl, h0 q⟩), fun c => absurd c (by decide)⟩
  · refine ⟨1, 99, by decide, by decide, fun g hg y y1 y2 => ⟨hg.1, hg.2.1, hg.2.2.1, ⟨y1, y2⟩⟩, fun k h1 h0 => ?_⟩
    unfold PX5_isSetting
    exact ⟨fun c => absurd c (by decide), fun c => absurd c (by decide), fun c => absurd c (by decide), fun c => absurd c (by decide), fun _ => pX5_in (a := 1) (b := 99) (by decide) (by decide) (fun q1 q2 => ⟨Or.inr rfl, h1 q1 q2⟩) (fun q => ⟨Or.inl rfl, h0 q⟩)⟩
theorem sim_set : SIM_set RR := by
  intro l_oldest l_historySize l_text l_textLength n_pictureCount n_angle n_speed n_ticks n_load n_secondArm n_settings n_working n_written n_writtenIn n_width n_first n_step n_kind n_columns hist b_m b_written b_states b_fifth b_oldest b_stateCount b_text b_textLength a_1 a_2 hR
  obtain ⟨S, o, n, h, tl, tx, hS, hC, hM, hO, hHC, hHM, e1, e2, e3, e4, hT⟩ := id hR
  unfold PX4_set PX5_set
  refine pick4 (L := 0) (H := 3) (by decide) (by decide) (fun x _ hx ex => ⟨fun c => absurd c (by decide), fun _ => ⟨?_, ?_, ?_⟩⟩) (fun c => ⟨fun _ => ?_, fun q => absurd rfl q⟩)
  · subst ex; exact vp_in_nI (by omega) (by decide)
  · subst ex; exact vp_in_nI (by omega) (by decide)
  · obtain ⟨lo, hi, hlo, hhi, hok, hset⟩ := set_key (a := a_2) (show x < 4 by omega)
    subst ex
    rw [nI_clamp (by omega)]
    refine pX4_within hlo hhi (fun q1 q2 => ⟨fun _ => ?_, fun c => absurd c (by decide)⟩) (fun c => ⟨fun q => absurd rfl q, fun _ => ?_⟩)
    · refine tC_record hS hC hO hHC e1 e3 fun hist' hH' => ?_
      refine ⟨vp_in_nI (by omega) (by decide), fun v ev => ⟨vp_in_nI (by omega) (by decide), fun ns es => ?_⟩⟩
      refine hset _ (fun _ _ => ⟨fun c => absurd c (by decide), fun _ => ?_⟩) (fun c => absurd ⟨q1, q2⟩ c)
      unfold PX5_put
      refine tM_record hM hO hHM e2 e4 fun st' fi' hM' => ?_
      rw [nI_clamp (by omega)]
      refine ⟨vp_in_nI (by omega) (by decide), fun v2 ev2 => ⟨vp_in_nI (by omega) (by decide), fun m2 em2 => ?_⟩⟩
      obtain ⟨c1, c2, c3, c4, c5, c6, c7, c8⟩ := id hC
      obtain ⟨m1, m2', m3, m4, m5, m6, m7, m8, m9⟩ := id hM
      obtain ⟨k1, k2, k3, k4, k5, k6, k7⟩ := id hS
      refine ⟨Int32.toInt_inj.mp (by rw [ev, ev2, c7 x (by omega), m7 x (by omega)]), (s_cnt S, s_ang S, s_spd S, s_tck S, s_ld S, s_sec S, nu (s_stg S) x a_2.toInt, S.2.2.2.2.2.2.2), po o n, pn n, ph n h S, tl, tx, ⟨k1, k2, k3, k4, k5, hok _ k6 _ q1 q2, k7⟩, ⟨c1, c2, c3, c4, c5, c6, fun j hj => ?_, c8⟩, ?_, HO_push hO hS, hH', hM', rfl, rfl, rfl, rfl, hT⟩
      · subst es
        by_cases z : j = x
        · rw [z, pk_us]; exact nu_s.symm
        · rw [pk_un z]; exact (c7 j hj).trans (nu_n z).symm
      · subst em2
        refine ⟨by rw [pk_un (by omega)]; exact m1, by rw [pk_un (by omega)]; exact m2', by rw [pk_un (by omega)]; exact m3, by rw [pk_un (by omega)]; exact m4, by rw [pk_un (by omega)]; exact m5, by rw [pk_un (by omega)]; exact m6, fun j hj => ?_, rmW_upd (by omega) m8, rmP_upd (by omega) m9⟩
        by_cases z : j = x
        · rw [z, pk_us]; exact nu_s.symm
        · rw [pk_un z]; exact (m7 j hj).trans (nu_n z).symm
    · exact hset _ (fun q1 q2 => absurd ⟨q1, q2⟩ c) (fun _ => ⟨fun _ => ⟨rfl, hR⟩, fun q => absurd rfl q⟩)
  · unfold PX5_isSetting
    refine ⟨fun _ => ⟨fun _ => ⟨rfl, hR⟩, fun q => absurd rfl q⟩, fun e => ?_, fun e => ?_, fun e => ?_, fun e => ?_⟩ <;> (subst e; exact absurd (by decide) c)
