theorem repM_congr {S : AS} {m wr m' wr' : Nat → Int32} (hc : s_cnt S ≤ 4) (h1 : ∀ k, k < 348 → m' k = m k) (h2 : ∀ k, k < 8640 → wr' k = wr k) (h : repM S m wr) : repM S m' wr' := by
  obtain ⟨a1, a2, a3, a4, a5, a6, a7, ⟨a8, a9⟩, a10⟩ := h
  refine ⟨by rw [h1 _ (by decide)]; exact a1, by rw [h1 _ (by decide)]; exact a2, by rw [h1 _ (by decide)]; exact a3, by rw [h1 _ (by decide)]; exact a4, by rw [h1 _ (by decide)]; exact a5, by rw [h1 _ (by decide)]; exact a6, fun j hj => by rw [h1 _ (by omega)]; exact a7 j hj, ⟨fun a ha => by rw [h1 _ (by omega)]; exact a8 a ha, fun a l ha hl => by rw [h2 _ (by omega)]; exact a9 a l ha hl⟩, fun p hp => ?_⟩
  obtain ⟨b1, b2, b3, b4, b5⟩ := a10 p hp
  exact ⟨by rw [h1 _ (by omega)]; exact b1, by rw [h1 _ (by omega)]; exact b2, by rw [h1 _ (by omega)]; exact b3, by rw [h1 _ (by omega)]; exact b4, fun c h hc hh => by rw [h1 _ (by omega)]; exact b5 c h hc hh⟩
theorem wN_lt {T tck wi wc : Nat} (h1 : wi ≤ tck) (h2 : tck ≤ T) (hc : wc < 8) (hT : T ≤ 6000) : wN wi wc < 65536 := by
  unfold wN
  split <;> omega
theorem wr_small {T : Nat} {S : AS} {m wr : Nat → Int32} (hT : T ≤ 6000) (hS : okS T S) (h : repM S m wr) (k : Nat) (hk : k < 8640) : ∃ w, w < 65536 ∧ wr k = nI w := by
  obtain ⟨-, -, -, -, -, -, -, ⟨-, a9⟩, -⟩ := h
  obtain ⟨-, -, -, -, -, -, -, ⟨t1, -, t3, t4⟩⟩ := hS
  have e := a9 (k / 12) (k % 12) (by omega) (by omega)
  rw [show 12 * (k / 12) + k % 12 = k by omega] at e
  exact ⟨_, wN_lt (t4 _ _ (by omega) (by omega)) t1 (t3 _ _ (by omega) (by omega)) hT, e⟩
theorem pack_lo {a b : Nat} (ha : a < 65536) (hb : b < 65536) : (nI a ||| (nI b <<< ((16 : Int32) &&& 31))) &&& (65535 : Int32) = nI a ∧ (((nI a ||| (nI b <<< ((16 : Int32) &&& 31))).toUInt32 >>> ((16 : Int32).toUInt32 &&& Int32.toUInt32 31)).toInt32) = nI b := by
  have e1 : nI b <<< ((16 : Int32) &&& 31) = nI (b * 2 ^ 16) := pk_shlN _ 16 (by decide) (by omega)
  have e2 : nI a ||| nI (b * 2 ^ 16) = nI (2 ^ 16 * b + a) := by
    rw [Int32.or_comm, Nat.mul_comm b]
    exact fa_or_sum b ha
  rw [e1, e2, pk_andN (by omega) 16 (by decide), pk_ushrN (by omega) _ 16 (by decide)]
  refine ⟨by congr 1; omega, by congr 1; omega⟩
theorem tM_past {st fi : Nat → Int32} {s k0 : Nat} {k : Int32 → Prop} (hs : s < 5) (h0 : k0 < 4668) (hk : k (pst st fi s k0)) : PX5_past st fi (nI s) (nI k0) k := by
  have h4 : (4 : Int32).toInt = 4 := by decide
  have hsI : (nI s).toInt = (s : Int) := i_nI (by omega)
  unfold PX5_past
  unfold pst at hk
  refine ⟨fun c => ?_, fun c => ?_⟩ <;> rw [i_le h4 hsI] at c
  · refine ⟨vp_in_nI h0 (by decide), ?_⟩
    rw [nI_clamp (by omega)]
    rwa [if_neg (by omega)] at hk
  · rw [cc5 s hs k0 h0]
    refine ⟨vp_in_nI (by omega) (by decide), ?_⟩
    rw [nI_clamp (by omega)]
    rwa [if_pos (by omega)] at hk
theorem tM_undo {m wr st fi : Nat → Int32} {b_oldest b_stateCount : Int32} {k : Int32 → (Nat → Int32) → (Nat → Int32) → Int32 → Prop} {o n : Nat} {h : Nat → AS} (hO : HO o (n + 1) h) (hH : HM o (n + 1) h st fi) (e1 : b_oldest = nI o) (e3 : b_stateCount = nI (n + 1))
    (hk : ∀ m' wr', repM (h n) m' wr' → k (nI n) m' wr' (nI n)) : PX5_undo m wr st fi b_oldest b_stateCount k := by
  obtain ⟨h1, h2, h3⟩ := hO
  subst e1; subst e3
  have h0 : (0 : Int32).toInt = 0 := by decide
  have h348 : (348 : Int32).toInt = 348 := by decide
  have h8640 : (8640 : Int32).toInt = 8640 := by decide
  have hn : (nI (n + 1)).toInt = ((n + 1 : Nat) : Int) := i_nI (by omega)
  obtain ⟨m1, wr1, r1, r2⟩ := hH n (by omega)
  have hok := h3 n (by omega)
  unfold PX5_undo
  refine ⟨fun _ => ?_, fun c => by rw [i_eq hn h0] at c; omega⟩
  intro s' es
  have es' : s' = nI n := by rw [es]; exact nI_pred n
  subst es'
  intro v ev
  rw [rem5 o n (by omega) (by omega)] at ev
  generalize hs : (o + n) % 5 = s at ev r2
  have hs5 : s < 5 := by omega
  subst ev
  refine lp2 (PX5_undo_L1 st fi (nI s) _) (fun v m' => ∃ i, i ≤ 348 ∧ v = nI i ∧ ∀ k, k < i → m' k = m1 k) (fun v _ => 348 - v.toNatClampNeg) ?_ _ _ ⟨0, by omega, rfl, fun k hk => by omega⟩
  rintro f v m2 ⟨i, hi, ev, hJ⟩ ih
  subst ev
  have hiI : (nI i).toInt = (i : Int) := i_nI (by omega)
  unfold PX5_undo_L1
  refine ⟨fun c => ?_, fun c => ?_⟩ <;> rw [i_le h348 hiI] at c
  · have e348 : i = 348 := by omega
    subst e348
    refine lp2 (PX5_undo_L2 st fi (nI s) _) (fun v w' => ∃ j, j ≤ 4320 ∧ v = nI (2 * j) ∧ ∀ k, k < 2 * j → w' k = wr1 k) (fun v _ => 8640 - v.toNatClampNeg) ?_ _ _ ⟨0, by omega, rfl, fun k hk => by omega⟩
    rintro f2 v2 w2 ⟨j, hj, ev2, hJ2⟩ ih2
    subst ev2
    have hjI : (nI (2 * j)).toInt = ((2 * j : Nat) : Int) := i_nI (by omega)
    unfold PX5_undo_L2
    refine ⟨fun c2 => ?_, fun c2 => ?_⟩ <;> rw [i_le h8640 hjI] at c2
    · have ej : j = 4320 := by omega
      subst ej
      exact hk _ _ (repM_congr hok.1 hJ hJ2 r1)
    · have ed : (348 : Int32) + nI (2 * j) / (2 : Int32) = nI (348 + j) := by
        have e := pk_div (a := 2 * j) (d := 2) (by omega) (by decide) (by decide)
        rw [show (2 : Int32) = nI 2 from rfl, e, show 2 * j / 2 = j by omega]
        exact nI_add 348 j
      rw [ed]
      refine tM_past hs5 (by omega) ?_
      rw [r2.2 j (by omega)]
      obtain ⟨a, ha, ea⟩ := wr_small (by decide) hok r1 (2 * j) (by omega)
      obtain ⟨b, hb, eb⟩ := wr_small (by decide) hok r1 (2 * j + 1) (by omega)
      rw [ea, eb, (pack_lo ha hb).1, (pack_lo ha hb).2, nI_1]
      refine ⟨vp_in_nI (by omega) (by decide), fun w3 e3 => ⟨vp_in_nI (by omega) (by decide), fun w4 e4 v3 ev3 => ?_⟩⟩
      rw [nI_clamp (by omega)] at e3 e4
      have ev3' : v3 = nI (2 * (j + 1)) := by rw [ev3]; exact nI_add (2 * j) 2
      refine ih2 _ _ ⟨j + 1, by omega, ev3', fun q hq => ?_⟩ ?_
      · rw [e4]
        by_cases z : q = 2 * j + 1
        · rw [z, pk_us, eb]
        · rw [pk_un z, e3]
          by_cases y : q = 2 * j
          · rw [y, pk_us, ea]
          · rw [pk_un y]; exact hJ2 q (by omega)
      · rw [ev3', nI_clamp (by omega), nI_clamp (by omega)]; omega
  · refine tM_past hs5 (by omega) ⟨vp_in_nI (by omega) (by decide), fun m3 e3 v3 ev3 => ?_⟩
    rw [nI_clamp (by omega), r2.1 i (by omega)] at e3
    have ev3' : v3 = nI (i + 1) := by rw [ev3]; exact nI_1 i
    refine ih _ _ ⟨i + 1, by omega, ev3', fun q hq => ?_⟩ ?_
    · rw [e3]
      by_cases z : q = i
      · rw [z, pk_us]
      · rw [pk_un z]; exact hJ q (by omega)
    · rw [ev3', nI_clamp (by omega), nI_clamp (by omega)]; omega
theorem sim_undo : SIM_undo RR := by
  intro l_oldest l_historySize l_text l_textLength n_pictureCount n_angle n_speed n_ticks n_load n_secondArm n_settings n_working n_written n_writtenIn n_width n_first n_step n_kind n_columns hist b_m b_written b_states b_fifth b_oldest b_stateCount b_text b_textLength hR
  obtain ⟨S, o, n, h, tl, tx, hS, hC, hM, hO, hHC, hHM, e1, e2, e3, e4, hT⟩ := id hR
  have h0 : (0 : Int32).toInt = 0 := by decide
  have hn : l_historySize.toInt = (n : Int) := by rw [e3]; exact i_nI (by have := hO.2.1; omega)
  have hn2 : b_stateCount.toInt = (n : Int) := by rw [e4]; exact i_nI (by have := hO.2.1; omega)
  unfold PX4_undo
  refine ⟨fun c => ?_, fun c => ?_⟩ <;> rw [i_eq hn h0] at c
  · obtain ⟨q, rfl⟩ : ∃ q, n = q + 1 := ⟨n - 1, by omega⟩
    intro s' es
    have es' : s' = nI q := by rw [es, e3]; exact nI_pred q
    subst es'
    rw [e1, rem5 o q (by have := hO.1; omega) (by have := hO.2.1; omega)]
    refine ⟨vp_in_nI (Nat.mod_lt _ (by decide)) (by decide), fun j hj ej => ?_⟩
    rw [nI_clamp (by omega)] at ej
    subst ej
    refine tC_copy (h q) (hO.2.2 q (by omega)).1 (hHC q (by omega)) fun z1 z2 z3 z4 z5 z6 z7 z8 z9 z10 z11 z12 z13 z14 z15 hz => ?_
    refine tM_undo hO hHM e2 e4 fun m' wr' hm => ?_
    exact ⟨rfl, h q, o, q, h, tl, tx, hO.2.2 q (by omega), hz, hm, ⟨hO.1, by have := hO.2.1; omega, fun i hi => hO.2.2 i (by omega)⟩, fun i hi => hHC i (by omega), fun i hi => hHM i (by omega), rfl, e2, rfl, rfl, hT⟩
  · unfold PX5_undo
    refine ⟨fun c2 => absurd ((i_eq hn2 h0).mpr c) c2, fun _ => ⟨rfl, hR⟩⟩
