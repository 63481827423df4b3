def gN (S : AS) : Nat := (s_stg S 3).toNat
theorem gN_C {S : AS} {n_settings : Nat → Int32} (hG : okG (s_stg S)) (h : rcG (s_stg S) n_settings) : n_settings 3 = nI (gN S) := by
  have := hG.2.2.2
  exact i_of (by rw [h 3 (by omega)]; unfold gN; omega)
theorem gN_M {S : AS} {m : Nat → Int32} (hG : okG (s_stg S)) (h : ∀ j, j < 4 → (m j).toInt = s_stg S j) : m 3 = nI (gN S) := by
  have := hG.2.2.2
  exact i_of (by rw [h 3 (by omega)]; unfold gN; omega)
theorem gN_lt {S : AS} (hG : okG (s_stg S)) : 1 ≤ gN S ∧ gN S ≤ 99 := by
  have := hG.2.2.2
  unfold gN
  omega
/-- the lit colors of an angle -/
def litS (S : AS) (x a l : Nat) : Nat := gl (s_tck S + x) (gN S) (s_wi S a l) (s_wc S a l)
theorem litS_lt {T : Nat} {S : AS} {x a l : Nat} (hS : okS T S) (ha : a < 720) (hl : l < 12) : litS S x a l < 8 := by
  obtain ⟨-, -, -, -, -, -, -, ⟨-, -, h, -⟩⟩ := hS
  exact gl_lt (h a l ha hl)
theorem tC_lit {T : Nat} {S : AS} {x a : Nat} {n_pictureCount n_angle n_speed n_ticks n_load n_secondArm : Int32} {n_settings : Nat → Int32} {n_working n_written : Nat → Int64} {n_writtenIn n_width n_first n_step n_kind : Nat → Int32} {n_columns : Nat → Nat → Int64} {k : Int64 → Prop} (hT : T < 10000) (hS : okS T S) (hC : repC S n_pictureCount n_angle n_speed n_ticks n_load n_secondArm n_settings n_working n_written n_writtenIn n_width n_first n_step n_kind n_columns) (hx : x < 1000) (ha : a < 720) (h : k (lN (dg 8 12 (litS S x a)))) : PX2_litAt n_ticks n_settings n_written n_writtenIn (nI a) (nI x) k := by
  obtain ⟨-, -, -, c4, -, -, cG, cW, -⟩ := hC
  obtain ⟨-, -, -, -, -, kG, -, ⟨k1, -, k3, k4⟩⟩ := hS
  rw [c4]
  have hg := gN_lt kG
  exact tC_litAt cW k3 (fun a l ha hl => by have := k4 a l ha hl; omega) (by omega) (by omega) (by omega) (gN_C kG cG) ha h
theorem tM_litS {T : Nat} {S : AS} {m wr : Nat → Int32} {a l : Nat} {k : Int32 → Prop} (hT : T < 10000) (hS : okS T S) (hM : repM S m wr) (ha : a < 720) (hl : l < 12) (h : k (nI (litS S 0 a l))) : PX5_lit m wr (nI (12 * a + l)) k := by
  obtain ⟨-, -, -, m6, -, -, mG, mW, -⟩ := hM
  obtain ⟨-, -, -, -, -, kG, -, ⟨k1, -, k3, k4⟩⟩ := hS
  have hg := gN_lt kG
  exact tM_lit mW k3 k4 (by omega) (by omega) m6 (gN_M kG mG) ha hl h
theorem pl12m (a l : Nat) : (((12 : Int32) * nI a) + nI l) = nI (12 * a + l) := by
  rw [show (12 : Int32) = nI 12 from rfl, pk_mul, nI_add]
theorem sim_place : SIM_place RR := by
  intro l_oldest l_historySize l_text l_textLength n_pictureCount n_angle n_speed n_ticks n_load n_secondArm n_settings n_working n_written n_writtenIn n_width n_first n_step n_kind n_columns hist b_m b_written b_states b_fifth b_oldest b_stateCount b_text b_textLength a_1 a_2 a_3 hR
  obtain ⟨S, o, n, h, tl, tx, hS, hC, hM, hO, hHC, hHM, e1, e2, e3, e4, hT⟩ := id hR
  unfold PX4_place PX5_place
  refine pick4 (L := 0) (H := 719) (by decide) (by decide) (fun x _ hx ex => ⟨fun c => absurd c (by decide), fun _ => ?_⟩) (fun c => ⟨fun _ => ?_, fun q => absurd rfl q⟩)
  · subst ex
    have hx7 : x < 720 := by omega
    refine pick4 (L := 0) (H := 11) (by decide) (by decide) (fun y _ hy ey => ⟨fun _ => ?_, fun c => absurd c (by decide)⟩) (fun c => ⟨fun q => absurd rfl q, fun _ => ?_⟩)
    · subst ey
      have hy12 : y < 12 := by omega
      have start : ∀ {z : Nat} {k : Int32 → Prop}, z ≤ 2 → a_3 = nI z → k 1 → PX5_in a_3 0 2 k := fun hz ez hk => by rw [ez]; exact yes5 (L := 0) (H := 2) (by decide) (by decide) (by omega) hz hk
      have hC' := id hC
      obtain ⟨c1, -, -, c4, -, -, -, cW, cP⟩ := hC'
      subst c4
      have hM' := id hM
      obtain ⟨m1, -, -, m6, -, -, -, mW, mP⟩ := hM'
      have hS' := id hS
      obtain ⟨-, -, -, -, -, -, -, ⟨k1, -, k3, k4⟩⟩ := hS'
      refine ⟨fun c => ?_, fun ez => ?_, fun ez => ?_, fun ez => ?_⟩
      · refine yes5 (L := 0) (H := 719) (by decide) (by decide) (by omega) hx ⟨fun c => absurd c (by decide), fun _ => ?_⟩
        refine yes5l hy ⟨fun c => absurd c (by decide), fun _ => ?_⟩
        exact no5 (A := 0) (B := 2) (by decide) (by decide) (by omega) ⟨fun q => absurd rfl q, fun _ => ⟨rfl, hR⟩⟩
      · refine tC_wantedAt hS c1 cP hx7 (pX4_colorIn (fun l hl => want_lt hS hl) hy12 ?_)
        refine yes5 (L := 0) (H := 719) (by decide) (by decide) (by omega) hx ⟨fun c => absurd c (by decide), fun _ => ?_⟩
        refine yes5l hy ⟨fun c => absurd c (by decide), fun _ => ?_⟩
        refine start (z := 0) (by omega) ez ⟨fun _ v ev => ⟨fun c => absurd ez c, fun _ => ?_⟩, fun c => absurd c (by decide)⟩
        exact tM_wanted hS m1 mP hx7 hy12 ⟨rfl, hR⟩
      · refine tC_lit (x := 0) (by decide) hS hC (by omega) hx7 (pX4_colorIn (fun l hl => litS_lt hS hx7 hl) hy12 ?_)
        refine yes5 (L := 0) (H := 719) (by decide) (by decide) (by omega) hx ⟨fun c => absurd c (by decide), fun _ => ?_⟩
        refine yes5l hy ⟨fun c => absurd c (by decide), fun _ => ?_⟩
        refine start (z := 1) (by omega) ez ⟨fun _ v ev => ⟨fun _ => ⟨fun c => absurd ez c, fun _ => ?_⟩, fun c => by rw [ez] at c; exact absurd c (by decide)⟩, fun c => absurd c (by decide)⟩
        rw [ev, pl12m]
        exact tM_litS (by decide) hS hM hx7 hy12 ⟨rfl, hR⟩
      · have key : ∀ r : Int32, (s_wi S x y ≠ 0 → r = nI (s_tck S - s_wi S x y)) → (s_wi S x y = 0 → r = -109) → PX5_in (nI x) (0 : Int32) (719 : Int32) (fun r5_1 => ((r5_1 = 0 → (r = (-101 : Int32) ∧ RR l_oldest l_historySize l_text l_textLength n_pictureCount n_angle n_speed (nI (s_tck S)) n_load n_secondArm n_settings n_working n_written n_writtenIn n_width n_first n_step n_kind n_columns hist b_m b_written b_states b_fifth b_oldest b_stateCount b_text b_textLength)) ∧ (¬ r5_1 = 0 → PX5_isLight (nI y) (fun r12_3 => ((r12_3 = 0 → (r = (-101 : Int32) ∧ RR l_oldest l_historySize l_text l_textLength n_pictureCount n_angle n_speed (nI (s_tck S)) n_load n_secondArm n_settings n_working n_written n_writtenIn n_width n_first n_step n_kind n_columns hist b_m b_written b_states b_fifth b_oldest b_stateCount b_text b_textLength)) ∧ (¬ r12_3 = 0 → PX5_in a_3 (0 : Int32) (2 : Int32) (fun r21_5 => ((¬ r21_5 = 0 → (∀ v4_7 : Int32, v4_7 = (((12 : Int32) * (nI x)) + (nI y)) → ((¬ a_3 = 0 → ((¬ a_3 = (1 : Int32) → PX5_ago b_m b_written v4_7 (fun r68_10 => (r = r68_10 ∧ RR l_oldest l_historySize l_text l_textLength n_pictureCount n_angle n_speed (nI (s_tck S)) n_load n_secondArm n_settings n_working n_written n_writtenIn n_width n_first n_step n_kind n_columns hist b_m b_written b_states b_fifth b_oldest b_stateCount b_text b_textLength))) ∧ (a_3 = (1 : Int32) → PX5_lit b_m b_written v4_7 (fun r59_11 => (r = r59_11 ∧ RR l_oldest l_historySize l_text l_textLength n_pictureCount n_angle n_speed (nI (s_tck S)) n_load n_secondArm n_settings n_working n_written n_writtenIn n_width n_first n_step n_kind n_columns hist b_m b_written b_states b_fifth b_oldest b_stateCount b_text b_textLength))))) ∧ (a_3 = 0 → PX5_wanted b_m (nI x) (nI y) (fun r45_12 => (r = r45_12 ∧ RR l_oldest l_historySize l_text l_textLength n_pictureCount n_angle n_speed (nI (s_tck S)) n_load n_secondArm n_settings n_working n_written n_writtenIn n_width n_first n_step n_kind n_columns hist b_m b_written b_states b_fifth b_oldest b_stateCount b_text b_textLength)))))) ∧ (r21_5 = 0 → (r = (-101 : Int32) ∧ RR l_oldest l_historySize l_text l_textLength n_pictureCount n_angle n_speed (nI (s_tck S)) n_load n_secondArm n_settings n_working n_written n_writtenIn n_width n_first n_step n_kind n_columns hist b_m b_written b_states b_fifth b_oldest b_stateCount b_text b_textLength)))))))))) := by
          intro r r1 r2
          refine yes5 (L := 0) (H := 719) (by decide) (by decide) (by omega) hx ⟨fun c => absurd c (by decide), fun _ => ?_⟩
          refine yes5l hy ⟨fun c => absurd c (by decide), fun _ => ?_⟩
          refine start (z := 2) (by omega) ez ⟨fun _ v ev => ⟨fun _ => ⟨fun _ => ?_, fun c => by rw [ez] at c; exact absurd c (by decide)⟩, fun c => by rw [ez] at c; exact absurd c (by decide)⟩, fun c => absurd c (by decide)⟩
          rw [ev, pl12m]
          exact tM_ago mW k3 k4 (by omega) m6 hx7 hy12 (fun w => ⟨r1 w, hR⟩) (fun w => ⟨r2 w, hR⟩)
        have h4 := k4 x y hx7 hy12
        unfold PX4_ticksSinceWritten
        rw [pl12, nI_clamp (by omega)]
        refine ⟨vp_in_nI (by omega) (by decide), fun v ev => ?_⟩
        rw [cW.2.2 x y hx7 hy12] at ev
        subst ev
        have hz : nI (s_wi S x y) = 0 ↔ s_wi S x y = 0 := nI_eq (b := 0) (by omega) (by omega)
        refine ⟨fun c => key _ (fun _ => pk_sub h4) (fun w => absurd (hz.mpr w) c), fun c => key _ (fun w => absurd (hz.mp c) w) (fun _ => rfl)⟩
    · refine yes5 (L := 0) (H := 719) (by decide) (by decide) (by omega) hx ⟨fun c => absurd c (by decide), fun _ => ?_⟩
      exact no5l c ⟨fun _ => ⟨rfl, hR⟩, fun q => absurd rfl q⟩
  · exact no5 (A := 0) (B := 719) (by decide) (by decide) c ⟨fun _ => ⟨rfl, hR⟩, fun q => absurd rfl q⟩
