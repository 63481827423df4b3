theorem dk_sum (f : Nat → Nat → Nat) : sg 720 (fun a => sm 12 (dk (f a))) = sg 8640 (fun i => if f (i / 12) (i % 12) = 0 then 0 else 1) := by
  rw [show (8640 : Nat) = 12 * 720 from rfl, sg12]
  refine sg_congr fun c hc => sm_congr fun l hl => ?_
  show dk (f c) l = if f ((12 * c + l) / 12) ((12 * c + l) % 12) = 0 then 0 else 1
  rw [show (12 * c + l) / 12 = c by omega, show (12 * c + l) % 12 = l by omega]
  rfl
theorem sg_compl {f g : Nat → Nat} : ∀ {n : Nat}, (∀ i, i < n → f i + g i = 1) → sg n f + sg n g = n
  | 0, _ => rfl
  | n + 1, h => by
    have h1 := sg_compl (n := n) (f := f) (g := g) (fun i hi => h i (by omega))
    have h2 := h n (by omega)
    show sg n f + f n + (sg n g + g n) = n + 1
    omega
theorem xor_0 {a b : Nat} : a ^^^ b = 0 ↔ a = b := by
  constructor
  · intro h
    refine Nat.eq_of_testBit_eq fun i => ?_
    have h1 : (a ^^^ b).testBit i = false := by rw [h]; exact Nat.zero_testBit i
    rw [Nat.testBit_xor] at h1
    cases h2 : a.testBit i <;> cases h3 : b.testBit i <;> rw [h2, h3] at h1 <;> first | rfl | exact absurd h1 (by decide)
  · rintro rfl
    exact Nat.xor_self a
theorem tC_countLit {T : Nat} {S : AS} {n_pictureCount n_angle n_speed n_ticks n_load n_secondArm : Int32} {n_settings : Nat → Int32} {n_working n_written : Nat → Int64} {n_writtenIn n_width n_first n_step n_kind : Nat → Int32} {n_columns : Nat → Nat → Int64} {k : Int32 → Prop} (hT : T < 10000) (hS : okS T S) (hC : repC S n_pictureCount n_angle n_speed n_ticks n_load n_secondArm n_settings n_working n_written n_writtenIn n_width n_first n_step n_kind n_columns) (h : k (nI (sg 720 (fun a => sm 12 (dk (litS S 0 a)))))) : PX4_countLit n_ticks n_settings n_written n_writtenIn k := by
  unfold PX4_countLit
  refine lp2 (PX4_countLit_L1 n_ticks n_settings n_written n_writtenIn _) (fun v w => ∃ i, i ≤ 720 ∧ w = nI i ∧ v = nI (sg i (fun a => sm 12 (dk (litS S 0 a))))) (fun _ w => 720 - w.toNatClampNeg) ?_ _ _ ⟨0, by omega, rfl, rfl⟩
  rintro f v w ⟨i, hi, ew, ev⟩ ih
  subst ew ev
  unfold PX4_countLit_L1
  refine ⟨fun c => ?_, fun c => ?_⟩ <;> rw [show (720 : Int32) = nI 720 from rfl, nI_leI (by omega) (by omega)] at c
  · obtain rfl : i = 720 := by omega
    exact h
  · refine tC_lit (x := 0) hT hS hC (by omega) (by omega) ?_
    refine pX4_notDark (fun l hl => litS_lt hS (by omega) hl) (pJ13_dk (fun l _ => dk_le _ l) ?_)
    intro v1 e1 w1 f1
    rw [nI_add] at e1
    rw [nI_1] at f1
    refine ih _ _ ⟨i + 1, by omega, f1, e1⟩ ?_
    rw [f1, nI_clamp (by omega), nI_clamp (by omega)]
    omega
theorem tC_countNot {T : Nat} {S : AS} {n_pictureCount n_angle n_speed n_ticks n_load n_secondArm : Int32} {n_settings : Nat → Int32} {n_working n_written : Nat → Int64} {n_writtenIn n_width n_first n_step n_kind : Nat → Int32} {n_columns : Nat → Nat → Int64} {k : Int32 → Prop} (hT : T < 10000) (hS : okS T S) (hC : repC S n_pictureCount n_angle n_speed n_ticks n_load n_secondArm n_settings n_working n_written n_writtenIn n_width n_first n_step n_kind n_columns) (h : k (nI (sg 720 (fun a => sm 12 (dk (fun l => litS S 0 a l ^^^ wantS S a l)))))) : PX4_countNotAsWanted n_pictureCount n_ticks n_settings n_written n_writtenIn n_width n_first n_step n_kind n_columns k := by
  unfold PX4_countNotAsWanted
  refine lp2 (PX4_countNotAsWanted_L1 n_pictureCount n_ticks n_settings n_written n_writtenIn n_width n_first n_step n_kind n_columns _) (fun v w => ∃ i, i ≤ 720 ∧ w = nI i ∧ v = nI (sg i (fun a => sm 12 (dk (fun l => litS S 0 a l ^^^ wantS S a l))))) (fun _ w => 720 - w.toNatClampNeg) ?_ _ _ ⟨0, by omega, rfl, rfl⟩
  rintro f v w ⟨i, hi, ew, ev⟩ ih
  subst ew ev
  unfold PX4_countNotAsWanted_L1
  refine ⟨fun c => ?_, fun c => ?_⟩ <;> rw [show (720 : Int32) = nI 720 from rfl, nI_leI (by omega) (by omega)] at c
  · obtain rfl : i = 720 := by omega
    exact h
  · have hi7 : i < 720 := by omega
    have d1 : ∀ l, l < 12 → litS S 0 i l < 8 := fun l hl => litS_lt hS hi7 hl
    have d2 : ∀ l, l < 12 → wantS S i l < 8 := fun l hl => want_lt hS hl
    have hC' := id hC
    obtain ⟨c1, -, -, -, -, -, -, -, cP⟩ := hC'
    refine tC_lit (x := 0) hT hS hC (by omega) hi7 (tC_wantedAt hS c1 cP hi7 ?_)
    rw [l_xorD d1 d2]
    refine pX4_notDark (fun l hl => Nat.xor_lt_two_pow (n := 3) (d1 l hl) (d2 l hl)) (pJ13_dk (fun l _ => dk_le _ l) ?_)
    intro v1 e1 w1 f1
    rw [nI_add] at e1
    rw [nI_1] at f1
    refine ih _ _ ⟨i + 1, by omega, f1, e1⟩ ?_
    rw [f1, nI_clamp (by omega), nI_clamp (by omega)]
    omega
theorem sim_count : SIM_count RR := by
  intro l_oldest l_historySize l_text l_textLength n_pictureCount n_angle n_speed n_ticks n_load n_secondArm n_settings n_working n_written n_writtenIn n_width n_first n_step n_kind n_columns hist b_m b_written b_states b_fifth b_oldest b_stateCount b_text b_textLength b_wants a_1 hR
  obtain ⟨S, o, n, h, tl, tx, hS, hC, hM, hO, hHC, hHM, e1, e2, e3, e4, hT⟩ := id hR
  have hC' := id hC
  obtain ⟨c1, c2, c3, c4, c5, c6, cG, cW, cP⟩ := hC'
  have hM' := id hM
  obtain ⟨m1, m2, m3, m6, m7, m8, mG, mW, mP⟩ := hM'
  have hS' := id hS
  obtain ⟨-, -, -, -, -, kG, -, ⟨k1, -, k3, k4⟩⟩ := hS'
  have hg := gN_lt kG
  unfold PX4_count PX5_count
  have no : ∀ {i j : Nat} {P : Prop}, i < 100 → j < 100 → i ≠ j → nI i = nI j → P := fun hi hj hij e => absurd ((nI_eq (by omega) (by omega)).mp e) hij
  have nn : ∀ {i : Nat} {P : Prop}, i < 10 → ((nI i).toInt < 0 ∨ 9 < (nI i).toInt) → P := fun hi e => by rw [i_nI (by omega)] at e; omega
  have go : ∀ (i : Nat), i < 10 → ∀ (r : Int32) (P : Prop), (a_1 = nI i) → ((i = 0 → r = b_m 11) ∧ (i = 1 → r = b_m 4) ∧ (i = 2 → r = b_m 5) ∧ (i = 3 → r = b_m 6) ∧ (i = 4 → r = b_m 7) ∧ (i = 7 → r = b_m 8) ∧ (i = 8 → r = b_stateCount) ∧ (i = 9 → r = b_textLength) ∧ i ≠ 5 ∧ i ≠ 6) → P → (((a_1.toInt < 0 ∨ 9 < a_1.toInt) → (r = (-101 : Int32) ∧ P)) ∧ (a_1 = (0 : Int32) → (r = (b_m 11) ∧ P)) ∧ (a_1 = (1 : Int32) → (r = (b_m 4) ∧ P)) ∧ (a_1 = (2 : Int32) → (r = (b_m 5) ∧ P)) ∧ (a_1 = (3 : Int32) → (r = (b_m 6) ∧ P)) ∧ (a_1 = (4 : Int32) → (r = (b_m 7) ∧ P)) ∧ (a_1 = (5 : Int32) → PX5_litPlaces b_m b_written b_wants (0 : Int32) (fun r96_2 => (r = r96_2 ∧ P))) ∧ (a_1 = (6 : Int32) → PX5_wrongPlaces b_m b_written b_wants  (fun r101_4 b_wants_3 => (r = r101_4 ∧ P))) ∧ (a_1 = (7 : Int32) → (r = (b_m 8) ∧ P)) ∧ (a_1 = (8 : Int32) → (r = b_stateCount ∧ P)) ∧ (a_1 = (9 : Int32) → (r = b_textLength ∧ P))) := by
    intro i hi r P ei hr hP
    subst ei
    have ie : ∀ {j : Nat}, j < 100 → nI i = nI j → i = j := fun hj e => (nI_eq (by omega) (by omega)).mp e
    exact ⟨fun e => nn hi e, fun e => ⟨hr.1 (ie (j := 0) (by omega) e), hP⟩, fun e => ⟨hr.2.1 (ie (j := 1) (by omega) e), hP⟩, fun e => ⟨hr.2.2.1 (ie (j := 2) (by omega) e), hP⟩, fun e => ⟨hr.2.2.2.1 (ie (j := 3) (by omega) e), hP⟩, fun e => ⟨hr.2.2.2.2.1 (ie (j := 4) (by omega) e), hP⟩, fun e => absurd (ie (j := 5) (by omega) e) hr.2.2.2.2.2.2.2.2.1, fun e => absurd (ie (j := 6) (by omega) e) hr.2.2.2.2.2.2.2.2.2, fun e => ⟨hr.2.2.2.2.2.1 (ie (j := 7) (by omega) e), hP⟩, fun e => ⟨hr.2.2.2.2.2.2.1 (ie (j := 8) (by omega) e), hP⟩, fun e => ⟨hr.2.2.2.2.2.2.2.1 (ie (j := 9) (by omega) e), hP⟩⟩
  refine ⟨fun c => ?_, fun e => go 0 (by omega) _ _ e ?_ hR, fun e => go 1 (by omega) _ _ e ?_ hR, fun e => go 2 (by omega) _ _ e ?_ hR, fun e => go 3 (by omega) _ _ e ?_ hR, fun e => go 4 (by omega) _ _ e ?_ hR, fun e => ?_, fun e => ?_, fun e => go 7 (by omega) _ _ e ?_ hR, fun e => go 8 (by omega) _ _ e ?_ hR, fun e => go 9 (by omega) _ _ e ?_ hR⟩
  · refine ⟨fun _ => ⟨rfl, hR⟩, fun e => ?_, fun e => ?_, fun e => ?_, fun e => ?_, fun e => ?_, fun e => ?_, fun e => ?_, fun e => ?_, fun e => ?_, fun e => ?_⟩ <;> (subst e; exact absurd c (by decide))
  · simp [c1, m1]
  · simp [c2, m2]
  · simp [Int32.toInt_inj.mp (c3.trans m3.symm)]
  · simp [c4, m6]
  · simp [c5, m7]
  · refine tC_countLit (by decide) hS hC ?_
    subst e
    refine ⟨fun e => nn (i := 5) (by omega) e, fun e => absurd e (by decide), fun e => absurd e (by decide), fun e => absurd e (by decide), fun e => absurd e (by decide), fun e => absurd e (by decide), fun _ => ?_, fun e => absurd e (by decide), fun e => absurd e (by decide), fun e => absurd e (by decide), fun e => absurd e (by decide)⟩
    refine tM_litPlaces0 mW k3 k4 (by omega) (by omega) m6 (gN_M kG mG) ⟨congrArg nI ?_, hR⟩
    rw [dk_sum]
    rfl
  · refine tC_countNot (by decide) hS hC ?_
    subst e
    refine ⟨fun e => nn (i := 6) (by omega) e, fun e => absurd e (by decide), fun e => absurd e (by decide), fun e => absurd e (by decide), fun e => absurd e (by decide), fun e => absurd e (by decide), fun e => absurd e (by decide), fun _ => ?_, fun e => absurd e (by decide), fun e => absurd e (by decide), fun e => absurd e (by decide)⟩
    unfold PX5_wrongPlaces
    refine tM_layWants hS m1 mP fun w hw => ?_
    refine tM_litPlaces1 mW k3 k4 (by omega) (by omega) m6 (gN_M kG mG) hw (fun a l _ hl => want_lt hS hl) ⟨?_, hR⟩
    have hle : sg 8640 (fun i => if litN (s_tck S) (gN S) (s_wi S) (s_wc S) i = wantS S (i / 12) (i % 12) then 1 else 0) ≤ 8640 * 1 := sg_le fun i hi => by split <;> omega
    rw [show (8640 : Int32) = nI 8640 from rfl, pk_sub (by omega), dk_sum (fun a l => litS S 0 a l ^^^ wantS S a l)]
    refine congrArg nI ?_
    have hc : sg 8640 (fun i => if litS S 0 (i / 12) (i % 12) ^^^ wantS S (i / 12) (i % 12) = 0 then 0 else 1) + sg 8640 (fun i => if litN (s_tck S) (gN S) (s_wi S) (s_wc S) i = wantS S (i / 12) (i % 12) then 1 else 0) = 8640 := by
      refine sg_compl fun i hi => ?_
      have e0 : litN (s_tck S) (gN S) (s_wi S) (s_wc S) i = litS S 0 (i / 12) (i % 12) := rfl
      rw [e0]
      by_cases z : litS S 0 (i / 12) (i % 12) = wantS S (i / 12) (i % 12)
      · rw [if_pos (xor_0.mpr z), if_pos z]
      · rw [if_neg (fun q => z (xor_0.mp q)), if_neg z]
    omega
  · simp [c6, m8]
  · simp [e3, e4]
  · simp [hT.2.2.2.1, hT.2.2.2.2]
