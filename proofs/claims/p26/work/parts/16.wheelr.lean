def PX4_ticksSinceWritten (n_ticks : Int32) (n_writtenIn : Nat → Int32) (a_1 : Int32) (a_2 : Int32) (k : Int32 → Prop) : Prop := (vp_in ((a_1 * (12 : Int32)) + a_2) 8640 ∧ (∀ v3_2 : Int32, v3_2 = (n_writtenIn (Int32.toNatClampNeg ((a_1 * (12 : Int32)) + a_2))) → ((¬ v3_2 = 0 → (k (n_ticks - v3_2))) ∧ (v3_2 = 0 → (k (-109 : Int32))))))
def PX4_setting (n_settings : Nat → Int32) (a_1 : Int32) (k : Int32 → Prop) : Prop := PX4_within a_1 (0 : Int32) (3 : Int32) (fun r3_1 => ((r3_1 = 0 → (k (-101 : Int32))) ∧ (¬ r3_1 = 0 → (vp_in a_1 4 ∧ (k (n_settings (Int32.toNatClampNeg a_1)))))))
def PX4_broken (n_working : Nat → Int64) (a_1 : Int32) (a_2 : Int32) (k : Int32 → Prop) : Prop := PX4_within a_1 (0 : Int32) (1 : Int32) (fun r3_1 => ((r3_1 = 0 → (k (-101 : Int32))) ∧ (¬ r3_1 = 0 → PX4_within a_2 (0 : Int32) (11 : Int32) (fun r13_3 => ((¬ r13_3 = 0 → PX2_works n_working a_1 a_2 (fun r28_5 => ((r28_5 = 0 → (k (1 : Int32))) ∧ (¬ r28_5 = 0 → (k (0 : Int32)))))) ∧ (r13_3 = 0 → (k (-101 : Int32))))))))
def PX4_countLit_L1 (n_ticks : Int32) (n_settings : Nat → Int32) (n_written : Nat → Int64) (n_writtenIn : Nat → Int32) (kx_1 : Int32 → Int32 → Prop) : Nat → Int32 → Int32 → Prop
  | 0, _, _ => False
  | n_1 + 1, v1_1, v2_2 => (((720 : Int32) ≤ v2_2 → kx_1 v1_1 v2_2) ∧ (¬ (720 : Int32) ≤ v2_2 → PX2_litAt n_ticks n_settings n_written n_writtenIn v2_2 (0 : Int32) (fun r18_4 => PX4_notDark r18_4 (fun r21_5 => PJ13_bitCount_95d88 r21_5 (fun r24_6 => (∀ v1_7 : Int32, v1_7 = (v1_1 + r24_6) → (∀ v2_8 : Int32, v2_8 = v2_2 + (1 : Int32) → PX4_countLit_L1 n_ticks n_settings n_written n_writtenIn kx_1 n_1 v1_7 v2_8)))))))
def PX4_countLit (n_ticks : Int32) (n_settings : Nat → Int32) (n_written : Nat → Int64) (n_writtenIn : Nat → Int32)  (k : Int32 → Prop) : Prop := (∃ n_1, PX4_countLit_L1 n_ticks n_settings n_written n_writtenIn (fun v1_1 v2_2 => (k v1_1)) n_1 (0 : Int32) (0 : Int32))
def PX4_countNotAsWanted_L1 (n_pictureCount : Int32) (n_ticks : Int32) (n_settings : Nat → Int32) (n_written : Nat → Int64) (n_writtenIn : Nat → Int32) (n_width : Nat → Int32) (n_first : Nat → Int32) (n_step : Nat → Int32) (n_kind : Nat → Int32) (n_columns : Nat → Nat → Int64) (kx_1 : Int32 → Int32 → Prop) : Nat → Int32 → Int32 → Prop
  | 0, _, _ => False
  | n_1 + 1, v1_1, v2_2 => (((720 : Int32) ≤ v2_2 → kx_1 v1_1 v2_2) ∧ (¬ (720 : Int32) ≤ v2_2 → PX2_litAt n_ticks n_settings n_written n_writtenIn v2_2 (0 : Int32) (fun r18_4 => PX2_wantedAt n_pictureCount n_width n_first n_step n_kind n_columns v2_2 (fun r26_5 => PX4_notDark (r18_4 ^^^ r26_5) (fun r30_6 => PJ13_bitCount_95d88 r30_6 (fun r33_7 => (∀ v1_8 : Int32, v1_8 = (v1_1 + r33_7) → (∀ v2_9 : Int32, v2_9 = v2_2 + (1 : Int32) → PX4_countNotAsWanted_L1 n_pictureCount n_ticks n_settings n_written n_writtenIn n_width n_first n_step n_kind n_columns kx_1 n_1 v1_8 v2_9))))))))
def PX4_countNotAsWanted (n_pictureCount : Int32) (n_ticks : Int32) (n_settings : Nat → Int32) (n_written : Nat → Int64) (n_writtenIn : Nat → Int32) (n_width : Nat → Int32) (n_first : Nat → Int32) (n_step : Nat → Int32) (n_kind : Nat → Int32) (n_columns : Nat → Nat → Int64)  (k : Int32 → Prop) : Prop := (∃ n_1, PX4_countNotAsWanted_L1 n_pictureCount n_ticks n_settings n_written n_writtenIn n_width n_first n_step n_kind n_columns (fun v1_1 v2_2 => (k v1_1)) n_1 (0 : Int32) (0 : Int32))
def PX4_count (l_historySize : Int32) (l_textLength : Int32) (n_pictureCount : Int32) (n_angle : Int32) (n_speed : Int32) (n_ticks : Int32) (n_load : Int32) (n_secondArm : Int32) (n_settings : Nat → Int32) (n_written : Nat → Int64) (n_writtenIn : Nat → Int32) (n_width : Nat → Int32) (n_first : Nat → Int32) (n_step : Nat → Int32) (n_kind : Nat → Int32) (n_columns : Nat → Nat → Int64) (a_1 : Int32) (k : Int32 → Prop) : Prop := (((a_1.toInt < 0 ∨ 9 < a_1.toInt) → (k (-101 : Int32))) ∧ (a_1 = (0 : Int32) → (k n_pictureCount)) ∧ (a_1 = (1 : Int32) → (k n_angle)) ∧ (a_1 = (2 : Int32) → (k n_speed)) ∧ (a_1 = (3 : Int32) → (k n_ticks)) ∧ (a_1 = (4 : Int32) → (k n_load)) ∧ (a_1 = (5 : Int32) → PX4_countLit n_ticks n_settings n_written n_writtenIn (fun r97_2 => (k r97_2))) ∧ (a_1 = (6 : Int32) → PX4_countNotAsWanted n_pictureCount n_ticks n_settings n_written n_writtenIn n_width n_first n_step n_kind n_columns (fun r102_3 => (k r102_3))) ∧ (a_1 = (7 : Int32) → (k n_secondArm)) ∧ (a_1 = (8 : Int32) → (k l_historySize)) ∧ (a_1 = (9 : Int32) → (k l_textLength)))
def PX4_picture (n_pictureCount : Int32) (n_width : Nat → Int32) (n_first : Nat → Int32) (n_step : Nat → Int32) (n_kind : Nat → Int32) (n_columns : Nat → Nat → Int64) (a_1 : Int32) (a_2 : Int32) (k : Int32 → Prop) : Prop := PX2_pictureNumbered n_pictureCount a_1 (fun o_1 => (o_1 = none → (k (-101 : Int32))) ∧ (∀ j_2 : Nat, j_2 < 4 → o_1 = some j_2 → (((a_2.toInt < 0 ∨ 5 < a_2.toInt) → (k (-101 : Int32))) ∧ (a_2 = (0 : Int32) → (k (n_width j_2))) ∧ (a_2 = (1 : Int32) → (k (n_first j_2))) ∧ (a_2 = (2 : Int32) → (k (n_step j_2))) ∧ (a_2 = (3 : Int32) → (k (n_kind j_2))) ∧ (a_2 = (4 : Int32) → PX0_countNotDark (n_width j_2) (n_columns j_2) (fun r77_4 => (k r77_4))) ∧ (a_2 = (5 : Int32) → PX0_coveredAngles (n_width j_2) (n_step j_2) (fun r82_5 => (k r82_5))))))
def PX4_color (n_pictureCount : Int32) (n_width : Nat → Int32) (n_columns : Nat → Nat → Int64) (a_1 : Int32) (a_2 : Int32) (a_3 : Int32) (k : Int32 → Prop) : Prop := PX2_pictureNumbered n_pictureCount a_1 (fun o_1 => (o_1 = none → (k (-101 : Int32))) ∧ (∀ j_2 : Nat, j_2 < 4 → o_1 = some j_2 → PX4_within a_2 (0 : Int32) (39 : Int32) (fun r19_3 => ((r19_3 = 0 → (k (-101 : Int32))) ∧ (¬ r19_3 = 0 → PX4_within a_3 (0 : Int32) (11 : Int32) (fun r29_5 => ((¬ r29_5 = 0 → (((n_width j_2) ≤ a_2 → (k (-109 : Int32))) ∧ (¬ (n_width j_2) ≤ a_2 → (vp_in a_2 40 ∧ PX4_colorIn ((n_columns j_2) (Int32.toNatClampNeg a_2)) a_3 (fun r55_9 => (k r55_9)))))) ∧ (r29_5 = 0 → (k (-101 : Int32))))))))))
def PX4_place (n_pictureCount : Int32) (n_ticks : Int32) (n_settings : Nat → Int32) (n_written : Nat → Int64) (n_writtenIn : Nat → Int32) (n_width : Nat → Int32) (n_first : Nat → Int32) (n_step : Nat → Int32) (n_kind : Nat → Int32) (n_columns : Nat → Nat → Int64) (a_1 : Int32) (a_2 : Int32) (a_3 : Int32) (k : Int32 → Prop) : Prop := PX4_within a_1 (0 : Int32) (719 : Int32) (fun r5_1 => ((r5_1 = 0 → (k (-101 : Int32))) ∧ (¬ r5_1 = 0 → PX4_within a_2 (0 : Int32) (11 : Int32) (fun r15_3 => ((¬ r15_3 = 0 → (((a_3.toInt < 0 ∨ 2 < a_3.toInt) → (k (-101 : Int32))) ∧ (a_3 = (0 : Int32) → PX2_wantedAt n_pictureCount n_width n_first n_step n_kind n_columns a_1 (fun r57_6 => PX4_colorIn r57_6 a_2 (fun r61_7 => (k r61_7)))) ∧ (a_3 = (1 : Int32) → PX2_litAt n_ticks n_settings n_written n_writtenIn a_1 (0 : Int32) (fun r71_8 => PX4_colorIn r71_8 a_2 (fun r75_9 => (k r75_9)))) ∧ (a_3 = (2 : Int32) → PX4_ticksSinceWritten n_ticks n_writtenIn a_1 a_2 (fun r82_10 => (k r82_10))))) ∧ (r15_3 = 0 → (k (-101 : Int32))))))))
def PX4_columnAt (n_pictureCount : Int32) (n_width : Nat → Int32) (n_first : Nat → Int32) (n_step : Nat → Int32) (n_kind : Nat → Int32) (a_1 : Int32) (a_2 : Int32) (k : Int32 → Prop) : Prop := PX2_pictureNumbered n_pictureCount a_1 (fun o_1 => (o_1 = none → (k (-101 : Int32))) ∧ (∀ j_2 : Nat, j_2 < 4 → o_1 = some j_2 → PX4_within a_2 (0 : Int32) (719 : Int32) (fun r18_3 => ((¬ r18_3 = 0 → PX0_covers (n_width j_2) (n_first j_2) (n_step j_2) a_2 (fun r29_5 => ((r29_5 = 0 → (k (-109 : Int32))) ∧ (¬ r29_5 = 0 → PX0_columnOf (n_width j_2) (n_first j_2) (n_step j_2) (n_kind j_2) a_2 (fun r37_7 => (k r37_7)))))) ∧ (r18_3 = 0 → (k (-101 : Int32)))))))
def PX4_meetings_J1 (k : Int32 → Prop)  : Prop := (k (-101 : Int32))
def PX4_meetings_J2 (k : Int32 → Prop)  : Prop := (k (-101 : Int32))
def PX4_meetings_J3 (k : Int32 → Prop)  : Prop := (k (-101 : Int32))
def PX4_meetings_L5 (n_width : Nat → Int32) (n_first : Nat → Int32) (n_step : Nat → Int32) (n_kind : Nat → Int32) (n_columns : Nat → Nat → Int64) (j_2 : Nat) (j_6 : Nat) (kx_5 : Int32 → Int32 → Prop) : Nat → Int32 → Int32 → Prop
  | 0, _, _ => False
  | n_5 + 1, v5_8, v6_9 => (((720 : Int32) ≤ v6_9 → kx_5 v5_8 v6_9) ∧ (¬ (720 : Int32) ≤ v6_9 → PX0_wantedAt (n_width j_2) (n_first j_2) (n_step j_2) (n_kind j_2) (n_columns j_2) v6_9 (fun r55_11 => PX4_notDark r55_11 (fun r58_12 => PX0_wantedAt (n_width j_6) (n_first j_6) (n_step j_6) (n_kind j_6) (n_columns j_6) v6_9 (fun r65_13 => PX4_notDark r65_13 (fun r68_14 => PJ13_bitCount_95d88 (r58_12 &&& r68_14) (fun r72_15 => (∀ v5_16 : Int32, v5_16 = (v5_8 + r72_15) → (∀ v6_17 : Int32, v6_17 = v6_9 + (1 : Int32) → PX4_meetings_L5 n_width n_first n_step n_kind n_columns j_2 j_6 kx_5 n_5 v5_16 v6_17)))))))))
def PX4_meetings_J4 (k : Int32 → Prop)  : Prop := (k (-101 : Int32))
def PX4_meetings (n_pictureCount : Int32) (n_width : Nat → Int32) (n_first : Nat → Int32) (n_step : Nat → Int32) (n_kind : Nat → Int32) (n_columns : Nat → Nat → Int64) (a_1 : Int32) (a_2 : Int32) (k : Int32 → Prop) : Prop := PX2_pictureNumbered n_pictureCount a_1 (fun o_1 => (o_1 = none → PX2_pictureNumbered n_pictureCount a_2 (fun o_3 => (o_3 = none → PX4_meetings_J1 k ) ∧ (∀ j_4 : Nat, j_4 < 4 → o_3 = some j_4 → PX4_meetings_J2 k ))) ∧ (∀ j_2 : Nat, j_2 < 4 → o_1 = some j_2 → PX2_pictureNumbered n_pictureCount a_2 (fun o_5 => (o_5 = none → PX4_meetings_J3 k ) ∧ (∀ j_6 : Nat, j_6 < 4 → o_5 = some j_6 → ((¬ a_1 = a_2 → (∃ n_5, PX4_meetings_L5 n_width n_first n_step n_kind n_columns j_2 j_6 (fun v5_8 v6_9 => (k v5_8)) n_5 (0 : Int32) (0 : Int32))) ∧ (a_1 = a_2 → PX4_meetings_J4 k ))))))
def PX4_countRight_L1 (l_rightAlone : Nat → Int64) (w_passedIn : Nat → Int32) (w_secondArm : Int32) (n_working : Nat → Int64) (v2_1 : Int32) (kx_1 : Int32 → Int32 → Prop) : Nat → Int32 → Int32 → Prop
  | 0, _, _ => False
  | n_1 + 1, v3_2, v4_3 => (((720 : Int32) ≤ v4_3 → kx_1 v3_2 v4_3) ∧ (¬ (720 : Int32) ≤ v4_3 → PX3_firstArmAt w_passedIn v4_3 (fun r35_5 => ((r35_5 ≤ v2_1 → PX3_secondArmAt w_passedIn w_secondArm v4_3 (fun r63_7 => ((r63_7 ≤ v2_1 → (vp_in v4_3 720 ∧ PJ13_bitCount_95d88 (((0 : Int64) ||| (0 : Int64)) ||| (l_rightAlone (Int32.toNatClampNeg v4_3))) (fun r99_10 => (∀ v3_11 : Int32, v3_11 = (v3_2 + r99_10) → (∀ v4_12 : Int32, v4_12 = v4_3 + (1 : Int32) → PX4_countRight_L1 l_rightAlone w_passedIn w_secondArm n_working v2_1 kx_1 n_1 v3_11 v4_12))))) ∧ (¬ r63_7 ≤ v2_1 → (∀ v7_13 : Int64, v7_13 = (n_working 1) → (vp_in v4_3 720 ∧ PJ13_bitCount_95d88 (((0 : Int64) ||| v7_13) ||| (l_rightAlone (Int32.toNatClampNeg v4_3))) (fun r99_15 => (∀ v3_16 : Int32, v3_16 = (v3_2 + r99_15) → (∀ v4_17 : Int32, v4_17 = v4_3 + (1 : Int32) → PX4_countRight_L1 l_rightAlone w_passedIn w_secondArm n_working v2_1 kx_1 n_1 v3_16 v4_17))))))))) ∧ (¬ r35_5 ≤ v2_1 → (∀ v5_18 : Int64, v5_18 = (n_working 0) → PX3_secondArmAt w_passedIn w_secondArm v4_3 (fun r63_19 => ((r63_19 ≤ v2_1 → (vp_in v4_3 720 ∧ PJ13_bitCount_95d88 ((v5_18 ||| (0 : Int64)) ||| (l_rightAlone (Int32.toNatClampNeg v4_3))) (fun r99_22 => (∀ v3_23 : Int32, v3_23 = (v3_2 + r99_22) → (∀ v4_24 : Int32, v4_24 = v4_3 + (1 : Int32) → PX4_countRight_L1 l_rightAlone w_passedIn w_secondArm n_working v2_1 kx_1 n_1 v3_23 v4_24))))) ∧ (¬ r63_19 ≤ v2_1 → (∀ v7_25 : Int64, v7_25 = (n_working 1) → (vp_in v4_3 720 ∧ PJ13_bitCount_95d88 ((v5_18 ||| v7_25) ||| (l_rightAlone (Int32.toNatClampNeg v4_3))) (fun r99_27 => (∀ v3_28 : Int32, v3_28 = (v3_2 + r99_27) → (∀ v4_29 : Int32, v4_29 = v4_3 + (1 : Int32) → PX4_countRight_L1 l_rightAlone w_passedIn w_secondArm n_working v2_1 kx_1 n_1 v3_28 v4_29))))))))))))))
def PX4_countRight (l_rightAlone : Nat → Int64) (w_passedIn : Nat → Int32) (w_secondArm : Int32) (n_settings : Nat → Int32) (n_working : Nat → Int64) (a_1 : Int32) (k : Int32 → Prop) : Prop := (∀ v2_1 : Int32, v2_1 = (if (0 : Int32) < (a_1 - (n_settings 3)) then (a_1 - (n_settings 3)) else (0 : Int32)) → (∃ n_1, PX4_countRight_L1 l_rightAlone w_passedIn w_secondArm n_working v2_1 (fun v3_2 v4_3 => (k v3_2)) n_1 (0 : Int32) (0 : Int32)))
theorem hdX4_ticksSinceWritten : yX4_ticksSinceWritten.cls = RX4 ∧ yX4_ticksSinceWritten.cls ≠ "java/lang/invoke/MethodHandle" ∧ yX4_ticksSinceWritten.cls ≠ "java/lang/invoke/VarHandle" ∧ (parseMethodDescriptor yX4_ticksSinceWritten.desc).map (fun d => d.parameters.length) = some 2 := by decide +kernel
set_option maxHeartbeats 4000000 in
set_option maxRecDepth 100000 in
theorem kX4_ticksSinceWritten (l : Launch) (g : GG) (lq rq wq nq : Nat → Nat) (hq : Nat → Nat → Nat) (l_oldest : Int32) (l_historySize : Int32) (l_text : Nat → Int32) (l_textLength : Int32) (l_rightAlone : Nat → Int64) (r_columns : Nat → Int64) (r_columnCount : Int32) (r_awaited : Int32) (r_told : Int32) (r_number : Int32) (r_numberStart : Int32) (w_wanted : Nat → Int64) (w_loadAt : Nat → Int32) (w_passedIn : Nat → Int32) (w_secondArm : Int32) (w_power : Int32) (w_limit : Int32) (w_wantedSpeed : Int32) (w_angle : Int32) (w_speed : Int32) (w_load : Int32) (w_ticks : Int32) (n_pictureCount : Int32) (n_angle : Int32) (n_speed : Int32) (n_ticks : Int32) (n_load : Int32) (n_secondArm : Int32) (n_settings : Nat → Int32) (n_working : Nat → Int64) (n_written : Nat → Int64) (n_writtenIn : Nat → Int32) (n_width : Nat → Int32) (n_first : Nat → Int32) (n_step : Nat → Int32) (n_kind : Nat → Int32) (n_columns : Nat → Nat → Int64) (a_1 : Int32) (a_2 : Int32) (k : Int32 → Prop) (h : PX4_ticksSinceWritten n_ticks n_writtenIn a_1 a_2 k) : Met l yX4_ticksSinceWritten wsX4_ticksSinceWritten ({ frames := 0, cells := 0, slots := 0, locals := 0 }) (PreR g [.ref (lq 0), .int a_1, .int a_2] (wL g lq nq rq wq hq l_oldest l_historySize l_text l_textLength l_rightAlone ++ (wR g rq r_columns r_columnCount r_awaited r_told r_number r_numberStart ++ (wW g wq w_wanted w_loadAt w_passedIn w_secondArm w_power w_limit w_wantedSpeed w_angle w_speed w_load w_ticks ++ (wS g nq n_pictureCount n_angle n_speed n_ticks n_load n_secondArm n_settings n_working n_written n_writtenIn n_width n_first n_step n_kind n_columns))))) (vp_Si k) 0 0 (fun _ => False) := by
  refine Met.ofW (cc := cX4_ticksSinceWritten) (maxL := 4) (ret := (some .int)) (by decide) rfl ?_
  intro p e s m args below meth c s₁ B hml hv
  obtain ⟨rfl, hP, hK⟩ := hv
  have hx := B.exec
  have hb := B.bytes
  have hr := B.returns
  have hts := atoms_spec (ws := wsX4_ticksSinceWritten) B.pre
  have hown : s.vm.findClass RX4 = some m.cls := findClass_of_methodNamed B.named
  have hlocks := B.notSynchronized
  have iX2 : ∀ w ∈ wsX20, w ∈ wsX4_ticksSinceWritten := by decide +kernel
  have iX4 : ∀ w ∈ wsX40, w ∈ wsX4_ticksSinceWritten := by decide +kernel
  have hl := lv_entry ([.ref (lq 0), .int a_1, .int a_2]) (n := 4) (Nat.le_of_ble_eq_true rfl)
  rw [lg_entry_eq]
  generalize (lg_sl ([.ref (lq 0), .int a_1, .int a_2]) ++ List.replicate (4 - (lg_sl ([.ref (lq 0), .int a_1, .int a_2])).length) Slot.unset).toArray = ls at hl ⊢
  have hl : lv_has ls 4 [(0, .ref (lq 0)), (1, .int a_1), (2, .int a_2)] := hl
  unfold PX4_ticksSinceWritten at h
  refine lv_aload_n hx hb dX4_ticksSinceWritten_0 rfl (lv_at hl 0 rfl) ?_
  refine va_get (D := g.1) (ci := 4) (v := .ref (nq 0)) (C := RX4) (T := TX4) (N := 9) hx hb hts iX4 hown hK.1 hP 0 rfl rfl 0 (by decide) (hts (.fieldLink RX4 10 "LightWheel" "now" "LLightWheel$State;") (by decide +kernel)) (fun _ h9 => h9) rfl dX4_ticksSinceWritten_1 ?_
  refine va_get (D := g.1) (ci := 2) (v := .ref (nq 5)) (C := RX2) (T := TX2) (N := 11) hx hb hts iX2 hown hK.1 hP 10 rfl rfl 10 (by decide) (hts (.fieldLink RX4 205 "LightWheel$State" "writtenIn" "[I") (by decide +kernel)) (fun _ h9 => h9) rfl dX4_ticksSinceWritten_4 ?_
  refine lv_iload_n hx hb dX4_ticksSinceWritten_7 rfl (lv_at hl 1 rfl) ?_
  refine lv_bipush (v := (12 : Int32)) hx hb dX4_ticksSinceWritten_8 (by decide) ?_
  refine lv_imul hx hb dX4_ticksSinceWritten_10 ?_
  refine lv_iload_n hx hb dX4_ticksSinceWritten_11 rfl (lv_at hl 2 rfl) ?_
  refine lv_iadd hx hb dX4_ticksSinceWritten_12 ?_
  have o_13_0 := h.1
  replace h := h.2
  refine va_iald hx hb hK.1 hP 15 0 rfl rfl o_13_0 dX4_ticksSinceWritten_13 ?_
  refine lv_topi (fun v3_2 e_v3_2 => ?_)
  replace h := h v3_2 e_v3_2
  refine lv_istore_n (lv' := [(3, .int v3_2), (0, .ref (lq 0)), (1, .int a_1), (2, .int a_2)]) hx hb dX4_ticksSinceWritten_14 rfl hl (by decide) rfl (fun ls hl => ?_)
  refine lv_iload_n hx hb dX4_ticksSinceWritten_15 rfl (lv_at hl 0 rfl) ?_
  refine lv_if_ne (tgt := 24) hx hb dX4_ticksSinceWritten_16 (by decide) (fun c_16_2 => ?_) (fun c_16_2 => ?_)
  · replace h := h.1 c_16_2
    refine lv_aload_n hx hb dX4_ticksSinceWritten_24 rfl (lv_at hl 1 rfl) ?_
    refine va_get (D := g.1) (ci := 4) (v := .ref (nq 0)) (C := RX4) (T := TX4) (N := 9) hx hb hts iX4 hown hK.1 hP 0 rfl rfl 0 (by decide) (hts (.fieldLink RX4 10 "LightWheel" "now" "LLightWheel$State;") (by decide +kernel)) (fun _ h9 => h9) rfl dX4_ticksSinceWritten_25 ?_
    refine va_get (D := g.1) (ci := 2) (v := .int n_ticks) (C := RX2) (T := TX2) (N := 11) hx hb hts iX2 hown hK.1 hP 10 rfl rfl 4 (by decide) (hts (.fieldLink RX4 131 "LightWheel$State" "ticks" "I") (by decide +kernel)) (fun _ h9 => h9) rfl dX4_ticksSinceWritten_28 ?_
    refine lv_iload_n hx hb dX4_ticksSinceWritten_31 rfl (lv_at hl 0 rfl) ?_
    refine lv_isub hx hb dX4_ticksSinceWritten_32 ?_
    exact W.iret hx hb hr (fun t ht hW => ⟨(n_ticks - v3_2), rfl, h, ht⟩) (fun _ h9 => by cases h9) dX4_ticksSinceWritten_33
  · replace h := h.2 c_16_2
    refine lv_bipush (v := (-109 : Int32)) hx hb dX4_ticksSinceWritten_19 (by decide) ?_
    refine lv_goto (tgt := 33) hx hb dX4_ticksSinceWritten_21 (by decide) ?_
    exact W.iret hx hb hr (fun t ht hW => ⟨(-109 : Int32), rfl, h, ht⟩) (fun _ h9 => by cases h9) dX4_ticksSinceWritten_33
theorem hdX4_setting : yX4_setting.cls = RX4 ∧ yX4_setting.cls ≠ "java/lang/invoke/MethodHandle" ∧ yX4_setting.cls ≠ "java/lang/invoke/VarHandle" ∧ (parseMethodDescriptor yX4_setting.desc).map (fun d => d.parameters.length) = some 1 := by decide +kernel
set_option maxHeartbeats 4000000 in
set_option maxRecDepth 100000 in
theorem kX4_setting (l : Launch) (g : GG) (lq rq wq nq : Nat → Nat) (hq : Nat → Nat → Nat) (l_oldest : Int32) (l_historySize : Int32) (l_text : Nat → Int32) (l_textLength : Int32) (l_rightAlone : Nat → Int64) (r_columns : Nat → Int64) (r_columnCount : Int32) (r_awaited : Int32) (r_told : Int32) (r_number : Int32) (r_numberStart : Int32) (w_wanted : Nat → Int64) (w_loadAt : Nat → Int32) (w_passedIn : Nat → Int32) (w_secondArm : Int32) (w_power : Int32) (w_limit : Int32) (w_wantedSpeed : Int32) (w_angle : Int32) (w_speed : Int32) (w_load : Int32) (w_ticks : Int32) (n_pictureCount : Int32) (n_angle : Int32) (n_speed : Int32) (n_ticks : Int32) (n_load : Int32) (n_secondArm : Int32) (n_settings : Nat → Int32) (n_working : Nat → Int64) (n_written : Nat → Int64) (n_writtenIn : Nat → Int32) (n_width : Nat → Int32) (n_first : Nat → Int32) (n_step : Nat → Int32) (n_kind : Nat → Int32) (n_columns : Nat → Nat → Int64) (a_1 : Int32) (k : Int32 → Prop) (h : PX4_setting n_settings a_1 k) : Met l yX4_setting wsX4_setting ({ frames := 1, cells := 0, slots := 0, locals := 22 }) (PreR g [.ref (lq 0), .int a_1] (wL g lq nq rq wq hq l_oldest l_historySize l_text l_textLength l_rightAlone ++ (wR g rq r_columns r_columnCount r_awaited r_told r_number r_numberStart ++ (wW g wq w_wanted w_loadAt w_passedIn w_secondArm w_power w_limit w_wantedSpeed w_angle w_speed w_load w_ticks ++ (wS g nq n_pictureCount n_angle n_speed n_ticks n_load n_secondArm n_settings n_working n_written n_writtenIn n_width n_first n_step n_kind n_columns))))) (vp_Si k) 0 0 (fun _ => False) := by
  refine Met.ofW (cc := cX4_setting) (maxL := 2) (ret := (some .int)) (by decide) rfl ?_
  intro p e s m args below meth c s₁ B hml hv
  obtain ⟨rfl, hP, hK⟩ := hv
  have hx := B.exec
  have hb := B.bytes
  have hr := B.returns
  have hts := atoms_spec (ws := wsX4_setting) B.pre
  have hown : s.vm.findClass RX4 = some m.cls := findClass_of_methodNamed B.named
  have hlocks := B.notSynchronized
  have iX2 : ∀ w ∈ wsX20, w ∈ wsX4_setting := by decide +kernel
  have iX4 : ∀ w ∈ wsX40, w ∈ wsX4_setting := by decide +kernel
  have hl := lv_entry ([.ref (lq 0), .int a_1]) (n := 2) (Nat.le_of_ble_eq_true rfl)
  rw [lg_entry_eq]
  generalize (lg_sl ([.ref (lq 0), .int a_1]) ++ List.replicate (2 - (lg_sl ([.ref (lq 0), .int a_1])).length) Slot.unset).toArray = ls at hl ⊢
  have hl : lv_has ls 2 [(0, .ref (lq 0)), (1, .int a_1)] := hl
  unfold PX4_setting at h
  refine lv_iload_n hx hb dX4_setting_0 rfl (lv_at hl 1 rfl) ?_
  refine lv_iconst (v := (0 : Int32)) hx hb dX4_setting_1 (by decide) ?_
  refine lv_iconst (v := (3 : Int32)) hx hb dX4_setting_2 (by decide) ?_
  refine vp_callSi (W.runS (As := [.int a_1, .int (0 : Int32), .int (3 : Int32)]) (rest := []) ⟨hx, hb, hml, hown, hts⟩ (kX4_within l g  a_1 (0 : Int32) (3 : Int32) _ h) (va_cwS 3 hts gX4_setting_X4_within rfl rfl rfl hdX4_within.2 ⟨(Nat.le_of_ble_eq_true rfl), (Nat.le_of_ble_eq_true rfl)⟩) (preS_R hK (va_P_nil (D := g.1) (cl := vwCl))) rfl rfl hl.1 rfl (lv_room (Nat.le_of_ble_eq_true rfl)) dX4_setting_3 ⟨(Nat.le_of_ble_eq_true rfl), (Nat.le_of_ble_eq_true rfl)⟩) (fun r3_1 h => ?_)
  refine lv_if_eq (tgt := 21) hx hb dX4_setting_6 (by decide) (fun c_6_1 => ?_) (fun c_6_1 => ?_)
  · replace h := h.1 c_6_1
    refine lv_bipush (v := (-101 : Int32)) hx hb dX4_setting_21 (by decide) ?_
    exact W.iret hx hb hr (fun t ht hW => ⟨(-101 : Int32), rfl, h, ht⟩) (fun _ h9 => by cases h9) dX4_setting_23
  · replace h := h.2 c_6_1
    refine lv_aload_n hx hb dX4_setting_9 rfl (lv_at hl 0 rfl) ?_
    refine va_get (D := g.1) (ci := 4) (v := .ref (nq 0)) (C := RX4) (T := TX4) (N := 9) hx hb hts iX4 hown hK.1 hP 0 rfl rfl 0 (by decide) (hts (.fieldLink RX4 10 "LightWheel" "now" "LLightWheel$State;") (by decide +kernel)) (fun _ h9 => h9) rfl dX4_setting_10 ?_
    refine va_get (D := g.1) (ci := 2) (v := .ref (nq 2)) (C := RX2) (T := TX2) (N := 11) hx hb hts iX2 hown hK.1 hP 10 rfl rfl 7 (by decide) (hts (.fieldLink RX4 128 "LightWheel$State" "settings" "[I") (by decide +kernel)) (fun _ h9 => h9) rfl dX4_setting_13 ?_
    refine lv_iload_n hx hb dX4_setting_16 rfl (lv_at hl 1 rfl) ?_
    have o_17_2 := h.1
    replace h := h.2
    refine va_iald hx hb hK.1 hP 12 0 rfl rfl o_17_2 dX4_setting_17 ?_
    refine lv_goto (tgt := 23) hx hb dX4_setting_18 (by decide) ?_
    exact W.iret hx hb hr (fun t ht hW => ⟨(n_settings (Int32.toNatClampNeg a_1)), rfl, h, ht⟩) (fun _ h9 => by cases h9) dX4_setting_23
theorem hdX4_broken : yX4_broken.cls = RX4 ∧ yX4_broken.cls ≠ "java/lang/invoke/MethodHandle" ∧ yX4_broken.cls ≠ "java/lang/invoke/VarHandle" ∧ (parseMethodDescriptor yX4_broken.desc).map (fun d => d.parameters.length) = some 2 := by decide +kernel
set_option maxHeartbeats 4000000 in
set_option maxRecDepth 100000 in
theorem kX4_broken (l : Launch) (g : GG) (lq rq wq nq : Nat → Nat) (hq : Nat → Nat → Nat) (l_oldest : Int32) (l_historySize : Int32) (l_text : Nat → Int32) (l_textLength : Int32) (l_rightAlone : Nat → Int64) (r_columns : Nat → Int64) (r_columnCount : Int32) (r_awaited : Int32) (r_told : Int32) (r_number : Int32) (r_numberStart : Int32) (w_wanted : Nat → Int64) (w_loadAt : Nat → Int32) (w_passedIn : Nat → Int32) (w_secondArm : Int32) (w_power : Int32) (w_limit : Int32) (w_wantedSpeed : Int32) (w_angle : Int32) (w_speed : Int32) (w_load : Int32) (w_ticks : Int32) (n_pictureCount : Int32) (n_angle : Int32) (n_speed : Int32) (n_ticks : Int32) (n_load : Int32) (n_secondArm : Int32) (n_settings : Nat → Int32) (n_working : Nat → Int64) (n_written : Nat → Int64) (n_writtenIn : Nat → Int32) (n_width : Nat → Int32) (n_first : Nat → Int32) (n_step : Nat → Int32) (n_kind : Nat → Int32) (n_columns : Nat → Nat → Int64) (a_1 : Int32) (a_2 : Int32) (k : Int32 → Prop) (h : PX4_broken n_working a_1 a_2 k) : Met l yX4_broken wsX4_broken ({ frames := 1, cells := 0, slots := 0, locals := 22 }) (PreR g [.ref (lq 0), .int a_1, .int a_2] (wL g lq nq rq wq hq l_oldest l_historySize l_text l_textLength l_rightAlone ++ (wR g rq r_columns r_columnCount r_awaited r_told r_number r_numberStart ++ (wW g wq w_wanted w_loadAt w_passedIn w_secondArm w_power w_limit w_wantedSpeed w_angle w_speed w_load w_ticks ++ (wS g nq n_pictureCount n_angle n_speed n_ticks n_load n_secondArm n_settings n_working n_written n_writtenIn n_width n_first n_step n_kind n_columns))))) (vp_Si k) 0 0 (fun _ => False) := by
  refine Met.ofW (cc := cX4_broken) (maxL := 3) (ret := (some .int)) (by decide) rfl ?_
  intro p e s m args below meth c s₁ B hml hv
  obtain ⟨rfl, hP, hK⟩ := hv
  have hx := B.exec
  have hb := B.bytes
  have hr := B.returns
  have hts := atoms_spec (ws := wsX4_broken) B.pre
  have hown : s.vm.findClass RX4 = some m.cls := findClass_of_methodNamed B.named
  have hlocks := B.notSynchronized
  have iX4 : ∀ w ∈ wsX40, w ∈ wsX4_broken := by decide +kernel
  have hl := lv_entry ([.ref (lq 0), .int a_1, .int a_2]) (n := 3) (Nat.le_of_ble_eq_true rfl)
  rw [lg_entry_eq]
  generalize (lg_sl ([.ref (lq 0), .int a_1, .int a_2]) ++ List.replicate (3 - (lg_sl ([.ref (lq 0), .int a_1, .int a_2])).length) Slot.unset).toArray = ls at hl ⊢
  have hl : lv_has ls 3 [(0, .ref (lq 0)), (1, .int a_1), (2, .int a_2)] := hl
  unfold PX4_broken at h
  refine lv_iload_n hx hb dX4_broken_0 rfl (lv_at hl 1 rfl) ?_
  refine lv_iconst (v := (0 : Int32)) hx hb dX4_broken_1 (by decide) ?_
  refine lv_iconst (v := (1 : Int32)) hx hb dX4_broken_2 (by decide) ?_
  refine vp_callSi (W.runS (As := [.int a_1, .int (0 : Int32), .int (1 : Int32)]) (rest := []) ⟨hx, hb, hml, hown, hts⟩ (kX4_within l g  a_1 (0 : Int32) (1 : Int32) _ h) (va_cwS 3 hts gX4_broken_X4_within rfl rfl rfl hdX4_within.2 ⟨(Nat.le_of_ble_eq_true rfl), (Nat.le_of_ble_eq_true rfl)⟩) (preS_R hK (va_P_nil (D := g.1) (cl := vwCl))) rfl rfl hl.1 rfl (lv_room (Nat.le_of_ble_eq_true rfl)) dX4_broken_3 ⟨(Nat.le_of_ble_eq_true rfl), (Nat.le_of_ble_eq_true rfl)⟩) (fun r3_1 h => ?_)
  refine lv_if_eq (tgt := 19) hx hb dX4_broken_6 (by decide) (fun c_6_1 => ?_) (fun c_6_1 => ?_)
  · replace h := h.1 c_6_1
    refine lv_bipush (v := (-101 : Int32)) hx hb dX4_broken_19 (by decide) ?_
    exact W.iret hx hb hr (fun t ht hW => ⟨(-101 : Int32), rfl, h, ht⟩) (fun _ h9 => by cases h9) dX4_broken_21
  · replace h := h.2 c_6_1
    refine lv_iload_n hx hb dX4_broken_9 rfl (lv_at hl 2 rfl) ?_
    refine lv_iconst (v := (0 : Int32)) hx hb dX4_broken_10 (by decide) ?_
    refine lv_bipush (v := (11 : Int32)) hx hb dX4_broken_11 (by decide) ?_
    refine vp_callSi (W.runS (As := [.int a_2, .int (0 : Int32), .int (11 : Int32)]) (rest := []) ⟨hx, hb, hml, hown, hts⟩ (kX4_within l g  a_2 (0 : Int32) (11 : Int32) _ h) (va_cwS 3 hts gX4_broken_X4_within rfl rfl rfl hdX4_within.2 ⟨(Nat.le_of_ble_eq_true rfl), (Nat.le_of_ble_eq_true rfl)⟩) (preS_R hK (va_P_nil (D := g.1) (cl := vwCl))) rfl rfl hl.1 rfl (lv_room (Nat.le_of_ble_eq_true rfl)) dX4_broken_13 ⟨(Nat.le_of_ble_eq_true rfl), (Nat.le_of_ble_eq_true rfl)⟩) (fun r13_3 h => ?_)
    refine lv_if_ne (tgt := 22) hx hb dX4_broken_16 (by decide) (fun c_16_3 => ?_) (fun c_16_3 => ?_)
    · replace h := h.1 c_16_3
      refine lv_aload_n hx hb dX4_broken_22 rfl (lv_at hl 0 rfl) ?_
      refine va_get (D := g.1) (ci := 4) (v := .ref (nq 0)) (C := RX4) (T := TX4) (N := 9) hx hb hts iX4 hown hK.1 hP 0 rfl rfl 0 (by decide) (hts (.fieldLink RX4 10 "LightWheel" "now" "LLightWheel$State;") (by decide +kernel)) (fun _ h9 => h9) rfl dX4_broken_23 ?_
      refine lv_iload_n hx hb dX4_broken_26 rfl (lv_at hl 1 rfl) ?_
      refine lv_iload_n hx hb dX4_broken_27 rfl (lv_at hl 2 rfl) ?_
      have hPc : va_P g.1 vwCl (wS g nq n_pictureCount n_angle n_speed n_ticks n_load n_secondArm n_settings n_working n_written n_writtenIn n_width n_first n_step n_kind n_columns) s.heap := hP.sub [10, 11, 12, 13, 14, 15, 16, 17, 18, 19, 20, 21, 22, 23] rfl
      refine vp_callSi (W.runV (As := [.int a_1, .int a_2]) (rest := []) ⟨hx, hb, hml, hown, hts⟩ (kX2_works l g nq n_pictureCount n_angle n_speed n_ticks n_load n_secondArm n_settings n_working n_written n_writtenIn n_width n_first n_step n_kind n_columns a_1 a_2 _ h) (cwV 2 hts gX4_broken_X2_works rfl rfl rfl hdX2_works ⟨(Nat.le_of_ble_eq_true rfl), (Nat.le_of_ble_eq_true rfl)⟩) (preV_R (r := (RX2, TX2, 11)) hK hPc (ci := 2) (q0 := 0) rfl rfl) rfl rfl hl.1 rfl (lv_room (Nat.le_of_ble_eq_true rfl)) dX4_broken_28 ⟨(Nat.le_of_ble_eq_true rfl), (Nat.le_of_ble_eq_true rfl)⟩) (fun r28_5 h => ?_)
      refine lv_if_eq (tgt := 38) hx hb dX4_broken_31 (by decide) (fun c_31_5 => ?_) (fun c_31_5 => ?_)
      · replace h := h.1 c_31_5
        refine lv_iconst (v := (1 : Int32)) hx hb dX4_broken_38 (by decide) ?_
        exact W.iret hx hb hr (fun t ht hW => ⟨(1 : Int32), rfl, h, ht⟩) (fun _ h9 => by cases h9) dX4_broken_39
      · replace h := h.2 c_31_5
        refine lv_iconst (v := (0 : Int32)) hx hb dX4_broken_34 (by decide) ?_
        refine lv_goto (tgt := 39) hx hb dX4_broken_35 (by decide) ?_
        exact W.iret hx hb hr (fun t ht hW => ⟨(0 : Int32), rfl, h, ht⟩) (fun _ h9 => by cases h9) dX4_broken_39
    · replace h := h.2 c_16_3
      refine lv_bipush (v := (-101 : Int32)) hx hb dX4_broken_19 (by decide) ?_
      exact W.iret hx hb hr (fun t ht hW => ⟨(-101 : Int32), rfl, h, ht⟩) (fun _ h9 => by cases h9) dX4_broken_21
theorem hdX4_countLit : yX4_countLit.cls = RX4 ∧ yX4_countLit.cls ≠ "java/lang/invoke/MethodHandle" ∧ yX4_countLit.cls ≠ "java/lang/invoke/VarHandle" ∧ (parseMethodDescriptor yX4_countLit.desc).map (fun d => d.parameters.length) = some 0 := by decide +kernel
set_option maxHeartbeats 4000000 in
set_option maxRecDepth 100000 in
theorem kX4_countLit (l : Launch) (g : GG) (lq rq wq nq : Nat → Nat) (hq : Nat → Nat → Nat) (l_oldest : Int32) (l_historySize : Int32) (l_text : Nat → Int32) (l_textLength : Int32) (l_rightAlone : Nat → Int64) (r_columns : Nat → Int64) (r_columnCount : Int32) (r_awaited : Int32) (r_told : Int32) (r_number : Int32) (r_numberStart : Int32) (w_wanted : Nat → Int64) (w_loadAt : Nat → Int32) (w_passedIn : Nat → Int32) (w_secondArm : Int32) (w_power : Int32) (w_limit : Int32) (w_wantedSpeed : Int32) (w_angle : Int32) (w_speed : Int32) (w_load : Int32) (w_ticks : Int32) (n_pictureCount : Int32) (n_angle : Int32) (n_speed : Int32) (n_ticks : Int32) (n_load : Int32) (n_secondArm : Int32) (n_settings : Nat → Int32) (n_working : Nat → Int64) (n_written : Nat → Int64) (n_writtenIn : Nat → Int32) (n_width : Nat → Int32) (n_first : Nat → Int32) (n_step : Nat → Int32) (n_kind : Nat → Int32) (n_columns : Nat → Nat → Int64)  (k : Int32 → Prop) (h : PX4_countLit n_ticks n_settings n_written n_writtenIn  k) : Met l yX4_countLit wsX4_countLit ({ frames := 2, cells := 0, slots := 0, locals := 48 }) (PreR g [.ref (lq 0)] (wL g lq nq rq wq hq l_oldest l_historySize l_text l_textLength l_rightAlone ++ (wR g rq r_columns r_columnCount r_awaited r_told r_number r_numberStart ++ (wW g wq w_wanted w_loadAt w_passedIn w_secondArm w_power w_limit w_wantedSpeed w_angle w_speed w_load w_ticks ++ (wS g nq n_pictureCount n_angle n_speed n_ticks n_load n_secondArm n_settings n_working n_written n_writtenIn n_width n_first n_step n_kind n_columns))))) (vp_Si k) 0 0 (fun _ => False) := by
  refine Met.ofW (cc := cX4_countLit) (maxL := 3) (ret := (some .int)) (by decide) rfl ?_
  intro p e s m args below meth c s₁ B hml hv
  obtain ⟨rfl, hP, hK⟩ := hv
  have hx := B.exec
  have hb := B.bytes
  have hr := B.returns
  have hts := atoms_spec (ws := wsX4_countLit) B.pre
  have hown : s.vm.findClass RX4 = some m.cls := findClass_of_methodNamed B.named
  have hlocks := B.notSynchronized
  have iX4 : ∀ w ∈ wsX40, w ∈ wsX4_countLit := by decide +kernel
  have hl := lv_entry ([.ref (lq 0)]) (n := 3) (Nat.le_of_ble_eq_true rfl)
  rw [lg_entry_eq]
  generalize (lg_sl ([.ref (lq 0)]) ++ List.replicate (3 - (lg_sl ([.ref (lq 0)])).length) Slot.unset).toArray = ls at hl ⊢
  have hl : lv_has ls 3 [(0, .ref (lq 0))] := hl
  unfold PX4_countLit at h
  refine lv_iconst (v := (0 : Int32)) hx hb dX4_countLit_0 (by decide) ?_
  refine lv_istore_n (lv' := [(1, .int (0 : Int32)), (0, .ref (lq 0))]) hx hb dX4_countLit_1 rfl hl (by decide) rfl (fun ls hl => ?_)
  refine lv_iconst (v := (0 : Int32)) hx hb dX4_countLit_2 (by decide) ?_
  refine lv_istore_n (lv' := [(2, .int (0 : Int32)), (1, .int (0 : Int32)), (0, .ref (lq 0))]) hx hb dX4_countLit_3 rfl hl (by decide) rfl (fun ls hl => ?_)
  have loop_1 : ∀ (kx_1 : Int32 → Int32 → Prop), (∀ (v1_1 : Int32) (v2_2 : Int32) (ls : Array Slot), kx_1 v1_1 v2_2 → lv_has ls 3 [(2, .int v2_2), (1, .int v1_1), (0, .ref (lq 0))] → W p l e (headSpec wsX4_countLit ({ frames := 2, cells := 0, slots := 0, locals := 48 })).room s m ([.ref (lq 0)] : List Value).toArray below meth c s.heap [] 0 0 (MQ below (vp_Si k) ([.ref (lq 0)] : List Value).toArray s 0 0 (fun _ => False)) (F0 m 35 ls [])) → ∀ (n_1 : Nat) (v1_1 : Int32) (v2_2 : Int32) (ls : Array Slot), PX4_countLit_L1 n_ticks n_settings n_written n_writtenIn kx_1 n_1 v1_1 v2_2 → lv_has ls 3 [(2, .int v2_2), (1, .int v1_1), (0, .ref (lq 0))] → W p l e (headSpec wsX4_countLit ({ frames := 2, cells := 0, slots := 0, locals := 48 })).room s m ([.ref (lq 0)] : List Value).toArray below meth c s.heap [] 0 0 (MQ below (vp_Si k) ([.ref (lq 0)] : List Value).toArray s 0 0 (fun _ => False)) (F0 m 4 ls []) := by
    intro kx_1 hexit_1 n_1
    induction n_1 with
    | zero => exact fun _ _ _ h _ => (h : False).elim
    | succ n_1 ih_1 =>
      intro v1_1 v2_2 ls h hl
      unfold PX4_countLit_L1 at h
      refine lv_iload_n hx hb dX4_countLit_4 rfl (lv_at hl 0 rfl) ?_
      refine lv_sipush (v := (720 : Int32)) hx hb dX4_countLit_5 (by decide) ?_
      refine lv_icmp_ge (tgt := 35) hx hb dX4_countLit_8 (by decide) (fun c_8_2 => ?_) (fun c_8_2 => ?_)
      · replace h := h.1 c_8_2
        exact hexit_1 v1_1 v2_2 ls h (lv_sub hl [0, 1, 2] rfl)
      · replace h := h.2 c_8_2
        refine lv_iload_n hx hb dX4_countLit_11 rfl (lv_at hl 1 rfl) ?_
        refine lv_aload_n hx hb dX4_countLit_12 rfl (lv_at hl 2 rfl) ?_
        refine va_get (D := g.1) (ci := 4) (v := .ref (nq 0)) (C := RX4) (T := TX4) (N := 9) hx hb hts iX4 hown hK.1 hP 0 rfl rfl 0 (by decide) (hts (.fieldLink RX4 10 "LightWheel" "now" "LLightWheel$State;") (by decide +kernel)) (fun _ h9 => h9) rfl dX4_countLit_13 ?_
        refine lv_iload_n hx hb dX4_countLit_16 rfl (lv_at hl 0 rfl) ?_
        refine lv_iconst (v := (0 : Int32)) hx hb dX4_countLit_17 (by decide) ?_
        have hPc : va_P g.1 vwCl (wS g nq n_pictureCount n_angle n_speed n_ticks n_load n_secondArm n_settings n_working n_written n_writtenIn n_width n_first n_step n_kind n_columns) s.heap := hP.sub [10, 11, 12, 13, 14, 15, 16, 17, 18, 19, 20, 21, 22, 23] rfl
        refine vp_callSl (W.runV (As := [.int v2_2, .int (0 : Int32)]) (rest := [.int v1_1]) ⟨hx, hb, hml, hown, hts⟩ (kX2_litAt l g nq n_pictureCount n_angle n_speed n_ticks n_load n_secondArm n_settings n_working n_written n_writtenIn n_width n_first n_step n_kind n_columns v2_2 (0 : Int32) _ h) (cwV 2 hts gX4_countLit_X2_litAt rfl rfl rfl hdX2_litAt ⟨(Nat.le_of_ble_eq_true rfl), (Nat.le_of_ble_eq_true rfl)⟩) (preV_R (r := (RX2, TX2, 11)) hK hPc (ci := 2) (q0 := 0) rfl rfl) rfl rfl hl.1 rfl (lv_room (Nat.le_of_ble_eq_true rfl)) dX4_countLit_18 ⟨(Nat.le_of_ble_eq_true rfl), (Nat.le_of_ble_eq_true rfl)⟩) (fun r18_4 h => ?_)
        refine vp_callSl (W.runS (As := [.long r18_4]) (rest := [.int v1_1]) ⟨hx, hb, hml, hown, hts⟩ (kX4_notDark l g  r18_4 _ h) (va_cwS 1 hts gX4_countLit_X4_notDark rfl rfl rfl hdX4_notDark.2 ⟨(Nat.le_of_ble_eq_true rfl), (Nat.le_of_ble_eq_true rfl)⟩) (preS_R hK (va_P_nil (D := g.1) (cl := vwCl))) rfl rfl hl.1 rfl (lv_room (Nat.le_of_ble_eq_true rfl)) dX4_countLit_21 ⟨(Nat.le_of_ble_eq_true rfl), (Nat.le_of_ble_eq_true rfl)⟩) (fun r21_5 h => ?_)
        refine vp_callSi (W.runS (As := [.long r21_5]) (rest := [.int v1_1]) ⟨hx, hb, hml, hown, hts⟩ (kJ13_bitCount_95d88 l g  r21_5 _ h) (va_cwS 1 hts gX4_countLit_J13_bitCount_95d88 rfl rfl rfl hdJ13_bitCount_95d88.2 ⟨(Nat.le_of_ble_eq_true rfl), (Nat.le_of_ble_eq_true rfl)⟩) (preS_R hK (va_P_nil (D := g.1) (cl := vwCl))) rfl rfl hl.1 rfl (lv_room (Nat.le_of_ble_eq_true rfl)) dX4_countLit_24 ⟨(Nat.le_of_ble_eq_true rfl), (Nat.le_of_ble_eq_true rfl)⟩) (fun r24_6 h => ?_)
        refine lv_iadd hx hb dX4_countLit_27 ?_
        refine lv_topi (fun v1_7 e_v1_7 => ?_)
        replace h := h v1_7 e_v1_7
        refine lv_istore_n (lv' := [(1, .int v1_7), (2, .int v2_2), (0, .ref (lq 0))]) hx hb dX4_countLit_28 rfl hl (by decide) rfl (fun ls hl => ?_)
        obtain ⟨v2_8, e_v2_8⟩ : ∃ y : Int32, y = v2_2 + (1 : Int32) := ⟨_, rfl⟩
        replace h := h v2_8 e_v2_8
        refine lv_iinc (v := v2_8) (lv' := [(2, .int v2_8), (1, .int v1_7), (0, .ref (lq 0))]) hx hb dX4_countLit_29 hl (k := 1) rfl (by rw [e_v2_8]; rfl) (by decide) rfl (fun ls hl => ?_)
        refine lv_goto (tgt := 4) hx hb dX4_countLit_32 (by decide) ?_
        exact ih_1 v1_7 v2_8 ls h (lv_sub hl [0, 1, 2] rfl)
  obtain ⟨n_1, h⟩ := h
  refine loop_1 _ ?_ n_1 (0 : Int32) (0 : Int32) ls h (lv_sub hl [0, 1, 2] rfl)
  intro v1_1 v2_2 ls h hl
  refine lv_iload_n hx hb dX4_countLit_35 rfl (lv_at hl 1 rfl) ?_
  exact W.iret hx hb hr (fun t ht hW => ⟨v1_1, rfl, h, ht⟩) (fun _ h9 => by cases h9) dX4_countLit_36
theorem hdX4_countNotAsWanted : yX4_countNotAsWanted.cls = RX4 ∧ yX4_countNotAsWanted.cls ≠ "java/lang/invoke/MethodHandle" ∧ yX4_countNotAsWanted.cls ≠ "java/lang/invoke/VarHandle" ∧ (parseMethodDescriptor yX4_countNotAsWanted.desc).map (fun d => d.parameters.length) = some 0 := by decide +kernel
set_option maxHeartbeats 4000000 in
set_option maxRecDepth 100000 in
theorem kX4_countNotAsWanted (l : Launch) (g : GG) (lq rq wq nq : Nat → Nat) (hq : Nat → Nat → Nat) (l_oldest : Int32) (l_historySize : Int32) (l_text : Nat → Int32) (l_textLength : Int32) (l_rightAlone : Nat → Int64) (r_columns : Nat → Int64) (r_columnCount : Int32) (r_awaited : Int32) (r_told : Int32) (r_number : Int32) (r_numberStart : Int32) (w_wanted : Nat → Int64) (w_loadAt : Nat → Int32) (w_passedIn : Nat → Int32) (w_secondArm : Int32) (w_power : Int32) (w_limit : Int32) (w_wantedSpeed : Int32) (w_angle : Int32) (w_speed : Int32) (w_load : Int32) (w_ticks : Int32) (n_pictureCount : Int32) (n_angle : Int32) (n_speed : Int32) (n_ticks : Int32) (n_load : Int32) (n_secondArm : Int32) (n_settings : Nat → Int32) (n_working : Nat → Int64) (n_written : Nat → Int64) (n_writtenIn : Nat → Int32) (n_width : Nat → Int32) (n_first : Nat → Int32) (n_step : Nat → Int32) (n_kind : Nat → Int32) (n_columns : Nat → Nat → Int64)  (k : Int32 → Prop) (h : PX4_countNotAsWanted n_pictureCount n_ticks n_settings n_written n_writtenIn n_width n_first n_step n_kind n_columns  k) : Met l yX4_countNotAsWanted wsX4_countNotAsWanted ({ frames := 5, cells := 0, slots := 0, locals := 107 }) (PreR g [.ref (lq 0)] (wL g lq nq rq wq hq l_oldest l_historySize l_text l_textLength l_rightAlone ++ (wR g rq r_columns r_columnCount r_awaited r_told r_number r_numberStart ++ (wW g wq w_wanted w_loadAt w_passedIn w_secondArm w_power w_limit w_wantedSpeed w_angle w_speed w_load w_ticks ++ (wS g nq n_pictureCount n_angle n_speed n_ticks n_load n_secondArm n_settings n_working n_written n_writtenIn n_width n_first n_step n_kind n_columns))))) (vp_Si k) 0 0 (fun _ => False) := by
  refine Met.ofW (cc := cX4_countNotAsWanted) (maxL := 3) (ret := (some .int)) (by decide) rfl ?_
  intro p e s m args below meth c s₁ B hml hv
  obtain ⟨rfl, hP, hK⟩ := hv
  have hx := B.exec
  have hb := B.bytes
  have hr := B.returns
  have hts := atoms_spec (ws := wsX4_countNotAsWanted) B.pre
  have hown : s.vm.findClass RX4 = some m.cls := findClass_of_methodNamed B.named
  have hlocks := B.notSynchronized
  have iX4 : ∀ w ∈ wsX40, w ∈ wsX4_countNotAsWanted := by decide +kernel
  have hl := lv_entry ([.ref (lq 0)]) (n := 3) (Nat.le_of_ble_eq_true rfl)
  rw [lg_entry_eq]
  generalize (lg_sl ([.ref (lq 0)]) ++ List.replicate (3 - (lg_sl ([.ref (lq 0)])).length) Slot.unset).toArray = ls at hl ⊢
  have hl : lv_has ls 3 [(0, .ref (lq 0))] := hl
  unfold PX4_countNotAsWanted at h
  refine lv_iconst (v := (0 : Int32)) hx hb dX4_countNotAsWanted_0 (by decide) ?_
  refine lv_istore_n (lv' := [(1, .int (0 : Int32)), (0, .ref (lq 0))]) hx hb dX4_countNotAsWanted_1 rfl hl (by decide) rfl (fun ls hl => ?_)
  refine lv_iconst (v := (0 : Int32)) hx hb dX4_countNotAsWanted_2 (by decide) ?_
  refine lv_istore_n (lv' := [(2, .int (0 : Int32)), (1, .int (0 : Int32)), (0, .ref (lq 0))]) hx hb dX4_countNotAsWanted_3 rfl hl (by decide) rfl (fun ls hl => ?_)
  have loop_1 : ∀ (kx_1 : Int32 → Int32 → Prop), (∀ (v1_1 : Int32) (v2_2 : Int32) (ls : Array Slot), kx_1 v1_1 v2_2 → lv_has ls 3 [(2, .int v2_2), (1, .int v1_1), (0, .ref (lq 0))] → W p l e (headSpec wsX4_countNotAsWanted ({ frames := 5, cells := 0, slots := 0, locals := 107 })).room s m ([.ref (lq 0)] : List Value).toArray below meth c s.heap [] 0 0 (MQ below (vp_Si k) ([.ref (lq 0)] : List Value).toArray s 0 0 (fun _ => False)) (F0 m 44 ls [])) → ∀ (n_1 : Nat) (v1_1 : Int32) (v2_2 : Int32) (ls : Array Slot), PX4_countNotAsWanted_L1 n_pictureCount n_ticks n_settings n_written n_writtenIn n_width n_first n_step n_kind n_columns kx_1 n_1 v1_1 v2_2 → lv_has ls 3 [(2, .int v2_2), (1, .int v1_1), (0, .ref (lq 0))] → W p l e (headSpec wsX4_countNotAsWanted ({ frames := 5, cells := 0, slots := 0, locals := 107 })).room s m ([.ref (lq 0)] : List Value).toArray below meth c s.heap [] 0 0 (MQ below (vp_Si k) ([.ref (lq 0)] : List Value).toArray s 0 0 (fun _ => False)) (F0 m 4 ls []) := by
    intro kx_1 hexit_1 n_1
    induction n_1 with
    | zero => exact fun _ _ _ h _ => (h : False).elim
    | succ n_1 ih_1 =>
      intro v1_1 v2_2 ls h hl
      unfold PX4_countNotAsWanted_L1 at h
      refine lv_iload_n hx hb dX4_countNotAsWanted_4 rfl (lv_at hl 0 rfl) ?_
      refine lv_sipush (v := (720 : Int32)) hx hb dX4_countNotAsWanted_5 (by decide) ?_
      refine lv_icmp_ge (tgt := 44) hx hb dX4_countNotAsWanted_8 (by decide) (fun c_8_2 => ?_) (fun c_8_2 => ?_)
      · replace h := h.1 c_8_2
        exact hexit_1 v1_1 v2_2 ls h (lv_sub hl [0, 1, 2] rfl)
      · replace h := h.2 c_8_2
        refine lv_iload_n hx hb dX4_countNotAsWanted_11 rfl (lv_at hl 1 rfl) ?_
        refine lv_aload_n hx hb dX4_countNotAsWanted_12 rfl (lv_at hl 2 rfl) ?_
        refine va_get (D := g.1) (ci := 4) (v := .ref (nq 0)) (C := RX4) (T := TX4) (N := 9) hx hb hts iX4 hown hK.1 hP 0 rfl rfl 0 (by decide) (hts (.fieldLink RX4 10 "LightWheel" "now" "LLightWheel$State;") (by decide +kernel)) (fun _ h9 => h9) rfl dX4_countNotAsWanted_13 ?_
        refine lv_iload_n hx hb dX4_countNotAsWanted_16 rfl (lv_at hl 0 rfl) ?_
        refine lv_iconst (v := (0 : Int32)) hx hb dX4_countNotAsWanted_17 (by decide) ?_
        have hPc : va_P g.1 vwCl (wS g nq n_pictureCount n_angle n_speed n_ticks n_load n_secondArm n_settings n_working n_written n_writtenIn n_width n_first n_step n_kind n_columns) s.heap := hP.sub [10, 11, 12, 13, 14, 15, 16, 17, 18, 19, 20, 21, 22, 23] rfl
        refine vp_callSl (W.runV (As := [.int v2_2, .int (0 : Int32)]) (rest := [.int v1_1]) ⟨hx, hb, hml, hown, hts⟩ (kX2_litAt l g nq n_pictureCount n_angle n_speed n_ticks n_load n_secondArm n_settings n_working n_written n_writtenIn n_width n_first n_step n_kind n_columns v2_2 (0 : Int32) _ h) (cwV 2 hts gX4_countNotAsWanted_X2_litAt rfl rfl rfl hdX2_litAt ⟨(Nat.le_of_ble_eq_true rfl), (Nat.le_of_ble_eq_true rfl)⟩) (preV_R (r := (RX2, TX2, 11)) hK hPc (ci := 2) (q0 := 0) rfl rfl) rfl rfl hl.1 rfl (lv_room (Nat.le_of_ble_eq_true rfl)) dX4_countNotAsWanted_18 ⟨(Nat.le_of_ble_eq_true rfl), (Nat.le_of_ble_eq_true rfl)⟩) (fun r18_4 h => ?_)
        refine lv_aload_n hx hb dX4_countNotAsWanted_21 rfl (lv_at hl 2 rfl) ?_
        refine va_get (D := g.1) (ci := 4) (v := .ref (nq 0)) (C := RX4) (T := TX4) (N := 9) hx hb hts iX4 hown hK.1 hP 0 rfl rfl 0 (by decide) (hts (.fieldLink RX4 10 "LightWheel" "now" "LLightWheel$State;") (by decide +kernel)) (fun _ h9 => h9) rfl dX4_countNotAsWanted_22 ?_
        refine lv_iload_n hx hb dX4_countNotAsWanted_25 rfl (lv_at hl 0 rfl) ?_
        have hPc : va_P g.1 vwCl (wS g nq n_pictureCount n_angle n_speed n_ticks n_load n_secondArm n_settings n_working n_written n_writtenIn n_width n_first n_step n_kind n_columns) s.heap := hP.sub [10, 11, 12, 13, 14, 15, 16, 17, 18, 19, 20, 21, 22, 23] rfl
        refine vp_callSl (W.runV (As := [.int v2_2]) (rest := [.long r18_4, .int v1_1]) ⟨hx, hb, hml, hown, hts⟩ (kX2_wantedAt l g nq n_pictureCount n_angle n_speed n_ticks n_load n_secondArm n_settings n_working n_written n_writtenIn n_width n_first n_step n_kind n_columns v2_2 _ h) (cwV 1 hts gX4_countNotAsWanted_X2_wantedAt rfl rfl rfl hdX2_wantedAt ⟨(Nat.le_of_ble_eq_true rfl), (Nat.le_of_ble_eq_true rfl)⟩) (preV_R (r := (RX2, TX2, 11)) hK hPc (ci := 2) (q0 := 0) rfl rfl) rfl rfl hl.1 rfl (lv_room (Nat.le_of_ble_eq_true rfl)) dX4_countNotAsWanted_26 ⟨(Nat.le_of_ble_eq_true rfl), (Nat.le_of_ble_eq_true rfl)⟩) (fun r26_5 h => ?_)
        refine lv_lxor hx hb dX4_countNotAsWanted_29 ?_
        refine vp_callSl (W.runS (As := [.long (r18_4 ^^^ r26_5)]) (rest := [.int v1_1]) ⟨hx, hb, hml, hown, hts⟩ (kX4_notDark l g  (r18_4 ^^^ r26_5) _ h) (va_cwS 1 hts gX4_countNotAsWanted_X4_notDark rfl rfl rfl hdX4_notDark.2 ⟨(Nat.le_of_ble_eq_true rfl), (Nat.le_of_ble_eq_true rfl)⟩) (preS_R hK (va_P_nil (D := g.1) (cl := vwCl))) rfl rfl hl.1 rfl (lv_room (Nat.le_of_ble_eq_true rfl)) dX4_countNotAsWanted_30 ⟨(Nat.le_of_ble_eq_true rfl), (Nat.le_of_ble_eq_true rfl)⟩) (fun r30_6 h => ?_)
        refine vp_callSi (W.runS (As := [.long r30_6]) (rest := [.int v1_1]) ⟨hx, hb, hml, hown, hts⟩ (kJ13_bitCount_95d88 l g  r30_6 _ h) (va_cwS 1 hts gX4_countNotAsWanted_J13_bitCount_95d88 rfl rfl rfl hdJ13_bitCount_95d88.2 ⟨(Nat.le_of_ble_eq_true rfl), (Nat.le_of_ble_eq_true rfl)⟩) (preS_R hK (va_P_nil (D := g.1) (cl := vwCl))) rfl rfl hl.1 rfl (lv_room (Nat.le_of_ble_eq_true rfl)) dX4_countNotAsWanted_33 ⟨(Nat.le_of_ble_eq_true rfl), (Nat.le_of_ble_eq_true rfl)⟩) (fun r33_7 h => ?_)
        refine lv_iadd hx hb dX4_countNotAsWanted_36 ?_
        refine lv_topi (fun v1_8 e_v1_8 => ?_)
        replace h := h v1_8 e_v1_8
        refine lv_istore_n (lv' := [(1, .int v1_8), (2, .int v2_2), (0, .ref (lq 0))]) hx hb dX4_countNotAsWanted_37 rfl hl (by decide) rfl (fun ls hl => ?_)
        obtain ⟨v2_9, e_v2_9⟩ : ∃ y : Int32, y = v2_2 + (1 : Int32) := ⟨_, rfl⟩
        replace h := h v2_9 e_v2_9
        refine lv_iinc (v := v2_9) (lv' := [(2, .int v2_9), (1, .int v1_8), (0, .ref (lq 0))]) hx hb dX4_countNotAsWanted_38 hl (k := 1) rfl (by rw [e_v2_9]; rfl) (by decide) rfl (fun ls hl => ?_)
        refine lv_goto (tgt := 4) hx hb dX4_countNotAsWanted_41 (by decide) ?_
        exact ih_1 v1_8 v2_9 ls h (lv_sub hl [0, 1, 2] rfl)
  obtain ⟨n_1, h⟩ := h
  refine loop_1 _ ?_ n_1 (0 : Int32) (0 : Int32) ls h (lv_sub hl [0, 1, 2] rfl)
  intro v1_1 v2_2 ls h hl
  refine lv_iload_n hx hb dX4_countNotAsWanted_44 rfl (lv_at hl 1 rfl) ?_
  exact W.iret hx hb hr (fun t ht hW => ⟨v1_1, rfl, h, ht⟩) (fun _ h9 => by cases h9) dX4_countNotAsWanted_45
theorem hdX4_count : yX4_count.cls = RX4 ∧ yX4_count.cls ≠ "java/lang/invoke/MethodHandle" ∧ yX4_count.cls ≠ "java/lang/invoke/VarHandle" ∧ (parseMethodDescriptor yX4_count.desc).map (fun d => d.parameters.length) = some 1 := by decide +kernel
set_option maxHeartbeats 4000000 in
set_option maxRecDepth 100000 in
theorem kX4_count (l : Launch) (g : GG) (lq rq wq nq : Nat → Nat) (hq : Nat → Nat → Nat) (l_oldest : Int32) (l_historySize : Int32) (l_text : Nat → Int32) (l_textLength : Int32) (l_rightAlone : Nat → Int64) (r_columns : Nat → Int64) (r_columnCount : Int32) (r_awaited : Int32) (r_told : Int32) (r_number : Int32) (r_numberStart : Int32) (w_wanted : Nat → Int64) (w_loadAt : Nat → Int32) (w_passedIn : Nat → Int32) (w_secondArm : Int32) (w_power : Int32) (w_limit : Int32) (w_wantedSpeed : Int32) (w_angle : Int32) (w_speed : Int32) (w_load : Int32) (w_ticks : Int32) (n_pictureCount : Int32) (n_angle : Int32) (n_speed : Int32) (n_ticks : Int32) (n_load : Int32) (n_secondArm : Int32) (n_settings : Nat → Int32) (n_working : Nat → Int64) (n_written : Nat → Int64) (n_writtenIn : Nat → Int32) (n_width : Nat → Int32) (n_first : Nat → Int32) (n_step : Nat → Int32) (n_kind : Nat → Int32) (n_columns : Nat → Nat → Int64) (a_1 : Int32) (k : Int32 → Prop) (h : PX4_count l_historySize l_textLength n_pictureCount n_angle n_speed n_ticks n_load n_secondArm n_settings n_written n_writtenIn n_width n_first n_step n_kind n_columns a_1 k) : Met l yX4_count wsX4_count ({ frames := 6, cells := 0, slots := 0, locals := 129 }) (PreR g [.ref (lq 0), .int a_1] (wL g lq nq rq wq hq l_oldest l_historySize l_text l_textLength l_rightAlone ++ (wR g rq r_columns r_columnCount r_awaited r_told r_number r_numberStart ++ (wW g wq w_wanted w_loadAt w_passedIn w_secondArm w_power w_limit w_wantedSpeed w_angle w_speed w_load w_ticks ++ (wS g nq n_pictureCount n_angle n_speed n_ticks n_load n_secondArm n_settings n_working n_written n_writtenIn n_width n_first n_step n_kind n_columns))))) (vp_Si k) 0 0 (fun _ => False) := by
  refine Met.ofW (cc := cX4_count) (maxL := 2) (ret := (some .int)) (by decide) rfl ?_
  intro p e s m args below meth c s₁ B hml hv
  obtain ⟨rfl, hP, hK⟩ := hv
  have hx := B.exec
  have hb := B.bytes
  have hr := B.returns
  have hts := atoms_spec (ws := wsX4_count) B.pre
  have hown : s.vm.findClass RX4 = some m.cls := findClass_of_methodNamed B.named
  have hlocks := B.notSynchronized
  have iX2 : ∀ w ∈ wsX20, w ∈ wsX4_count := by decide +kernel
  have iX4 : ∀ w ∈ wsX40, w ∈ wsX4_count := by decide +kernel
  have hl := lv_entry ([.ref (lq 0), .int a_1]) (n := 2) (Nat.le_of_ble_eq_true rfl)
  rw [lg_entry_eq]
  generalize (lg_sl ([.ref (lq 0), .int a_1]) ++ List.replicate (2 - (lg_sl ([.ref (lq 0), .int a_1])).length) Slot.unset).toArray = ls at hl ⊢
  have hl : lv_has ls 2 [(0, .ref (lq 0)), (1, .int a_1)] := hl
  unfold PX4_count at h
  refine lv_iload_n hx hb dX4_count_0 rfl (lv_at hl 1 rfl) ?_
  by_cases c_1_0 : a_1.toInt < 0 ∨ 9 < a_1.toInt
  · replace h := h.1 c_1_0
    refine lv_tableOut (tgt := 124) hx hb dX4_count_1 c_1_0 (by decide) ?_
    refine lv_bipush (v := (-101 : Int32)) hx hb dX4_count_124 (by decide) ?_
    exact W.iret hx hb hr (fun t ht hW => ⟨(-101 : Int32), rfl, h, ht⟩) (fun _ h9 => by cases h9) dX4_count_126
  · replace h := h.2
    by_cases c_1_0_0 : a_1 = (0 : Int32)
    · replace h := h.1 c_1_0_0
      refine lv_tableIn (tgt := 56) hx hb dX4_count_1 (by rw [c_1_0_0]; decide) (by rw [c_1_0_0]; decide) (by rw [c_1_0_0]; rfl) (by decide) ?_
      refine lv_aload_n hx hb dX4_count_56 rfl (lv_at hl 0 rfl) ?_
      refine va_get (D := g.1) (ci := 4) (v := .ref (nq 0)) (C := RX4) (T := TX4) (N := 9) hx hb hts iX4 hown hK.1 hP 0 rfl rfl 0 (by decide) (hts (.fieldLink RX4 10 "LightWheel" "now" "LLightWheel$State;") (by decide +kernel)) (fun _ h9 => h9) rfl dX4_count_57 ?_
      refine va_get (D := g.1) (ci := 2) (v := .int n_pictureCount) (C := RX2) (T := TX2) (N := 11) hx hb hts iX2 hown hK.1 hP 10 rfl rfl 0 (by decide) (hts (.fieldLink RX4 56 "LightWheel$State" "pictureCount" "I") (by decide +kernel)) (fun _ h9 => h9) rfl dX4_count_60 ?_
      exact W.iret hx hb hr (fun t ht hW => ⟨n_pictureCount, rfl, h, ht⟩) (fun _ h9 => by cases h9) dX4_count_63
    refine id ?_
    by_cases c_1_0_1 : a_1 = (1 : Int32)
    · replace h := h.2.1 c_1_0_1
      refine lv_tableIn (tgt := 64) hx hb dX4_count_1 (by rw [c_1_0_1]; decide) (by rw [c_1_0_1]; decide) (by rw [c_1_0_1]; rfl) (by decide) ?_
      refine lv_aload_n hx hb dX4_count_64 rfl (lv_at hl 0 rfl) ?_
      refine va_get (D := g.1) (ci := 4) (v := .ref (nq 0)) (C := RX4) (T := TX4) (N := 9) hx hb hts iX4 hown hK.1 hP 0 rfl rfl 0 (by decide) (hts (.fieldLink RX4 10 "LightWheel" "now" "LLightWheel$State;") (by decide +kernel)) (fun _ h9 => h9) rfl dX4_count_65 ?_
      refine va_get (D := g.1) (ci := 2) (v := .int n_angle) (C := RX2) (T := TX2) (N := 11) hx hb hts iX2 hown hK.1 hP 10 rfl rfl 2 (by decide) (hts (.fieldLink RX4 156 "LightWheel$State" "angle" "I") (by decide +kernel)) (fun _ h9 => h9) rfl dX4_count_68 ?_
      exact W.iret hx hb hr (fun t ht hW => ⟨n_angle, rfl, h, ht⟩) (fun _ h9 => by cases h9) dX4_count_71
    refine id ?_
    by_cases c_1_0_2 : a_1 = (2 : Int32)
    · replace h := h.2.2.1 c_1_0_2
      refine lv_tableIn (tgt := 72) hx hb dX4_count_1 (by rw [c_1_0_2]; decide) (by rw [c_1_0_2]; decide) (by rw [c_1_0_2]; rfl) (by decide) ?_
      refine lv_aload_n hx hb dX4_count_72 rfl (lv_at hl 0 rfl) ?_
      refine va_get (D := g.1) (ci := 4) (v := .ref (nq 0)) (C := RX4) (T := TX4) (N := 9) hx hb hts iX4 hown hK.1 hP 0 rfl rfl 0 (by decide) (hts (.fieldLink RX4 10 "LightWheel" "now" "LLightWheel$State;") (by decide +kernel)) (fun _ h9 => h9) rfl dX4_count_73 ?_
      refine va_get (D := g.1) (ci := 2) (v := .int n_speed) (C := RX2) (T := TX2) (N := 11) hx hb hts iX2 hown hK.1 hP 10 rfl rfl 3 (by decide) (hts (.fieldLink RX4 159 "LightWheel$State" "speed" "I") (by decide +kernel)) (fun _ h9 => h9) rfl dX4_count_76 ?_
      exact W.iret hx hb hr (fun t ht hW => ⟨n_speed, rfl, h, ht⟩) (fun _ h9 => by cases h9) dX4_count_79
    refine id ?_
    by_cases c_1_0_3 : a_1 = (3 : Int32)
    · replace h := h.2.2.2.1 c_1_0_3
      refine lv_tableIn (tgt := 80) hx hb dX4_count_1 (by rw [c_1_0_3]; decide) (by rw [c_1_0_3]; decide) (by rw [c_1_0_3]; rfl) (by decide) ?_
      refine lv_aload_n hx hb dX4_count_80 rfl (lv_at hl 0 rfl) ?_
      refine va_get (D := g.1) (ci := 4) (v := .ref (nq 0)) (C := RX4) (T := TX4) (N := 9) hx hb hts iX4 hown hK.1 hP 0 rfl rfl 0 (by decide) (hts (.fieldLink RX4 10 "LightWheel" "now" "LLightWheel$State;") (by decide +kernel)) (fun _ h9 => h9) rfl dX4_count_81 ?_
      refine va_get (D := g.1) (ci := 2) (v := .int n_ticks) (C := RX2) (T := TX2) (N := 11) hx hb hts iX2 hown hK.1 hP 10 rfl rfl 4 (by decide) (hts (.fieldLink RX4 131 "LightWheel$State" "ticks" "I") (by decide +kernel)) (fun _ h9 => h9) rfl dX4_count_84 ?_
      exact W.iret hx hb hr (fun t ht hW => ⟨n_ticks, rfl, h, ht⟩) (fun _ h9 => by cases h9) dX4_count_87
    refine id ?_
    by_cases c_1_0_4 : a_1 = (4 : Int32)
    · replace h := h.2.2.2.2.1 c_1_0_4
      refine lv_tableIn (tgt := 88) hx hb dX4_count_1 (by rw [c_1_0_4]; decide) (by rw [c_1_0_4]; decide) (by rw [c_1_0_4]; rfl) (by decide) ?_
      refine lv_aload_n hx hb dX4_count_88 rfl (lv_at hl 0 rfl) ?_
      refine va_get (D := g.1) (ci := 4) (v := .ref (nq 0)) (C := RX4) (T := TX4) (N := 9) hx hb hts iX4 hown hK.1 hP 0 rfl rfl 0 (by decide) (hts (.fieldLink RX4 10 "LightWheel" "now" "LLightWheel$State;") (by decide +kernel)) (fun _ h9 => h9) rfl dX4_count_89 ?_
      refine va_get (D := g.1) (ci := 2) (v := .int n_load) (C := RX2) (T := TX2) (N := 11) hx hb hts iX2 hown hK.1 hP 10 rfl rfl 5 (by decide) (hts (.fieldLink RX4 150 "LightWheel$State" "load" "I") (by decide +kernel)) (fun _ h9 => h9) rfl dX4_count_92 ?_
      exact W.iret hx hb hr (fun t ht hW => ⟨n_load, rfl, h, ht⟩) (fun _ h9 => by cases h9) dX4_count_95
    refine id ?_
    by_cases c_1_0_5 : a_1 = (5 : Int32)
    · replace h := h.2.2.2.2.2.1 c_1_0_5
      refine lv_tableIn (tgt := 96) hx hb dX4_count_1 (by rw [c_1_0_5]; decide) (by rw [c_1_0_5]; decide) (by rw [c_1_0_5]; rfl) (by decide) ?_
      refine lv_aload_n hx hb dX4_count_96 rfl (lv_at hl 0 rfl) ?_
      refine vp_callSi (W.runV (As := []) (rest := []) ⟨hx, hb, hml, hown, hts⟩ (kX4_countLit l g lq rq wq nq hq l_oldest l_historySize l_text l_textLength l_rightAlone r_columns r_columnCount r_awaited r_told r_number r_numberStart w_wanted w_loadAt w_passedIn w_secondArm w_power w_limit w_wantedSpeed w_angle w_speed w_load w_ticks n_pictureCount n_angle n_speed n_ticks n_load n_secondArm n_settings n_working n_written n_writtenIn n_width n_first n_step n_kind n_columns _ h) (cwV 0 hts gX4_count_X4_countLit rfl rfl rfl hdX4_countLit ⟨(Nat.le_of_ble_eq_true rfl), (Nat.le_of_ble_eq_true rfl)⟩) (preV_R (r := (RX4, TX4, 9)) hK hP (ci := 4) (q0 := 0) rfl rfl) rfl rfl hl.1 rfl (lv_room (Nat.le_of_ble_eq_true rfl)) dX4_count_97 ⟨(Nat.le_of_ble_eq_true rfl), (Nat.le_of_ble_eq_true rfl)⟩) (fun r97_2 h => ?_)
      exact W.iret hx hb hr (fun t ht hW => ⟨r97_2, rfl, h, ht⟩) (fun _ h9 => by cases h9) dX4_count_100
    refine id ?_
    by_cases c_1_0_6 : a_1 = (6 : Int32)
    · replace h := h.2.2.2.2.2.2.1 c_1_0_6
      refine lv_tableIn (tgt := 101) hx hb dX4_count_1 (by rw [c_1_0_6]; decide) (by rw [c_1_0_6]; decide) (by rw [c_1_0_6]; rfl) (by decide) ?_
      refine lv_aload_n hx hb dX4_count_101 rfl (lv_at hl 0 rfl) ?_
      refine vp_callSi (W.runV (As := []) (rest := []) ⟨hx, hb, hml, hown, hts⟩ (kX4_countNotAsWanted l g lq rq wq nq hq l_oldest l_historySize l_text l_textLength l_rightAlone r_columns r_columnCount r_awaited r_told r_number r_numberStart w_wanted w_loadAt w_passedIn w_secondArm w_power w_limit w_wantedSpeed w_angle w_speed w_load w_ticks n_pictureCount n_angle n_speed n_ticks n_load n_secondArm n_settings n_working n_written n_writtenIn n_width n_first n_step n_kind n_columns _ h) (cwV 0 hts gX4_count_X4_countNotAsWanted rfl rfl rfl hdX4_countNotAsWanted ⟨(Nat.le_of_ble_eq_true rfl), (Nat.le_of_ble_eq_true rfl)⟩) (preV_R (r := (RX4, TX4, 9)) hK hP (ci := 4) (q0 := 0) rfl rfl) rfl rfl hl.1 rfl (lv_room (Nat.le_of_ble_eq_true rfl)) dX4_count_102 ⟨(Nat.le_of_ble_eq_true rfl), (Nat.le_of_ble_eq_true rfl)⟩) (fun r102_3 h => ?_)
      exact W.iret hx hb hr (fun t ht hW => ⟨r102_3, rfl, h, ht⟩) (fun _ h9 => by cases h9) dX4_count_105
    refine id ?_
    by_cases c_1_0_7 : a_1 = (7 : Int32)
    · replace h := h.2.2.2.2.2.2.2.1 c_1_0_7
      refine lv_tableIn (tgt := 106) hx hb dX4_count_1 (by rw [c_1_0_7]; decide) (by rw [c_1_0_7]; decide) (by rw [c_1_0_7]; rfl) (by decide) ?_
      refine lv_aload_n hx hb dX4_count_106 rfl (lv_at hl 0 rfl) ?_
      refine va_get (D := g.1) (ci := 4) (v := .ref (nq 0)) (C := RX4) (T := TX4) (N := 9) hx hb hts iX4 hown hK.1 hP 0 rfl rfl 0 (by decide) (hts (.fieldLink RX4 10 "LightWheel" "now" "LLightWheel$State;") (by decide +kernel)) (fun _ h9 => h9) rfl dX4_count_107 ?_
      refine va_get (D := g.1) (ci := 2) (v := .int n_secondArm) (C := RX2) (T := TX2) (N := 11) hx hb hts iX2 hown hK.1 hP 10 rfl rfl 6 (by decide) (hts (.fieldLink RX4 109 "LightWheel$State" "secondArm" "I") (by decide +kernel)) (fun _ h9 => h9) rfl dX4_count_110 ?_
      exact W.iret hx hb hr (fun t ht hW => ⟨n_secondArm, rfl, h, ht⟩) (fun _ h9 => by cases h9) dX4_count_113
    refine id ?_
    by_cases c_1_0_8 : a_1 = (8 : Int32)
    · replace h := h.2.2.2.2.2.2.2.2.1 c_1_0_8
      refine lv_tableIn (tgt := 114) hx hb dX4_count_1 (by rw [c_1_0_8]; decide) (by rw [c_1_0_8]; decide) (by rw [c_1_0_8]; rfl) (by decide) ?_
      refine lv_aload_n hx hb dX4_count_114 rfl (lv_at hl 0 rfl) ?_
      refine va_get (D := g.1) (ci := 4) (v := .int l_historySize) (C := RX4) (T := TX4) (N := 9) hx hb hts iX4 hown hK.1 hP 0 rfl rfl 3 (by decide) (hts (.fieldLink RX4 24 "LightWheel" "historySize" "I") (by decide +kernel)) (fun _ h9 => h9) rfl dX4_count_115 ?_
      exact W.iret hx hb hr (fun t ht hW => ⟨l_historySize, rfl, h, ht⟩) (fun _ h9 => by cases h9) dX4_count_118
    refine id ?_
    have c_1_0_9 : a_1 = (9 : Int32) := by
      have z0 : a_1.toInt ≠ 0 := fun q => c_1_0_0 (Int32.toInt_inj.mp (q.trans (by decide)))
      have z1 : a_1.toInt ≠ 1 := fun q => c_1_0_1 (Int32.toInt_inj.mp (q.trans (by decide)))
      have z2 : a_1.toInt ≠ 2 := fun q => c_1_0_2 (Int32.toInt_inj.mp (q.trans (by decide)))
      have z3 : a_1.toInt ≠ 3 := fun q => c_1_0_3 (Int32.toInt_inj.mp (q.trans (by decide)))
      have z4 : a_1.toInt ≠ 4 := fun q => c_1_0_4 (Int32.toInt_inj.mp (q.trans (by decide)))
      have z5 : a_1.toInt ≠ 5 := fun q => c_1_0_5 (Int32.toInt_inj.mp (q.trans (by decide)))
      have z6 : a_1.toInt ≠ 6 := fun q => c_1_0_6 (Int32.toInt_inj.mp (q.trans (by decide)))
      have z7 : a_1.toInt ≠ 7 := fun q => c_1_0_7 (Int32.toInt_inj.mp (q.trans (by decide)))
      have z8 : a_1.toInt ≠ 8 := fun q => c_1_0_8 (Int32.toInt_inj.mp (q.trans (by decide)))
      exact Int32.toInt_inj.mp ((by omega : a_1.toInt = 9).trans (by decide))
    replace h := h.2.2.2.2.2.2.2.2.2 c_1_0_9
    refine lv_tableIn (tgt := 119) hx hb dX4_count_1 (by rw [c_1_0_9]; decide) (by rw [c_1_0_9]; decide) (by rw [c_1_0_9]; rfl) (by decide) ?_
    refine lv_aload_n hx hb dX4_count_119 rfl (lv_at hl 0 rfl) ?_
    refine va_get (D := g.1) (ci := 4) (v := .int l_textLength) (C := RX4) (T := TX4) (N := 9) hx hb hts iX4 hown hK.1 hP 0 rfl rfl 5 (by decide) (hts (.fieldLink RX4 31 "LightWheel" "textLength" "I") (by decide +kernel)) (fun _ h9 => h9) rfl dX4_count_120 ?_
    exact W.iret hx hb hr (fun t ht hW => ⟨l_textLength, rfl, h, ht⟩) (fun _ h9 => by cases h9) dX4_count_123
theorem hdX4_picture : yX4_picture.cls = RX4 ∧ yX4_picture.cls ≠ "java/lang/invoke/MethodHandle" ∧ yX4_picture.cls ≠ "java/lang/invoke/VarHandle" ∧ (parseMethodDescriptor yX4_picture.desc).map (fun d => d.parameters.length) = some 2 := by decide +kernel
set_option maxHeartbeats 4000000 in
set_option maxRecDepth 100000 in
theorem kX4_picture (l : Launch) (g : GG) (lq rq wq nq : Nat → Nat) (hq : Nat → Nat → Nat) (l_oldest : Int32) (l_historySize : Int32) (l_text : Nat → Int32) (l_textLength : Int32) (l_rightAlone : Nat → Int64) (r_columns : Nat → Int64) (r_columnCount : Int32) (r_awaited : Int32) (r_told : Int32) (r_number : Int32) (r_numberStart : Int32) (w_wanted : Nat → Int64) (w_loadAt : Nat → Int32) (w_passedIn : Nat → Int32) (w_secondArm : Int32) (w_power : Int32) (w_limit : Int32) (w_wantedSpeed : Int32) (w_angle : Int32) (w_speed : Int32) (w_load : Int32) (w_ticks : Int32) (n_pictureCount : Int32) (n_angle : Int32) (n_speed : Int32) (n_ticks : Int32) (n_load : Int32) (n_secondArm : Int32) (n_settings : Nat → Int32) (n_working : Nat → Int64) (n_written : Nat → Int64) (n_writtenIn : Nat → Int32) (n_width : Nat → Int32) (n_first : Nat → Int32) (n_step : Nat → Int32) (n_kind : Nat → Int32) (n_columns : Nat → Nat → Int64) (a_1 : Int32) (a_2 : Int32) (k : Int32 → Prop) (h : PX4_picture n_pictureCount n_width n_first n_step n_kind n_columns a_1 a_2 k) : Met l yX4_picture wsX4_picture ({ frames := 2, cells := 0, slots := 0, locals := 43 }) (PreR g [.ref (lq 0), .int a_1, .int a_2] (wL g lq nq rq wq hq l_oldest l_historySize l_text l_textLength l_rightAlone ++ (wR g rq r_columns r_columnCount r_awaited r_told r_number r_numberStart ++ (wW g wq w_wanted w_loadAt w_passedIn w_secondArm w_power w_limit w_wantedSpeed w_angle w_speed w_load w_ticks ++ (wS g nq n_pictureCount n_angle n_speed n_ticks n_load n_secondArm n_settings n_working n_written n_writtenIn n_width n_first n_step n_kind n_columns))))) (vp_Si k) 0 0 (fun _ => False) := by
  refine Met.ofW (cc := cX4_picture) (maxL := 4) (ret := (some .int)) (by decide) rfl ?_
  intro p e s m args below meth c s₁ B hml hv
  obtain ⟨rfl, hP, hK⟩ := hv
  have hx := B.exec
  have hb := B.bytes
  have hr := B.returns
  have hts := atoms_spec (ws := wsX4_picture) B.pre
  have hown : s.vm.findClass RX4 = some m.cls := findClass_of_methodNamed B.named
  have hlocks := B.notSynchronized
  have iX0 : ∀ w ∈ wsX00, w ∈ wsX4_picture := by decide +kernel
  have iX4 : ∀ w ∈ wsX40, w ∈ wsX4_picture := by decide +kernel
  have hl := lv_entry ([.ref (lq 0), .int a_1, .int a_2]) (n := 4) (Nat.le_of_ble_eq_true rfl)
  rw [lg_entry_eq]
  generalize (lg_sl ([.ref (lq 0), .int a_1, .int a_2]) ++ List.replicate (4 - (lg_sl ([.ref (lq 0), .int a_1, .int a_2])).length) Slot.unset).toArray = ls at hl ⊢
  have hl : lv_has ls 4 [(0, .ref (lq 0)), (1, .int a_1), (2, .int a_2)] := hl
  unfold PX4_picture at h
  refine lv_aload_n hx hb dX4_picture_0 rfl (lv_at hl 0 rfl) ?_
  refine va_get (D := g.1) (ci := 4) (v := .ref (nq 0)) (C := RX4) (T := TX4) (N := 9) hx hb hts iX4 hown hK.1 hP 0 rfl rfl 0 (by decide) (hts (.fieldLink RX4 10 "LightWheel" "now" "LLightWheel$State;") (by decide +kernel)) (fun _ h9 => h9) rfl dX4_picture_1 ?_
  refine lv_iload_n hx hb dX4_picture_4 rfl (lv_at hl 1 rfl) ?_
  have hPc : va_P g.1 vwCl (wS g nq n_pictureCount n_angle n_speed n_ticks n_load n_secondArm n_settings n_working n_written n_writtenIn n_width n_first n_step n_kind n_columns) s.heap := hP.sub [10, 11, 12, 13, 14, 15, 16, 17, 18, 19, 20, 21, 22, 23] rfl
  refine va_cse (ad := fun j => nq (6 + 2 * j)) (W.runV (As := [.int a_1]) (rest := []) ⟨hx, hb, hml, hown, hts⟩ (kX2_pictureNumbered l g nq n_pictureCount n_angle n_speed n_ticks n_load n_secondArm n_settings n_working n_written n_writtenIn n_width n_first n_step n_kind n_columns a_1 _ h) (cwV 1 hts gX4_picture_X2_pictureNumbered rfl rfl rfl hdX2_pictureNumbered ⟨(Nat.le_of_ble_eq_true rfl), (Nat.le_of_ble_eq_true rfl)⟩) (preV_R (r := (RX2, TX2, 11)) hK hPc (ci := 2) (q0 := 0) rfl rfl) rfl rfl hl.1 rfl (lv_room (Nat.le_of_ble_eq_true rfl)) dX4_picture_5 ⟨(Nat.le_of_ble_eq_true rfl), (Nat.le_of_ble_eq_true rfl)⟩) (fun o_1 hh => ?_)
  obtain ⟨h4, h⟩ := hh
  rcases o_1 with _ | j_2
  · refine W.eq (g2 := F0 m 8 ls [.null]) rfl ?_
    replace h := h.1 rfl
    refine lv_astore_nN (lv' := [(3, .null), (0, .ref (lq 0)), (1, .int a_1), (2, .int a_2)]) hx hb dX4_picture_8 rfl hl (by decide) rfl (fun ls hl => ?_)
    refine lv_aload_nN hx hb dX4_picture_9 rfl (lv_at hl 0 rfl) ?_
    refine lv_ifnonnullN hx hb dX4_picture_10 ?_
    refine lv_bipush (v := (-101 : Int32)) hx hb dX4_picture_13 (by decide) ?_
    exact W.iret hx hb hr (fun t ht hW => ⟨(-101 : Int32), rfl, h, ht⟩) (fun _ h9 => by cases h9) dX4_picture_15
  · refine W.eq (g2 := F0 m 8 ls [.ref (nq (6 + 2 * j_2))]) rfl ?_
    have hj_2 : j_2 < 4 := h4 j_2 rfl
    replace h := h.2 j_2 hj_2 rfl
    refine lv_astore_n (lv' := [(3, .ref (nq (6 + 2 * j_2))), (0, .ref (lq 0)), (1, .int a_1), (2, .int a_2)]) hx hb dX4_picture_8 rfl hl (by decide) rfl (fun ls hl => ?_)
    refine lv_aload_n hx hb dX4_picture_9 rfl (lv_at hl 0 rfl) ?_
    refine lv_ifnonnull (tgt := 16) hx hb dX4_picture_10 (by decide) ?_
    refine lv_iload_n hx hb dX4_picture_16 rfl (lv_at hl 3 rfl) ?_
    by_cases c_17_2 : a_2.toInt < 0 ∨ 5 < a_2.toInt
    · replace h := h.1 c_17_2
      refine lv_tableOut (tgt := 86) hx hb dX4_picture_17 c_17_2 (by decide) ?_
      refine lv_bipush (v := (-101 : Int32)) hx hb dX4_picture_86 (by decide) ?_
      exact W.iret hx hb hr (fun t ht hW => ⟨(-101 : Int32), rfl, h, ht⟩) (fun _ h9 => by cases h9) dX4_picture_88
    · replace h := h.2
      by_cases c_17_2_0 : a_2 = (0 : Int32)
      · replace h := h.1 c_17_2_0
        refine lv_tableIn (tgt := 56) hx hb dX4_picture_17 (by rw [c_17_2_0]; decide) (by rw [c_17_2_0]; decide) (by rw [c_17_2_0]; rfl) (by decide) ?_
        refine lv_aload_n hx hb dX4_picture_56 rfl (lv_at hl 0 rfl) ?_
        refine va_get (D := g.1) (ci := 0) (v := .int (n_width j_2)) (C := RX0) (T := TX0) (N := 5) (a := (nq (6 + 2 * j_2))) (fs := [.int (n_width j_2), .int (n_first j_2), .int (n_step j_2), .int (n_kind j_2), .ref (nq (7 + 2 * j_2))]) hx hb hts iX0 hown hK.1 hP (16 + 2 * j_2) (by rcases pk4 hj_2 with rfl | rfl | rfl | rfl <;> rfl) rfl 0 (by decide) (hts (.fieldLink RX4 66 "LightWheel$Picture" "width" "I") (by decide +kernel)) (fun _ h9 => h9) rfl dX4_picture_57 ?_
        exact W.iret hx hb hr (fun t ht hW => ⟨(n_width j_2), rfl, h, ht⟩) (fun _ h9 => by cases h9) dX4_picture_60
      refine id ?_
      by_cases c_17_2_1 : a_2 = (1 : Int32)
      · replace h := h.2.1 c_17_2_1
        refine lv_tableIn (tgt := 61) hx hb dX4_picture_17 (by rw [c_17_2_1]; decide) (by rw [c_17_2_1]; decide) (by rw [c_17_2_1]; rfl) (by decide) ?_
        refine lv_aload_n hx hb dX4_picture_61 rfl (lv_at hl 0 rfl) ?_
        refine va_get (D := g.1) (ci := 0) (v := .int (n_first j_2)) (C := RX0) (T := TX0) (N := 5) (a := (nq (6 + 2 * j_2))) (fs := [.int (n_width j_2), .int (n_first j_2), .int (n_step j_2), .int (n_kind j_2), .ref (nq (7 + 2 * j_2))]) hx hb hts iX0 hown hK.1 hP (16 + 2 * j_2) (by rcases pk4 hj_2 with rfl | rfl | rfl | rfl <;> rfl) rfl 1 (by decide) (hts (.fieldLink RX4 86 "LightWheel$Picture" "first" "I") (by decide +kernel)) (fun _ h9 => h9) rfl dX4_picture_62 ?_
        exact W.iret hx hb hr (fun t ht hW => ⟨(n_first j_2), rfl, h, ht⟩) (fun _ h9 => by cases h9) dX4_picture_65
      refine id ?_
      by_cases c_17_2_2 : a_2 = (2 : Int32)
      · replace h := h.2.2.1 c_17_2_2
        refine lv_tableIn (tgt := 66) hx hb dX4_picture_17 (by rw [c_17_2_2]; decide) (by rw [c_17_2_2]; decide) (by rw [c_17_2_2]; rfl) (by decide) ?_
        refine lv_aload_n hx hb dX4_picture_66 rfl (lv_at hl 0 rfl) ?_
        refine va_get (D := g.1) (ci := 0) (v := .int (n_step j_2)) (C := RX0) (T := TX0) (N := 5) (a := (nq (6 + 2 * j_2))) (fs := [.int (n_width j_2), .int (n_first j_2), .int (n_step j_2), .int (n_kind j_2), .ref (nq (7 + 2 * j_2))]) hx hb hts iX0 hown hK.1 hP (16 + 2 * j_2) (by rcases pk4 hj_2 with rfl | rfl | rfl | rfl <;> rfl) rfl 2 (by decide) (hts (.fieldLink RX4 89 "LightWheel$Picture" "step" "I") (by decide +kernel)) (fun _ h9 => h9) rfl dX4_picture_67 ?_
        exact W.iret hx hb hr (fun t ht hW => ⟨(n_step j_2), rfl, h, ht⟩) (fun _ h9 => by cases h9) dX4_picture_70
      refine id ?_
      by_cases c_17_2_3 : a_2 = (3 : Int32)
      · replace h := h.2.2.2.1 c_17_2_3
        refine lv_tableIn (tgt := 71) hx hb dX4_picture_17 (by rw [c_17_2_3]; decide) (by rw [c_17_2_3]; decide) (by rw [c_17_2_3]; rfl) (by decide) ?_
        refine lv_aload_n hx hb dX4_picture_71 rfl (lv_at hl 0 rfl) ?_
        refine va_get (D := g.1) (ci := 0) (v := .int (n_kind j_2)) (C := RX0) (T := TX0) (N := 5) (a := (nq (6 + 2 * j_2))) (fs := [.int (n_width j_2), .int (n_first j_2), .int (n_step j_2), .int (n_kind j_2), .ref (nq (7 + 2 * j_2))]) hx hb hts iX0 hown hK.1 hP (16 + 2 * j_2) (by rcases pk4 hj_2 with rfl | rfl | rfl | rfl <;> rfl) rfl 3 (by decide) (hts (.fieldLink RX4 92 "LightWheel$Picture" "kind" "I") (by decide +kernel)) (fun _ h9 => h9) rfl dX4_picture_72 ?_
        exact W.iret hx hb hr (fun t ht hW => ⟨(n_kind j_2), rfl, h, ht⟩) (fun _ h9 => by cases h9) dX4_picture_75
      refine id ?_
      by_cases c_17_2_4 : a_2 = (4 : Int32)
      · replace h := h.2.2.2.2.1 c_17_2_4
        refine lv_tableIn (tgt := 76) hx hb dX4_picture_17 (by rw [c_17_2_4]; decide) (by rw [c_17_2_4]; decide) (by rw [c_17_2_4]; rfl) (by decide) ?_
        refine lv_aload_n hx hb dX4_picture_76 rfl (lv_at hl 0 rfl) ?_
        have hPc : va_P g.1 vwCl (wP g (fun i => nq (6 + 2 * j_2 + i)) (n_width j_2) (n_first j_2) (n_step j_2) (n_kind j_2) (n_columns j_2)) s.heap := by rcases pk4 hj_2 with rfl | rfl | rfl | rfl <;> first | exact hP.sub [16, 17] rfl | exact hP.sub [18, 19] rfl | exact hP.sub [20, 21] rfl | exact hP.sub [22, 23] rfl
        refine vp_callSi (W.runV (As := []) (rest := []) ⟨hx, hb, hml, hown, hts⟩ (kX0_countNotDark l g (fun i => nq (6 + 2 * j_2 + i)) (n_width j_2) (n_first j_2) (n_step j_2) (n_kind j_2) (n_columns j_2) _ h) (cwV 0 hts gX4_picture_X0_countNotDark rfl rfl rfl hdX0_countNotDark ⟨(Nat.le_of_ble_eq_true rfl), (Nat.le_of_ble_eq_true rfl)⟩) (preV_R (r := (RX0, TX0, 5)) hK hPc (ci := 0) (q0 := 0) rfl rfl) rfl rfl hl.1 rfl (lv_room (Nat.le_of_ble_eq_true rfl)) dX4_picture_77 ⟨(Nat.le_of_ble_eq_true rfl), (Nat.le_of_ble_eq_true rfl)⟩) (fun r77_4 h => ?_)
        exact W.iret hx hb hr (fun t ht hW => ⟨r77_4, rfl, h, ht⟩) (fun _ h9 => by cases h9) dX4_picture_80
      refine id ?_
      have c_17_2_5 : a_2 = (5 : Int32) := by
        have z0 : a_2.toInt ≠ 0 := fun q => c_17_2_0 (Int32.toInt_inj.mp (q.trans (by decide)))
        have z1 : a_2.toInt ≠ 1 := fun q => c_17_2_1 (Int32.toInt_inj.mp (q.trans (by decide)))
        have z2 : a_2.toInt ≠ 2 := fun q => c_17_2_2 (Int32.toInt_inj.mp (q.trans (by decide)))
        have z3 : a_2.toInt ≠ 3 := fun q => c_17_2_3 (Int32.toInt_inj.mp (q.trans (by decide)))
        have z4 : a_2.toInt ≠ 4 := fun q => c_17_2_4 (Int32.toInt_inj.mp (q.trans (by decide)))
        exact Int32.toInt_inj.mp ((by omega : a_2.toInt = 5).trans (by decide))
      replace h := h.2.2.2.2.2 c_17_2_5
      refine lv_tableIn (tgt := 81) hx hb dX4_picture_17 (by rw [c_17_2_5]; decide) (by rw [c_17_2_5]; decide) (by rw [c_17_2_5]; rfl) (by decide) ?_
      refine lv_aload_n hx hb dX4_picture_81 rfl (lv_at hl 0 rfl) ?_
      have hPc : va_P g.1 vwCl (wP g (fun i => nq (6 + 2 * j_2 + i)) (n_width j_2) (n_first j_2) (n_step j_2) (n_kind j_2) (n_columns j_2)) s.heap := by rcases pk4 hj_2 with rfl | rfl | rfl | rfl <;> first | exact hP.sub [16, 17] rfl | exact hP.sub [18, 19] rfl | exact hP.sub [20, 21] rfl | exact hP.sub [22, 23] rfl
      refine vp_callSi (W.runV (As := []) (rest := []) ⟨hx, hb, hml, hown, hts⟩ (kX0_coveredAngles l g (fun i => nq (6 + 2 * j_2 + i)) (n_width j_2) (n_first j_2) (n_step j_2) (n_kind j_2) (n_columns j_2) _ h) (cwV 0 hts gX4_picture_X0_coveredAngles rfl rfl rfl hdX0_coveredAngles ⟨(Nat.le_of_ble_eq_true rfl), (Nat.le_of_ble_eq_true rfl)⟩) (preV_R (r := (RX0, TX0, 5)) hK hPc (ci := 0) (q0 := 0) rfl rfl) rfl rfl hl.1 rfl (lv_room (Nat.le_of_ble_eq_true rfl)) dX4_picture_82 ⟨(Nat.le_of_ble_eq_true rfl), (Nat.le_of_ble_eq_true rfl)⟩) (fun r82_5 h => ?_)
      exact W.iret hx hb hr (fun t ht hW => ⟨r82_5, rfl, h, ht⟩) (fun _ h9 => by cases h9) dX4_picture_85
theorem hdX4_color : yX4_color.cls = RX4 ∧ yX4_color.cls ≠ "java/lang/invoke/MethodHandle" ∧ yX4_color.cls ≠ "java/lang/invoke/VarHandle" ∧ (parseMethodDescriptor yX4_color.desc).map (fun d => d.parameters.length) = some 3 := by decide +kernel
set_option maxHeartbeats 4000000 in
set_option maxRecDepth 100000 in
theorem kX4_color (l : Launch) (g : GG) (lq rq wq nq : Nat → Nat) (hq : Nat → Nat → Nat) (l_oldest : Int32) (l_historySize : Int32) (l_text : Nat → Int32) (l_textLength : Int32) (l_rightAlone : Nat → Int64) (r_columns : Nat → Int64) (r_columnCount : Int32) (r_awaited : Int32) (r_told : Int32) (r_number : Int32) (r_numberStart : Int32) (w_wanted : Nat → Int64) (w_loadAt : Nat → Int32) (w_passedIn : Nat → Int32) (w_secondArm : Int32) (w_power : Int32) (w_limit : Int32) (w_wantedSpeed : Int32) (w_angle : Int32) (w_speed : Int32) (w_load : Int32) (w_ticks : Int32) (n_pictureCount : Int32) (n_angle : Int32) (n_speed : Int32) (n_ticks : Int32) (n_load : Int32) (n_secondArm : Int32) (n_settings : Nat → Int32) (n_working : Nat → Int64) (n_written : Nat → Int64) (n_writtenIn : Nat → Int32) (n_width : Nat → Int32) (n_first : Nat → Int32) (n_step : Nat → Int32) (n_kind : Nat → Int32) (n_columns : Nat → Nat → Int64) (a_1 : Int32) (a_2 : Int32) (a_3 : Int32) (k : Int32 → Prop) (h : PX4_color n_pictureCount n_width n_columns a_1 a_2 a_3 k) : Met l yX4_color wsX4_color ({ frames := 2, cells := 0, slots := 0, locals := 43 }) (PreR g [.ref (lq 0), .int a_1, .int a_2, .int a_3] (wL g lq nq rq wq hq l_oldest l_historySize l_text l_textLength l_rightAlone ++ (wR g rq r_columns r_columnCount r_awaited r_told r_number r_numberStart ++ (wW g wq w_wanted w_loadAt w_passedIn w_secondArm w_power w_limit w_wantedSpeed w_angle w_speed w_load w_ticks ++ (wS g nq n_pictureCount n_angle n_speed n_ticks n_load n_secondArm n_settings n_working n_written n_writtenIn n_width n_first n_step n_kind n_columns))))) (vp_Si k) 0 0 (fun _ => False) := by
  refine Met.ofW (cc := cX4_color) (maxL := 5) (ret := (some .int)) (by decide) rfl ?_
  intro p e s m args below meth c s₁ B hml hv
  obtain ⟨rfl, hP, hK⟩ := hv
  have hx := B.exec
  have hb := B.bytes
  have hr := B.returns
  have hts := atoms_spec (ws := wsX4_color) B.pre
  have hown : s.vm.findClass RX4 = some m.cls := findClass_of_methodNamed B.named
  have hlocks := B.notSynchronized
  have iX0 : ∀ w ∈ wsX00, w ∈ wsX4_color := by decide +kernel
  have iX4 : ∀ w ∈ wsX40, w ∈ wsX4_color := by decide +kernel
  have hl := lv_entry ([.ref (lq 0), .int a_1, .int a_2, .int a_3]) (n := 5) (Nat.le_of_ble_eq_true rfl)
  rw [lg_entry_eq]
  generalize (lg_sl ([.ref (lq 0), .int a_1, .int a_2, .int a_3]) ++ List.replicate (5 - (lg_sl ([.ref (lq 0), .int a_1, .int a_2, .int a_3])).length) Slot.unset).toArray = ls at hl ⊢
  have hl : lv_has ls 5 [(0, .ref (lq 0)), (1, .int a_1), (2, .int a_2), (3, .int a_3)] := hl
  unfold PX4_color at h
  refine lv_aload_n hx hb dX4_color_0 rfl (lv_at hl 0 rfl) ?_
  refine va_get (D := g.1) (ci := 4) (v := .ref (nq 0)) (C := RX4) (T := TX4) (N := 9) hx hb hts iX4 hown hK.1 hP 0 rfl rfl 0 (by decide) (hts (.fieldLink RX4 10 "LightWheel" "now" "LLightWheel$State;") (by decide +kernel)) (fun _ h9 => h9) rfl dX4_color_1 ?_
  refine lv_iload_n hx hb dX4_color_4 rfl (lv_at hl 1 rfl) ?_
  have hPc : va_P g.1 vwCl (wS g nq n_pictureCount n_angle n_speed n_ticks n_load n_secondArm n_settings n_working n_written n_writtenIn n_width n_first n_step n_kind n_columns) s.heap := hP.sub [10, 11, 12, 13, 14, 15, 16, 17, 18, 19, 20, 21, 22, 23] rfl
  refine va_cse (ad := fun j => nq (6 + 2 * j)) (W.runV (As := [.int a_1]) (rest := []) ⟨hx, hb, hml, hown, hts⟩ (kX2_pictureNumbered l g nq n_pictureCount n_angle n_speed n_ticks n_load n_secondArm n_settings n_working n_written n_writtenIn n_width n_first n_step n_kind n_columns a_1 _ h) (cwV 1 hts gX4_color_X2_pictureNumbered rfl rfl rfl hdX2_pictureNumbered ⟨(Nat.le_of_ble_eq_true rfl), (Nat.le_of_ble_eq_true rfl)⟩) (preV_R (r := (RX2, TX2, 11)) hK hPc (ci := 2) (q0 := 0) rfl rfl) rfl rfl hl.1 rfl (lv_room (Nat.le_of_ble_eq_true rfl)) dX4_color_5 ⟨(Nat.le_of_ble_eq_true rfl), (Nat.le_of_ble_eq_true rfl)⟩) (fun o_1 hh => ?_)
  obtain ⟨h4, h⟩ := hh
  rcases o_1 with _ | j_2
  · refine W.eq (g2 := F0 m 8 ls [.null]) rfl ?_
    replace h := h.1 rfl
    refine lv_astoreN (lv' := [(4, .null), (0, .ref (lq 0)), (1, .int a_1), (2, .int a_2), (3, .int a_3)]) hx hb dX4_color_8 hl (by decide) rfl (fun ls hl => ?_)
    refine lv_aloadN hx hb dX4_color_10 (lv_at hl 0 rfl) ?_
    refine lv_ifnullN (tgt := 35) hx hb dX4_color_12 (by decide) ?_
    refine lv_bipush (v := (-101 : Int32)) hx hb dX4_color_35 (by decide) ?_
    exact W.iret hx hb hr (fun t ht hW => ⟨(-101 : Int32), rfl, h, ht⟩) (fun _ h9 => by cases h9) dX4_color_37
  · refine W.eq (g2 := F0 m 8 ls [.ref (nq (6 + 2 * j_2))]) rfl ?_
    have hj_2 : j_2 < 4 := h4 j_2 rfl
    replace h := h.2 j_2 hj_2 rfl
    refine lv_astore (lv' := [(4, .ref (nq (6 + 2 * j_2))), (0, .ref (lq 0)), (1, .int a_1), (2, .int a_2), (3, .int a_3)]) hx hb dX4_color_8 hl (by decide) rfl (fun ls hl => ?_)
    refine lv_aload hx hb dX4_color_10 (lv_at hl 0 rfl) ?_
    refine lv_ifnull hx hb dX4_color_12 ?_
    refine lv_iload_n hx hb dX4_color_15 rfl (lv_at hl 3 rfl) ?_
    refine lv_iconst (v := (0 : Int32)) hx hb dX4_color_16 (by decide) ?_
    refine lv_bipush (v := (39 : Int32)) hx hb dX4_color_17 (by decide) ?_
    refine vp_callSi (W.runS (As := [.int a_2, .int (0 : Int32), .int (39 : Int32)]) (rest := []) ⟨hx, hb, hml, hown, hts⟩ (kX4_within l g  a_2 (0 : Int32) (39 : Int32) _ h) (va_cwS 3 hts gX4_color_X4_within rfl rfl rfl hdX4_within.2 ⟨(Nat.le_of_ble_eq_true rfl), (Nat.le_of_ble_eq_true rfl)⟩) (preS_R hK (va_P_nil (D := g.1) (cl := vwCl))) rfl rfl hl.1 rfl (lv_room (Nat.le_of_ble_eq_true rfl)) dX4_color_19 ⟨(Nat.le_of_ble_eq_true rfl), (Nat.le_of_ble_eq_true rfl)⟩) (fun r19_3 h => ?_)
    refine lv_if_eq (tgt := 35) hx hb dX4_color_22 (by decide) (fun c_22_3 => ?_) (fun c_22_3 => ?_)
    · replace h := h.1 c_22_3
      refine lv_bipush (v := (-101 : Int32)) hx hb dX4_color_35 (by decide) ?_
      exact W.iret hx hb hr (fun t ht hW => ⟨(-101 : Int32), rfl, h, ht⟩) (fun _ h9 => by cases h9) dX4_color_37
    · replace h := h.2 c_22_3
      refine lv_iload_n hx hb dX4_color_25 rfl (lv_at hl 4 rfl) ?_
      refine lv_iconst (v := (0 : Int32)) hx hb dX4_color_26 (by decide) ?_
      refine lv_bipush (v := (11 : Int32)) hx hb dX4_color_27 (by decide) ?_
      refine vp_callSi (W.runS (As := [.int a_3, .int (0 : Int32), .int (11 : Int32)]) (rest := []) ⟨hx, hb, hml, hown, hts⟩ (kX4_within l g  a_3 (0 : Int32) (11 : Int32) _ h) (va_cwS 3 hts gX4_color_X4_within rfl rfl rfl hdX4_within.2 ⟨(Nat.le_of_ble_eq_true rfl), (Nat.le_of_ble_eq_true rfl)⟩) (preS_R hK (va_P_nil (D := g.1) (cl := vwCl))) rfl rfl hl.1 rfl (lv_room (Nat.le_of_ble_eq_true rfl)) dX4_color_29 ⟨(Nat.le_of_ble_eq_true rfl), (Nat.le_of_ble_eq_true rfl)⟩) (fun r29_5 h => ?_)
      refine lv_if_ne (tgt := 38) hx hb dX4_color_32 (by decide) (fun c_32_5 => ?_) (fun c_32_5 => ?_)
      · replace h := h.1 c_32_5
        refine lv_iload_n hx hb dX4_color_38 rfl (lv_at hl 3 rfl) ?_
        refine lv_aload hx hb dX4_color_39 (lv_at hl 0 rfl) ?_
        refine va_get (D := g.1) (ci := 0) (v := .int (n_width j_2)) (C := RX0) (T := TX0) (N := 5) (a := (nq (6 + 2 * j_2))) (fs := [.int (n_width j_2), .int (n_first j_2), .int (n_step j_2), .int (n_kind j_2), .ref (nq (7 + 2 * j_2))]) hx hb hts iX0 hown hK.1 hP (16 + 2 * j_2) (by rcases pk4 hj_2 with rfl | rfl | rfl | rfl <;> rfl) rfl 0 (by decide) (hts (.fieldLink RX4 66 "LightWheel$Picture" "width" "I") (by decide +kernel)) (fun _ h9 => h9) rfl dX4_color_41 ?_
        refine lv_icmp_ge (tgt := 61) hx hb dX4_color_44 (by decide) (fun c_44_6 => ?_) (fun c_44_6 => ?_)
        · replace h := h.1 c_44_6
          refine lv_bipush (v := (-109 : Int32)) hx hb dX4_color_61 (by decide) ?_
          exact W.iret hx hb hr (fun t ht hW => ⟨(-109 : Int32), rfl, h, ht⟩) (fun _ h9 => by cases h9) dX4_color_63
        · replace h := h.2 c_44_6
          refine lv_aload hx hb dX4_color_47 (lv_at hl 0 rfl) ?_
          refine va_get (D := g.1) (ci := 0) (v := .ref (nq (7 + 2 * j_2))) (C := RX0) (T := TX0) (N := 5) (a := (nq (6 + 2 * j_2))) (fs := [.int (n_width j_2), .int (n_first j_2), .int (n_step j_2), .int (n_kind j_2), .ref (nq (7 + 2 * j_2))]) hx hb hts iX0 hown hK.1 hP (16 + 2 * j_2) (by rcases pk4 hj_2 with rfl | rfl | rfl | rfl <;> rfl) rfl 4 (by decide) (hts (.fieldLink RX4 75 "LightWheel$Picture" "columns" "[J") (by decide +kernel)) (fun _ h9 => h9) rfl dX4_color_49 ?_
          refine lv_iload_n hx hb dX4_color_52 rfl (lv_at hl 3 rfl) ?_
          have o_53_7 := h.1
          replace h := h.2
          refine va_lald (a := (nq (7 + 2 * j_2))) (n := 40) (f := (n_columns j_2)) hx hb hK.1 hP (17 + 2 * j_2) 1 (by rcases pk4 hj_2 with rfl | rfl | rfl | rfl <;> rfl) rfl o_53_7 dX4_color_53 ?_
          refine lv_iload_n hx hb dX4_color_54 rfl (lv_at hl 4 rfl) ?_
          refine vp_callSi (W.runS (As := [.long ((n_columns j_2) (Int32.toNatClampNeg a_2)), .int a_3]) (rest := []) ⟨hx, hb, hml, hown, hts⟩ (kX4_colorIn l g  ((n_columns j_2) (Int32.toNatClampNeg a_2)) a_3 _ h) (va_cwS 2 hts gX4_color_X4_colorIn rfl rfl rfl hdX4_colorIn.2 ⟨(Nat.le_of_ble_eq_true rfl), (Nat.le_of_ble_eq_true rfl)⟩) (preS_R hK (va_P_nil (D := g.1) (cl := vwCl))) rfl rfl hl.1 rfl (lv_room (Nat.le_of_ble_eq_true rfl)) dX4_color_55 ⟨(Nat.le_of_ble_eq_true rfl), (Nat.le_of_ble_eq_true rfl)⟩) (fun r55_9 h => ?_)
          refine lv_goto (tgt := 63) hx hb dX4_color_58 (by decide) ?_
          exact W.iret hx hb hr (fun t ht hW => ⟨r55_9, rfl, h, ht⟩) (fun _ h9 => by cases h9) dX4_color_63
      · replace h := h.2 c_32_5
        refine lv_bipush (v := (-101 : Int32)) hx hb dX4_color_35 (by decide) ?_
        exact W.iret hx hb hr (fun t ht hW => ⟨(-101 : Int32), rfl, h, ht⟩) (fun _ h9 => by cases h9) dX4_color_37
theorem hdX4_place : yX4_place.cls = RX4 ∧ yX4_place.cls ≠ "java/lang/invoke/MethodHandle" ∧ yX4_place.cls ≠ "java/lang/invoke/VarHandle" ∧ (parseMethodDescriptor yX4_place.desc).map (fun d => d.parameters.length) = some 3 := by decide +kernel
set_option maxHeartbeats 4000000 in
set_option maxRecDepth 100000 in
theorem kX4_place (l : Launch) (g : GG) (lq rq wq nq : Nat → Nat) (hq : Nat → Nat → Nat) (l_oldest : Int32) (l_historySize : Int32) (l_text : Nat → Int32) (l_textLength : Int32) (l_rightAlone : Nat → Int64) (r_columns : Nat → Int64) (r_columnCount : Int32) (r_awaited : Int32) (r_told : Int32) (r_number : Int32) (r_numberStart : Int32) (w_wanted : Nat → Int64) (w_loadAt : Nat → Int32) (w_passedIn : Nat → Int32) (w_secondArm : Int32) (w_power : Int32) (w_limit : Int32) (w_wantedSpeed : Int32) (w_angle : Int32) (w_speed : Int32) (w_load : Int32) (w_ticks : Int32) (n_pictureCount : Int32) (n_angle : Int32) (n_speed : Int32) (n_ticks : Int32) (n_load : Int32) (n_secondArm : Int32) (n_settings : Nat → Int32) (n_working : Nat → Int64) (n_written : Nat → Int64) (n_writtenIn : Nat → Int32) (n_width : Nat → Int32) (n_first : Nat → Int32) (n_step : Nat → Int32) (n_kind : Nat → Int32) (n_columns : Nat → Nat → Int64) (a_1 : Int32) (a_2 : Int32) (a_3 : Int32) (k : Int32 → Prop) (h : PX4_place n_pictureCount n_ticks n_settings n_written n_writtenIn n_width n_first n_step n_kind n_columns a_1 a_2 a_3 k) : Met l yX4_place wsX4_place ({ frames := 5, cells := 0, slots := 0, locals := 107 }) (PreR g [.ref (lq 0), .int a_1, .int a_2, .int a_3] (wL g lq nq rq wq hq l_oldest l_historySize l_text l_textLength l_rightAlone ++ (wR g rq r_columns r_columnCount r_awaited r_told r_number r_numberStart ++ (wW g wq w_wanted w_loadAt w_passedIn w_secondArm w_power w_limit w_wantedSpeed w_angle w_speed w_load w_ticks ++ (wS g nq n_pictureCount n_angle n_speed n_ticks n_load n_secondArm n_settings n_working n_written n_writtenIn n_width n_first n_step n_kind n_columns))))) (vp_Si k) 0 0 (fun _ => False) := by
  refine Met.ofW (cc := cX4_place) (maxL := 4) (ret := (some .int)) (by decide) rfl ?_
  intro p e s m args below meth c s₁ B hml hv
  obtain ⟨rfl, hP, hK⟩ := hv
  have hx := B.exec
  have hb := B.bytes
  have hr := B.returns
  have hts := atoms_spec (ws := wsX4_place) B.pre
  have hown : s.vm.findClass RX4 = some m.cls := findClass_of_methodNamed B.named
  have hlocks := B.notSynchronized
  have iX4 : ∀ w ∈ wsX40, w ∈ wsX4_place := by decide +kernel
  have hl := lv_entry ([.ref (lq 0), .int a_1, .int a_2, .int a_3]) (n := 4) (Nat.le_of_ble_eq_true rfl)
  rw [lg_entry_eq]
  generalize (lg_sl ([.ref (lq 0), .int a_1, .int a_2, .int a_3]) ++ List.replicate (4 - (lg_sl ([.ref (lq 0), .int a_1, .int a_2, .int a_3])).length) Slot.unset).toArray = ls at hl ⊢
  have hl : lv_has ls 4 [(0, .ref (lq 0)), (1, .int a_1), (2, .int a_2), (3, .int a_3)] := hl
  unfold PX4_place at h
  refine lv_iload_n hx hb dX4_place_0 rfl (lv_at hl 1 rfl) ?_
  refine lv_iconst (v := (0 : Int32)) hx hb dX4_place_1 (by decide) ?_
  refine lv_sipush (v := (719 : Int32)) hx hb dX4_place_2 (by decide) ?_
  refine vp_callSi (W.runS (As := [.int a_1, .int (0 : Int32), .int (719 : Int32)]) (rest := []) ⟨hx, hb, hml, hown, hts⟩ (kX4_within l g  a_1 (0 : Int32) (719 : Int32) _ h) (va_cwS 3 hts gX4_place_X4_within rfl rfl rfl hdX4_within.2 ⟨(Nat.le_of_ble_eq_true rfl), (Nat.le_of_ble_eq_true rfl)⟩) (preS_R hK (va_P_nil (D := g.1) (cl := vwCl))) rfl rfl hl.1 rfl (lv_room (Nat.le_of_ble_eq_true rfl)) dX4_place_5 ⟨(Nat.le_of_ble_eq_true rfl), (Nat.le_of_ble_eq_true rfl)⟩) (fun r5_1 h => ?_)
  refine lv_if_eq (tgt := 21) hx hb dX4_place_8 (by decide) (fun c_8_1 => ?_) (fun c_8_1 => ?_)
  · replace h := h.1 c_8_1
    refine lv_bipush (v := (-101 : Int32)) hx hb dX4_place_21 (by decide) ?_
    exact W.iret hx hb hr (fun t ht hW => ⟨(-101 : Int32), rfl, h, ht⟩) (fun _ h9 => by cases h9) dX4_place_23
  · replace h := h.2 c_8_1
    refine lv_iload_n hx hb dX4_place_11 rfl (lv_at hl 2 rfl) ?_
    refine lv_iconst (v := (0 : Int32)) hx hb dX4_place_12 (by decide) ?_
    refine lv_bipush (v := (11 : Int32)) hx hb dX4_place_13 (by decide) ?_
    refine vp_callSi (W.runS (As := [.int a_2, .int (0 : Int32), .int (11 : Int32)]) (rest := []) ⟨hx, hb, hml, hown, hts⟩ (kX4_within l g  a_2 (0 : Int32) (11 : Int32) _ h) (va_cwS 3 hts gX4_place_X4_within rfl rfl rfl hdX4_within.2 ⟨(Nat.le_of_ble_eq_true rfl), (Nat.le_of_ble_eq_true rfl)⟩) (preS_R hK (va_P_nil (D := g.1) (cl := vwCl))) rfl rfl hl.1 rfl (lv_room (Nat.le_of_ble_eq_true rfl)) dX4_place_15 ⟨(Nat.le_of_ble_eq_true rfl), (Nat.le_of_ble_eq_true rfl)⟩) (fun r15_3 h => ?_)
    refine lv_if_ne (tgt := 24) hx hb dX4_place_18 (by decide) (fun c_18_3 => ?_) (fun c_18_3 => ?_)
    · replace h := h.1 c_18_3
      refine lv_iload_n hx hb dX4_place_24 rfl (lv_at hl 3 rfl) ?_
      by_cases c_25_4 : a_3.toInt < 0 ∨ 2 < a_3.toInt
      · replace h := h.1 c_25_4
        refine lv_tableOut (tgt := 86) hx hb dX4_place_25 c_25_4 (by decide) ?_
        refine lv_bipush (v := (-101 : Int32)) hx hb dX4_place_86 (by decide) ?_
        exact W.iret hx hb hr (fun t ht hW => ⟨(-101 : Int32), rfl, h, ht⟩) (fun _ h9 => by cases h9) dX4_place_88
      · replace h := h.2
        by_cases c_25_4_0 : a_3 = (0 : Int32)
        · replace h := h.1 c_25_4_0
          refine lv_tableIn (tgt := 52) hx hb dX4_place_25 (by rw [c_25_4_0]; decide) (by rw [c_25_4_0]; decide) (by rw [c_25_4_0]; rfl) (by decide) ?_
          refine lv_aload_n hx hb dX4_place_52 rfl (lv_at hl 0 rfl) ?_
          refine va_get (D := g.1) (ci := 4) (v := .ref (nq 0)) (C := RX4) (T := TX4) (N := 9) hx hb hts iX4 hown hK.1 hP 0 rfl rfl 0 (by decide) (hts (.fieldLink RX4 10 "LightWheel" "now" "LLightWheel$State;") (by decide +kernel)) (fun _ h9 => h9) rfl dX4_place_53 ?_
          refine lv_iload_n hx hb dX4_place_56 rfl (lv_at hl 1 rfl) ?_
          have hPc : va_P g.1 vwCl (wS g nq n_pictureCount n_angle n_speed n_ticks n_load n_secondArm n_settings n_working n_written n_writtenIn n_width n_first n_step n_kind n_columns) s.heap := hP.sub [10, 11, 12, 13, 14, 15, 16, 17, 18, 19, 20, 21, 22, 23] rfl
          refine vp_callSl (W.runV (As := [.int a_1]) (rest := []) ⟨hx, hb, hml, hown, hts⟩ (kX2_wantedAt l g nq n_pictureCount n_angle n_speed n_ticks n_load n_secondArm n_settings n_working n_written n_writtenIn n_width n_first n_step n_kind n_columns a_1 _ h) (cwV 1 hts gX4_place_X2_wantedAt rfl rfl rfl hdX2_wantedAt ⟨(Nat.le_of_ble_eq_true rfl), (Nat.le_of_ble_eq_true rfl)⟩) (preV_R (r := (RX2, TX2, 11)) hK hPc (ci := 2) (q0 := 0) rfl rfl) rfl rfl hl.1 rfl (lv_room (Nat.le_of_ble_eq_true rfl)) dX4_place_57 ⟨(Nat.le_of_ble_eq_true rfl), (Nat.le_of_ble_eq_true rfl)⟩) (fun r57_6 h => ?_)
          refine lv_iload_n hx hb dX4_place_60 rfl (lv_at hl 2 rfl) ?_
          refine vp_callSi (W.runS (As := [.long r57_6, .int a_2]) (rest := []) ⟨hx, hb, hml, hown, hts⟩ (kX4_colorIn l g  r57_6 a_2 _ h) (va_cwS 2 hts gX4_place_X4_colorIn rfl rfl rfl hdX4_colorIn.2 ⟨(Nat.le_of_ble_eq_true rfl), (Nat.le_of_ble_eq_true rfl)⟩) (preS_R hK (va_P_nil (D := g.1) (cl := vwCl))) rfl rfl hl.1 rfl (lv_room (Nat.le_of_ble_eq_true rfl)) dX4_place_61 ⟨(Nat.le_of_ble_eq_true rfl), (Nat.le_of_ble_eq_true rfl)⟩) (fun r61_7 h => ?_)
          exact W.iret hx hb hr (fun t ht hW => ⟨r61_7, rfl, h, ht⟩) (fun _ h9 => by cases h9) dX4_place_64
        refine id ?_
        by_cases c_25_4_1 : a_3 = (1 : Int32)
        · replace h := h.2.1 c_25_4_1
          refine lv_tableIn (tgt := 65) hx hb dX4_place_25 (by rw [c_25_4_1]; decide) (by rw [c_25_4_1]; decide) (by rw [c_25_4_1]; rfl) (by decide) ?_
          refine lv_aload_n hx hb dX4_place_65 rfl (lv_at hl 0 rfl) ?_
          refine va_get (D := g.1) (ci := 4) (v := .ref (nq 0)) (C := RX4) (T := TX4) (N := 9) hx hb hts iX4 hown hK.1 hP 0 rfl rfl 0 (by decide) (hts (.fieldLink RX4 10 "LightWheel" "now" "LLightWheel$State;") (by decide +kernel)) (fun _ h9 => h9) rfl dX4_place_66 ?_
          refine lv_iload_n hx hb dX4_place_69 rfl (lv_at hl 1 rfl) ?_
          refine lv_iconst (v := (0 : Int32)) hx hb dX4_place_70 (by decide) ?_
          have hPc : va_P g.1 vwCl (wS g nq n_pictureCount n_angle n_speed n_ticks n_load n_secondArm n_settings n_working n_written n_writtenIn n_width n_first n_step n_kind n_columns) s.heap := hP.sub [10, 11, 12, 13, 14, 15, 16, 17, 18, 19, 20, 21, 22, 23] rfl
          refine vp_callSl (W.runV (As := [.int a_1, .int (0 : Int32)]) (rest := []) ⟨hx, hb, hml, hown, hts⟩ (kX2_litAt l g nq n_pictureCount n_angle n_speed n_ticks n_load n_secondArm n_settings n_working n_written n_writtenIn n_width n_first n_step n_kind n_columns a_1 (0 : Int32) _ h) (cwV 2 hts gX4_place_X2_litAt rfl rfl rfl hdX2_litAt ⟨(Nat.le_of_ble_eq_true rfl), (Nat.le_of_ble_eq_true rfl)⟩) (preV_R (r := (RX2, TX2, 11)) hK hPc (ci := 2) (q0 := 0) rfl rfl) rfl rfl hl.1 rfl (lv_room (Nat.le_of_ble_eq_true rfl)) dX4_place_71 ⟨(Nat.le_of_ble_eq_true rfl), (Nat.le_of_ble_eq_true rfl)⟩) (fun r71_8 h => ?_)
          refine lv_iload_n hx hb dX4_place_74 rfl (lv_at hl 2 rfl) ?_
          refine vp_callSi (W.runS (As := [.long r71_8, .int a_2]) (rest := []) ⟨hx, hb, hml, hown, hts⟩ (kX4_colorIn l g  r71_8 a_2 _ h) (va_cwS 2 hts gX4_place_X4_colorIn rfl rfl rfl hdX4_colorIn.2 ⟨(Nat.le_of_ble_eq_true rfl), (Nat.le_of_ble_eq_true rfl)⟩) (preS_R hK (va_P_nil (D := g.1) (cl := vwCl))) rfl rfl hl.1 rfl (lv_room (Nat.le_of_ble_eq_true rfl)) dX4_place_75 ⟨(Nat.le_of_ble_eq_true rfl), (Nat.le_of_ble_eq_true rfl)⟩) (fun r75_9 h => ?_)
          exact W.iret hx hb hr (fun t ht hW => ⟨r75_9, rfl, h, ht⟩) (fun _ h9 => by cases h9) dX4_place_78
        refine id ?_
        have c_25_4_2 : a_3 = (2 : Int32) := by
          have z0 : a_3.toInt ≠ 0 := fun q => c_25_4_0 (Int32.toInt_inj.mp (q.trans (by decide)))
          have z1 : a_3.toInt ≠ 1 := fun q => c_25_4_1 (Int32.toInt_inj.mp (q.trans (by decide)))
          exact Int32.toInt_inj.mp ((by omega : a_3.toInt = 2).trans (by decide))
        replace h := h.2.2 c_25_4_2
        refine lv_tableIn (tgt := 79) hx hb dX4_place_25 (by rw [c_25_4_2]; decide) (by rw [c_25_4_2]; decide) (by rw [c_25_4_2]; rfl) (by decide) ?_
        refine lv_aload_n hx hb dX4_place_79 rfl (lv_at hl 0 rfl) ?_
        refine lv_iload_n hx hb dX4_place_80 rfl (lv_at hl 1 rfl) ?_
        refine lv_iload_n hx hb dX4_place_81 rfl (lv_at hl 2 rfl) ?_
        refine vp_callSi (W.runV (As := [.int a_1, .int a_2]) (rest := []) ⟨hx, hb, hml, hown, hts⟩ (kX4_ticksSinceWritten l g lq rq wq nq hq l_oldest l_historySize l_text l_textLength l_rightAlone r_columns r_columnCount r_awaited r_told r_number r_numberStart w_wanted w_loadAt w_passedIn w_secondArm w_power w_limit w_wantedSpeed w_angle w_speed w_load w_ticks n_pictureCount n_angle n_speed n_ticks n_load n_secondArm n_settings n_working n_written n_writtenIn n_width n_first n_step n_kind n_columns a_1 a_2 _ h) (cwV 2 hts gX4_place_X4_ticksSinceWritten rfl rfl rfl hdX4_ticksSinceWritten ⟨(Nat.le_of_ble_eq_true rfl), (Nat.le_of_ble_eq_true rfl)⟩) (preV_R (r := (RX4, TX4, 9)) hK hP (ci := 4) (q0 := 0) rfl rfl) rfl rfl hl.1 rfl (lv_room (Nat.le_of_ble_eq_true rfl)) dX4_place_82 ⟨(Nat.le_of_ble_eq_true rfl), (Nat.le_of_ble_eq_true rfl)⟩) (fun r82_10 h => ?_)
        exact W.iret hx hb hr (fun t ht hW => ⟨r82_10, rfl, h, ht⟩) (fun _ h9 => by cases h9) dX4_place_85
    · replace h := h.2 c_18_3
      refine lv_bipush (v := (-101 : Int32)) hx hb dX4_place_21 (by decide) ?_
      exact W.iret hx hb hr (fun t ht hW => ⟨(-101 : Int32), rfl, h, ht⟩) (fun _ h9 => by cases h9) dX4_place_23
theorem hdX4_columnAt : yX4_columnAt.cls = RX4 ∧ yX4_columnAt.cls ≠ "java/lang/invoke/MethodHandle" ∧ yX4_columnAt.cls ≠ "java/lang/invoke/VarHandle" ∧ (parseMethodDescriptor yX4_columnAt.desc).map (fun d => d.parameters.length) = some 2 := by decide +kernel
set_option maxHeartbeats 4000000 in
set_option maxRecDepth 100000 in
theorem kX4_columnAt (l : Launch) (g : GG) (lq rq wq nq : Nat → Nat) (hq : Nat → Nat → Nat) (l_oldest : Int32) (l_historySize : Int32) (l_text : Nat → Int32) (l_textLength : Int32) (l_rightAlone : Nat → Int64) (r_columns : Nat → Int64) (r_columnCount : Int32) (r_awaited : Int32) (r_told : Int32) (r_number : Int32) (r_numberStart : Int32) (w_wanted : Nat → Int64) (w_loadAt : Nat → Int32) (w_passedIn : Nat → Int32) (w_secondArm : Int32) (w_power : Int32) (w_limit : Int32) (w_wantedSpeed : Int32) (w_angle : Int32) (w_speed : Int32) (w_load : Int32) (w_ticks : Int32) (n_pictureCount : Int32) (n_angle : Int32) (n_speed : Int32) (n_ticks : Int32) (n_load : Int32) (n_secondArm : Int32) (n_settings : Nat → Int32) (n_working : Nat → Int64) (n_written : Nat → Int64) (n_writtenIn : Nat → Int32) (n_width : Nat → Int32) (n_first : Nat → Int32) (n_step : Nat → Int32) (n_kind : Nat → Int32) (n_columns : Nat → Nat → Int64) (a_1 : Int32) (a_2 : Int32) (k : Int32 → Prop) (h : PX4_columnAt n_pictureCount n_width n_first n_step n_kind a_1 a_2 k) : Met l yX4_columnAt wsX4_columnAt ({ frames := 3, cells := 0, slots := 0, locals := 62 }) (PreR g [.ref (lq 0), .int a_1, .int a_2] (wL g lq nq rq wq hq l_oldest l_historySize l_text l_textLength l_rightAlone ++ (wR g rq r_columns r_columnCount r_awaited r_told r_number r_numberStart ++ (wW g wq w_wanted w_loadAt w_passedIn w_secondArm w_power w_limit w_wantedSpeed w_angle w_speed w_load w_ticks ++ (wS g nq n_pictureCount n_angle n_speed n_ticks n_load n_secondArm n_settings n_working n_written n_writtenIn n_width n_first n_step n_kind n_columns))))) (vp_Si k) 0 0 (fun _ => False) := by
  refine Met.ofW (cc := cX4_columnAt) (maxL := 4) (ret := (some .int)) (by decide) rfl ?_
  intro p e s m args below meth c s₁ B hml hv
  obtain ⟨rfl, hP, hK⟩ := hv
  have hx := B.exec
  have hb := B.bytes
  have hr := B.returns
  have hts := atoms_spec (ws := wsX4_columnAt) B.pre
  have hown : s.vm.findClass RX4 = some m.cls := findClass_of_methodNamed B.named
  have hlocks := B.notSynchronized
  have iX4 : ∀ w ∈ wsX40, w ∈ wsX4_columnAt := by decide +kernel
  have hl := lv_entry ([.ref (lq 0), .int a_1, .int a_2]) (n := 4) (Nat.le_of_ble_eq_true rfl)
  rw [lg_entry_eq]
  generalize (lg_sl ([.ref (lq 0), .int a_1, .int a_2]) ++ List.replicate (4 - (lg_sl ([.ref (lq 0), .int a_1, .int a_2])).length) Slot.unset).toArray = ls at hl ⊢
  have hl : lv_has ls 4 [(0, .ref (lq 0)), (1, .int a_1), (2, .int a_2)] := hl
  unfold PX4_columnAt at h
  refine lv_aload_n hx hb dX4_columnAt_0 rfl (lv_at hl 0 rfl) ?_
  refine va_get (D := g.1) (ci := 4) (v := .ref (nq 0)) (C := RX4) (T := TX4) (N := 9) hx hb hts iX4 hown hK.1 hP 0 rfl rfl 0 (by decide) (hts (.fieldLink RX4 10 "LightWheel" "now" "LLightWheel$State;") (by decide +kernel)) (fun _ h9 => h9) rfl dX4_columnAt_1 ?_
  refine lv_iload_n hx hb dX4_columnAt_4 rfl (lv_at hl 1 rfl) ?_
  have hPc : va_P g.1 vwCl (wS g nq n_pictureCount n_angle n_speed n_ticks n_load n_secondArm n_settings n_working n_written n_writtenIn n_width n_first n_step n_kind n_columns) s.heap := hP.sub [10, 11, 12, 13, 14, 15, 16, 17, 18, 19, 20, 21, 22, 23] rfl
  refine va_cse (ad := fun j => nq (6 + 2 * j)) (W.runV (As := [.int a_1]) (rest := []) ⟨hx, hb, hml, hown, hts⟩ (kX2_pictureNumbered l g nq n_pictureCount n_angle n_speed n_ticks n_load n_secondArm n_settings n_working n_written n_writtenIn n_width n_first n_step n_kind n_columns a_1 _ h) (cwV 1 hts gX4_columnAt_X2_pictureNumbered rfl rfl rfl hdX2_pictureNumbered ⟨(Nat.le_of_ble_eq_true rfl), (Nat.le_of_ble_eq_true rfl)⟩) (preV_R (r := (RX2, TX2, 11)) hK hPc (ci := 2) (q0 := 0) rfl rfl) rfl rfl hl.1 rfl (lv_room (Nat.le_of_ble_eq_true rfl)) dX4_columnAt_5 ⟨(Nat.le_of_ble_eq_true rfl), (Nat.le_of_ble_eq_true rfl)⟩) (fun o_1 hh => ?_)
  obtain ⟨h4, h⟩ := hh
  rcases o_1 with _ | j_2
  · refine W.eq (g2 := F0 m 8 ls [.null]) rfl ?_
    replace h := h.1 rfl
    refine lv_astore_nN (lv' := [(3, .null), (0, .ref (lq 0)), (1, .int a_1), (2, .int a_2)]) hx hb dX4_columnAt_8 rfl hl (by decide) rfl (fun ls hl => ?_)
    refine lv_aload_nN hx hb dX4_columnAt_9 rfl (lv_at hl 0 rfl) ?_
    refine lv_ifnullN (tgt := 24) hx hb dX4_columnAt_10 (by decide) ?_
    refine lv_bipush (v := (-101 : Int32)) hx hb dX4_columnAt_24 (by decide) ?_
    exact W.iret hx hb hr (fun t ht hW => ⟨(-101 : Int32), rfl, h, ht⟩) (fun _ h9 => by cases h9) dX4_columnAt_26
  · refine W.eq (g2 := F0 m 8 ls [.ref (nq (6 + 2 * j_2))]) rfl ?_
    have hj_2 : j_2 < 4 := h4 j_2 rfl
    replace h := h.2 j_2 hj_2 rfl
    refine lv_astore_n (lv' := [(3, .ref (nq (6 + 2 * j_2))), (0, .ref (lq 0)), (1, .int a_1), (2, .int a_2)]) hx hb dX4_columnAt_8 rfl hl (by decide) rfl (fun ls hl => ?_)
    refine lv_aload_n hx hb dX4_columnAt_9 rfl (lv_at hl 0 rfl) ?_
    refine lv_ifnull hx hb dX4_columnAt_10 ?_
    refine lv_iload_n hx hb dX4_columnAt_13 rfl (lv_at hl 3 rfl) ?_
    refine lv_iconst (v := (0 : Int32)) hx hb dX4_columnAt_14 (by decide) ?_
    refine lv_sipush (v := (719 : Int32)) hx hb dX4_columnAt_15 (by decide) ?_
    refine vp_callSi (W.runS (As := [.int a_2, .int (0 : Int32), .int (719 : Int32)]) (rest := []) ⟨hx, hb, hml, hown, hts⟩ (kX4_within l g  a_2 (0 : Int32) (719 : Int32) _ h) (va_cwS 3 hts gX4_columnAt_X4_within rfl rfl rfl hdX4_within.2 ⟨(Nat.le_of_ble_eq_true rfl), (Nat.le_of_ble_eq_true rfl)⟩) (preS_R hK (va_P_nil (D := g.1) (cl := vwCl))) rfl rfl hl.1 rfl (lv_room (Nat.le_of_ble_eq_true rfl)) dX4_columnAt_18 ⟨(Nat.le_of_ble_eq_true rfl), (Nat.le_of_ble_eq_true rfl)⟩) (fun r18_3 h => ?_)
    refine lv_if_ne (tgt := 27) hx hb dX4_columnAt_21 (by decide) (fun c_21_3 => ?_) (fun c_21_3 => ?_)
    · replace h := h.1 c_21_3
      refine lv_aload_n hx hb dX4_columnAt_27 rfl (lv_at hl 0 rfl) ?_
      refine lv_iload_n hx hb dX4_columnAt_28 rfl (lv_at hl 3 rfl) ?_
      have hPc : va_P g.1 vwCl (wP g (fun i => nq (6 + 2 * j_2 + i)) (n_width j_2) (n_first j_2) (n_step j_2) (n_kind j_2) (n_columns j_2)) s.heap := by rcases pk4 hj_2 with rfl | rfl | rfl | rfl <;> first | exact hP.sub [16, 17] rfl | exact hP.sub [18, 19] rfl | exact hP.sub [20, 21] rfl | exact hP.sub [22, 23] rfl
      refine vp_callSi (W.runV (As := [.int a_2]) (rest := []) ⟨hx, hb, hml, hown, hts⟩ (kX0_covers l g (fun i => nq (6 + 2 * j_2 + i)) (n_width j_2) (n_first j_2) (n_step j_2) (n_kind j_2) (n_columns j_2) a_2 _ h) (cwV 1 hts gX4_columnAt_X0_covers rfl rfl rfl hdX0_covers ⟨(Nat.le_of_ble_eq_true rfl), (Nat.le_of_ble_eq_true rfl)⟩) (preV_R (r := (RX0, TX0, 5)) hK hPc (ci := 0) (q0 := 0) rfl rfl) rfl rfl hl.1 rfl (lv_room (Nat.le_of_ble_eq_true rfl)) dX4_columnAt_29 ⟨(Nat.le_of_ble_eq_true rfl), (Nat.le_of_ble_eq_true rfl)⟩) (fun r29_5 h => ?_)
      refine lv_if_eq (tgt := 43) hx hb dX4_columnAt_32 (by decide) (fun c_32_5 => ?_) (fun c_32_5 => ?_)
      · replace h := h.1 c_32_5
        refine lv_bipush (v := (-109 : Int32)) hx hb dX4_columnAt_43 (by decide) ?_
        exact W.iret hx hb hr (fun t ht hW => ⟨(-109 : Int32), rfl, h, ht⟩) (fun _ h9 => by cases h9) dX4_columnAt_45
      · replace h := h.2 c_32_5
        refine lv_aload_n hx hb dX4_columnAt_35 rfl (lv_at hl 0 rfl) ?_
        refine lv_iload_n hx hb dX4_columnAt_36 rfl (lv_at hl 3 rfl) ?_
        have hPc : va_P g.1 vwCl (wP g (fun i => nq (6 + 2 * j_2 + i)) (n_width j_2) (n_first j_2) (n_step j_2) (n_kind j_2) (n_columns j_2)) s.heap := by rcases pk4 hj_2 with rfl | rfl | rfl | rfl <;> first | exact hP.sub [16, 17] rfl | exact hP.sub [18, 19] rfl | exact hP.sub [20, 21] rfl | exact hP.sub [22, 23] rfl
        refine vp_callSi (W.runV (As := [.int a_2]) (rest := []) ⟨hx, hb, hml, hown, hts⟩ (kX0_columnOf l g (fun i => nq (6 + 2 * j_2 + i)) (n_width j_2) (n_first j_2) (n_step j_2) (n_kind j_2) (n_columns j_2) a_2 _ h) (cwV 1 hts gX4_columnAt_X0_columnOf rfl rfl rfl hdX0_columnOf ⟨(Nat.le_of_ble_eq_true rfl), (Nat.le_of_ble_eq_true rfl)⟩) (preV_R (r := (RX0, TX0, 5)) hK hPc (ci := 0) (q0 := 0) rfl rfl) rfl rfl hl.1 rfl (lv_room (Nat.le_of_ble_eq_true rfl)) dX4_columnAt_37 ⟨(Nat.le_of_ble_eq_true rfl), (Nat.le_of_ble_eq_true rfl)⟩) (fun r37_7 h => ?_)
        refine lv_goto (tgt := 45) hx hb dX4_columnAt_40 (by decide) ?_
        exact W.iret hx hb hr (fun t ht hW => ⟨r37_7, rfl, h, ht⟩) (fun _ h9 => by cases h9) dX4_columnAt_45
    · replace h := h.2 c_21_3
      refine lv_bipush (v := (-101 : Int32)) hx hb dX4_columnAt_24 (by decide) ?_
      exact W.iret hx hb hr (fun t ht hW => ⟨(-101 : Int32), rfl, h, ht⟩) (fun _ h9 => by cases h9) dX4_columnAt_26
theorem hdX4_meetings : yX4_meetings.cls = RX4 ∧ yX4_meetings.cls ≠ "java/lang/invoke/MethodHandle" ∧ yX4_meetings.cls ≠ "java/lang/invoke/VarHandle" ∧ (parseMethodDescriptor yX4_meetings.desc).map (fun d => d.parameters.length) = some 2 := by decide +kernel
set_option maxHeartbeats 4000000 in
set_option maxRecDepth 100000 in
theorem kX4_meetings (l : Launch) (g : GG) (lq rq wq nq : Nat → Nat) (hq : Nat → Nat → Nat) (l_oldest : Int32) (l_historySize : Int32) (l_text : Nat → Int32) (l_textLength : Int32) (l_rightAlone : Nat → Int64) (r_columns : Nat → Int64) (r_columnCount : Int32) (r_awaited : Int32) (r_told : Int32) (r_number : Int32) (r_numberStart : Int32) (w_wanted : Nat → Int64) (w_loadAt : Nat → Int32) (w_passedIn : Nat → Int32) (w_secondArm : Int32) (w_power : Int32) (w_limit : Int32) (w_wantedSpeed : Int32) (w_angle : Int32) (w_speed : Int32) (w_load : Int32) (w_ticks : Int32) (n_pictureCount : Int32) (n_angle : Int32) (n_speed : Int32) (n_ticks : Int32) (n_load : Int32) (n_secondArm : Int32) (n_settings : Nat → Int32) (n_working : Nat → Int64) (n_written : Nat → Int64) (n_writtenIn : Nat → Int32) (n_width : Nat → Int32) (n_first : Nat → Int32) (n_step : Nat → Int32) (n_kind : Nat → Int32) (n_columns : Nat → Nat → Int64) (a_1 : Int32) (a_2 : Int32) (k : Int32 → Prop) (h : PX4_meetings n_pictureCount n_width n_first n_step n_kind n_columns a_1 a_2 k) : Met l yX4_meetings wsX4_meetings ({ frames := 4, cells := 0, slots := 0, locals := 83 }) (PreR g [.ref (lq 0), .int a_1, .int a_2] (wL g lq nq rq wq hq l_oldest l_historySize l_text l_textLength l_rightAlone ++ (wR g rq r_columns r_columnCount r_awaited r_told r_number r_numberStart ++ (wW g wq w_wanted w_loadAt w_passedIn w_secondArm w_power w_limit w_wantedSpeed w_angle w_speed w_load w_ticks ++ (wS g nq n_pictureCount n_angle n_speed n_ticks n_load n_secondArm n_settings n_working n_written n_writtenIn n_width n_first n_step n_kind n_columns))))) (vp_Si k) 0 0 (fun _ => False) := by
  refine Met.ofW (cc := cX4_meetings) (maxL := 7) (ret := (some .int)) (by decide) rfl ?_
  intro p e s m args below meth c s₁ B hml hv
  obtain ⟨rfl, hP, hK⟩ := hv
  have hx := B.exec
  have hb := B.bytes
  have hr := B.returns
  have hts := atoms_spec (ws := wsX4_meetings) B.pre
  have hown : s.vm.findClass RX4 = some m.cls := findClass_of_methodNamed B.named
  have hlocks := B.notSynchronized
  have iX4 : ∀ w ∈ wsX40, w ∈ wsX4_meetings := by decide +kernel
  have hl := lv_entry ([.ref (lq 0), .int a_1, .int a_2]) (n := 7) (Nat.le_of_ble_eq_true rfl)
  rw [lg_entry_eq]
  generalize (lg_sl ([.ref (lq 0), .int a_1, .int a_2]) ++ List.replicate (7 - (lg_sl ([.ref (lq 0), .int a_1, .int a_2])).length) Slot.unset).toArray = ls at hl ⊢
  have hl : lv_has ls 7 [(0, .ref (lq 0)), (1, .int a_1), (2, .int a_2)] := hl
  unfold PX4_meetings at h
  refine lv_aload_n hx hb dX4_meetings_0 rfl (lv_at hl 0 rfl) ?_
  refine va_get (D := g.1) (ci := 4) (v := .ref (nq 0)) (C := RX4) (T := TX4) (N := 9) hx hb hts iX4 hown hK.1 hP 0 rfl rfl 0 (by decide) (hts (.fieldLink RX4 10 "LightWheel" "now" "LLightWheel$State;") (by decide +kernel)) (fun _ h9 => h9) rfl dX4_meetings_1 ?_
  refine lv_iload_n hx hb dX4_meetings_4 rfl (lv_at hl 1 rfl) ?_
  have hPc : va_P g.1 vwCl (wS g nq n_pictureCount n_angle n_speed n_ticks n_load n_secondArm n_settings n_working n_written n_writtenIn n_width n_first n_step n_kind n_columns) s.heap := hP.sub [10, 11, 12, 13, 14, 15, 16, 17, 18, 19, 20, 21, 22, 23] rfl
  refine va_cse (ad := fun j => nq (6 + 2 * j)) (W.runV (As := [.int a_1]) (rest := []) ⟨hx, hb, hml, hown, hts⟩ (kX2_pictureNumbered l g nq n_pictureCount n_angle n_speed n_ticks n_load n_secondArm n_settings n_working n_written n_writtenIn n_width n_first n_step n_kind n_columns a_1 _ h) (cwV 1 hts gX4_meetings_X2_pictureNumbered rfl rfl rfl hdX2_pictureNumbered ⟨(Nat.le_of_ble_eq_true rfl), (Nat.le_of_ble_eq_true rfl)⟩) (preV_R (r := (RX2, TX2, 11)) hK hPc (ci := 2) (q0 := 0) rfl rfl) rfl rfl hl.1 rfl (lv_room (Nat.le_of_ble_eq_true rfl)) dX4_meetings_5 ⟨(Nat.le_of_ble_eq_true rfl), (Nat.le_of_ble_eq_true rfl)⟩) (fun o_1 hh => ?_)
  obtain ⟨h4, h⟩ := hh
  rcases o_1 with _ | j_2
  · refine W.eq (g2 := F0 m 8 ls [.null]) rfl ?_
    replace h := h.1 rfl
    refine lv_astore_nN (lv' := [(3, .null), (0, .ref (lq 0)), (1, .int a_1), (2, .int a_2)]) hx hb dX4_meetings_8 rfl hl (by decide) rfl (fun ls hl => ?_)
    refine lv_aload_n hx hb dX4_meetings_9 rfl (lv_at hl 1 rfl) ?_
    refine va_get (D := g.1) (ci := 4) (v := .ref (nq 0)) (C := RX4) (T := TX4) (N := 9) hx hb hts iX4 hown hK.1 hP 0 rfl rfl 0 (by decide) (hts (.fieldLink RX4 10 "LightWheel" "now" "LLightWheel$State;") (by decide +kernel)) (fun _ h9 => h9) rfl dX4_meetings_10 ?_
    refine lv_iload_n hx hb dX4_meetings_13 rfl (lv_at hl 3 rfl) ?_
    have hPc : va_P g.1 vwCl (wS g nq n_pictureCount n_angle n_speed n_ticks n_load n_secondArm n_settings n_working n_written n_writtenIn n_width n_first n_step n_kind n_columns) s.heap := hP.sub [10, 11, 12, 13, 14, 15, 16, 17, 18, 19, 20, 21, 22, 23] rfl
    refine va_cse (ad := fun j => nq (6 + 2 * j)) (W.runV (As := [.int a_2]) (rest := []) ⟨hx, hb, hml, hown, hts⟩ (kX2_pictureNumbered l g nq n_pictureCount n_angle n_speed n_ticks n_load n_secondArm n_settings n_working n_written n_writtenIn n_width n_first n_step n_kind n_columns a_2 _ h) (cwV 1 hts gX4_meetings_X2_pictureNumbered rfl rfl rfl hdX2_pictureNumbered ⟨(Nat.le_of_ble_eq_true rfl), (Nat.le_of_ble_eq_true rfl)⟩) (preV_R (r := (RX2, TX2, 11)) hK hPc (ci := 2) (q0 := 0) rfl rfl) rfl rfl hl.1 rfl (lv_room (Nat.le_of_ble_eq_true rfl)) dX4_meetings_14 ⟨(Nat.le_of_ble_eq_true rfl), (Nat.le_of_ble_eq_true rfl)⟩) (fun o_3 hh => ?_)
    obtain ⟨h4, h⟩ := hh
    rcases o_3 with _ | j_4
    · refine W.eq (g2 := F0 m 17 ls [.null]) rfl ?_
      replace h := h.1 rfl
      refine lv_astoreN (lv' := [(4, .null), (3, .null), (0, .ref (lq 0)), (1, .int a_1), (2, .int a_2)]) hx hb dX4_meetings_17 hl (by decide) rfl (fun ls hl => ?_)
      refine lv_aload_nN hx hb dX4_meetings_19 rfl (lv_at hl 1 rfl) ?_
      have tail_1 : ∀ (ls : Array Slot), PX4_meetings_J1 k  → lv_has ls 7 [(4, .null), (3, .null), (0, .ref (lq 0)), (1, .int a_1), (2, .int a_2)] → W p l e (headSpec wsX4_meetings ({ frames := 4, cells := 0, slots := 0, locals := 83 })).room s m ([.ref (lq 0), .int a_1, .int a_2] : List Value).toArray below meth c s.heap [] 0 0 (MQ below (vp_Si k) ([.ref (lq 0), .int a_1, .int a_2] : List Value).toArray s 0 0 (fun _ => False)) (F0 m 33 ls []) := by
        intro  ls h hl
        unfold PX4_meetings_J1 at h
        refine lv_bipush (v := (-101 : Int32)) hx hb dX4_meetings_33 (by decide) ?_
        exact W.iret hx hb hr (fun t ht hW => ⟨(-101 : Int32), rfl, h, ht⟩) (fun _ h9 => by cases h9) dX4_meetings_35
      refine lv_ifnullN (tgt := 33) hx hb dX4_meetings_20 (by decide) ?_
      exact tail_1  ls h (lv_sub hl [0, 1, 2, 3, 4] rfl)
    · refine W.eq (g2 := F0 m 17 ls [.ref (nq (6 + 2 * j_4))]) rfl ?_
      have hj_4 : j_4 < 4 := h4 j_4 rfl
      replace h := h.2 j_4 hj_4 rfl
      refine lv_astore (lv' := [(4, .ref (nq (6 + 2 * j_4))), (3, .null), (0, .ref (lq 0)), (1, .int a_1), (2, .int a_2)]) hx hb dX4_meetings_17 hl (by decide) rfl (fun ls hl => ?_)
      refine lv_aload_nN hx hb dX4_meetings_19 rfl (lv_at hl 1 rfl) ?_
      have tail_2 : ∀ (ls : Array Slot), PX4_meetings_J2 k  → lv_has ls 7 [(4, .ref (nq (6 + 2 * j_4))), (3, .null), (0, .ref (lq 0)), (1, .int a_1), (2, .int a_2)] → W p l e (headSpec wsX4_meetings ({ frames := 4, cells := 0, slots := 0, locals := 83 })).room s m ([.ref (lq 0), .int a_1, .int a_2] : List Value).toArray below meth c s.heap [] 0 0 (MQ below (vp_Si k) ([.ref (lq 0), .int a_1, .int a_2] : List Value).toArray s 0 0 (fun _ => False)) (F0 m 33 ls []) := by
        intro  ls h hl
        unfold PX4_meetings_J2 at h
        refine lv_bipush (v := (-101 : Int32)) hx hb dX4_meetings_33 (by decide) ?_
        exact W.iret hx hb hr (fun t ht hW => ⟨(-101 : Int32), rfl, h, ht⟩) (fun _ h9 => by cases h9) dX4_meetings_35
      refine lv_ifnullN (tgt := 33) hx hb dX4_meetings_20 (by decide) ?_
      exact tail_2  ls h (lv_sub hl [0, 1, 2, 3, 4] rfl)
  · refine W.eq (g2 := F0 m 8 ls [.ref (nq (6 + 2 * j_2))]) rfl ?_
    have hj_2 : j_2 < 4 := h4 j_2 rfl
    replace h := h.2 j_2 hj_2 rfl
    refine lv_astore_n (lv' := [(3, .ref (nq (6 + 2 * j_2))), (0, .ref (lq 0)), (1, .int a_1), (2, .int a_2)]) hx hb dX4_meetings_8 rfl hl (by decide) rfl (fun ls hl => ?_)
    refine lv_aload_n hx hb dX4_meetings_9 rfl (lv_at hl 1 rfl) ?_
    refine va_get (D := g.1) (ci := 4) (v := .ref (nq 0)) (C := RX4) (T := TX4) (N := 9) hx hb hts iX4 hown hK.1 hP 0 rfl rfl 0 (by decide) (hts (.fieldLink RX4 10 "LightWheel" "now" "LLightWheel$State;") (by decide +kernel)) (fun _ h9 => h9) rfl dX4_meetings_10 ?_
    refine lv_iload_n hx hb dX4_meetings_13 rfl (lv_at hl 3 rfl) ?_
    have hPc : va_P g.1 vwCl (wS g nq n_pictureCount n_angle n_speed n_ticks n_load n_secondArm n_settings n_working n_written n_writtenIn n_width n_first n_step n_kind n_columns) s.heap := hP.sub [10, 11, 12, 13, 14, 15, 16, 17, 18, 19, 20, 21, 22, 23] rfl
    refine va_cse (ad := fun j => nq (6 + 2 * j)) (W.runV (As := [.int a_2]) (rest := []) ⟨hx, hb, hml, hown, hts⟩ (kX2_pictureNumbered l g nq n_pictureCount n_angle n_speed n_ticks n_load n_secondArm n_settings n_working n_written n_writtenIn n_width n_first n_step n_kind n_columns a_2 _ h) (cwV 1 hts gX4_meetings_X2_pictureNumbered rfl rfl rfl hdX2_pictureNumbered ⟨(Nat.le_of_ble_eq_true rfl), (Nat.le_of_ble_eq_true rfl)⟩) (preV_R (r := (RX2, TX2, 11)) hK hPc (ci := 2) (q0 := 0) rfl rfl) rfl rfl hl.1 rfl (lv_room (Nat.le_of_ble_eq_true rfl)) dX4_meetings_14 ⟨(Nat.le_of_ble_eq_true rfl), (Nat.le_of_ble_eq_true rfl)⟩) (fun o_5 hh => ?_)
    obtain ⟨h4, h⟩ := hh
    rcases o_5 with _ | j_6
    · refine W.eq (g2 := F0 m 17 ls [.null]) rfl ?_
      replace h := h.1 rfl
      refine lv_astoreN (lv' := [(4, .null), (3, .ref (nq (6 + 2 * j_2))), (0, .ref (lq 0)), (1, .int a_1), (2, .int a_2)]) hx hb dX4_meetings_17 hl (by decide) rfl (fun ls hl => ?_)
      refine lv_aload_n hx hb dX4_meetings_19 rfl (lv_at hl 1 rfl) ?_
      have tail_3 : ∀ (ls : Array Slot), PX4_meetings_J3 k  → lv_has ls 7 [(4, .null), (3, .ref (nq (6 + 2 * j_2))), (0, .ref (lq 0)), (1, .int a_1), (2, .int a_2)] → W p l e (headSpec wsX4_meetings ({ frames := 4, cells := 0, slots := 0, locals := 83 })).room s m ([.ref (lq 0), .int a_1, .int a_2] : List Value).toArray below meth c s.heap [] 0 0 (MQ below (vp_Si k) ([.ref (lq 0), .int a_1, .int a_2] : List Value).toArray s 0 0 (fun _ => False)) (F0 m 33 ls []) := by
        intro  ls h hl
        unfold PX4_meetings_J3 at h
        refine lv_bipush (v := (-101 : Int32)) hx hb dX4_meetings_33 (by decide) ?_
        exact W.iret hx hb hr (fun t ht hW => ⟨(-101 : Int32), rfl, h, ht⟩) (fun _ h9 => by cases h9) dX4_meetings_35
      refine lv_ifnull hx hb dX4_meetings_20 ?_
      refine lv_aloadN hx hb dX4_meetings_23 (lv_at hl 0 rfl) ?_
      refine lv_ifnullN (tgt := 33) hx hb dX4_meetings_25 (by decide) ?_
      exact tail_3  ls h (lv_sub hl [0, 1, 2, 3, 4] rfl)
    · refine W.eq (g2 := F0 m 17 ls [.ref (nq (6 + 2 * j_6))]) rfl ?_
      have hj_6 : j_6 < 4 := h4 j_6 rfl
      replace h := h.2 j_6 hj_6 rfl
      refine lv_astore (lv' := [(4, .ref (nq (6 + 2 * j_6))), (3, .ref (nq (6 + 2 * j_2))), (0, .ref (lq 0)), (1, .int a_1), (2, .int a_2)]) hx hb dX4_meetings_17 hl (by decide) rfl (fun ls hl => ?_)
      refine lv_aload_n hx hb dX4_meetings_19 rfl (lv_at hl 1 rfl) ?_
      have tail_4 : ∀ (ls : Array Slot), PX4_meetings_J4 k  → lv_has ls 7 [(4, .ref (nq (6 + 2 * j_6))), (3, .ref (nq (6 + 2 * j_2))), (0, .ref (lq 0)), (1, .int a_1), (2, .int a_2)] → W p l e (headSpec wsX4_meetings ({ frames := 4, cells := 0, slots := 0, locals := 83 })).room s m ([.ref (lq 0), .int a_1, .int a_2] : List Value).toArray below meth c s.heap [] 0 0 (MQ below (vp_Si k) ([.ref (lq 0), .int a_1, .int a_2] : List Value).toArray s 0 0 (fun _ => False)) (F0 m 33 ls []) := by
        intro  ls h hl
        unfold PX4_meetings_J4 at h
        refine lv_bipush (v := (-101 : Int32)) hx hb dX4_meetings_33 (by decide) ?_
        exact W.iret hx hb hr (fun t ht hW => ⟨(-101 : Int32), rfl, h, ht⟩) (fun _ h9 => by cases h9) dX4_meetings_35
      refine lv_ifnull hx hb dX4_meetings_20 ?_
      refine lv_aload hx hb dX4_meetings_23 (lv_at hl 0 rfl) ?_
      refine lv_ifnull hx hb dX4_meetings_25 ?_
      refine lv_iload_n hx hb dX4_meetings_28 rfl (lv_at hl 3 rfl) ?_
      refine lv_iload_n hx hb dX4_meetings_29 rfl (lv_at hl 4 rfl) ?_
      refine lv_icmp_ne (tgt := 36) hx hb dX4_meetings_30 (by decide) (fun c_30_6 => ?_) (fun c_30_6 => ?_)
      · replace h := h.1 c_30_6
        refine lv_iconst (v := (0 : Int32)) hx hb dX4_meetings_36 (by decide) ?_
        refine lv_istore (lv' := [(5, .int (0 : Int32)), (4, .ref (nq (6 + 2 * j_6))), (3, .ref (nq (6 + 2 * j_2))), (0, .ref (lq 0)), (1, .int a_1), (2, .int a_2)]) hx hb dX4_meetings_37 hl (by decide) rfl (fun ls hl => ?_)
        refine lv_iconst (v := (0 : Int32)) hx hb dX4_meetings_39 (by decide) ?_
        refine lv_istore (lv' := [(6, .int (0 : Int32)), (5, .int (0 : Int32)), (4, .ref (nq (6 + 2 * j_6))), (3, .ref (nq (6 + 2 * j_2))), (0, .ref (lq 0)), (1, .int a_1), (2, .int a_2)]) hx hb dX4_meetings_40 hl (by decide) rfl (fun ls hl => ?_)
        have loop_5 : ∀ (kx_5 : Int32 → Int32 → Prop), (∀ (v5_8 : Int32) (v6_9 : Int32) (ls : Array Slot), kx_5 v5_8 v6_9 → lv_has ls 7 [(6, .int v6_9), (5, .int v5_8), (4, .ref (nq (6 + 2 * j_6))), (3, .ref (nq (6 + 2 * j_2))), (0, .ref (lq 0)), (1, .int a_1), (2, .int a_2)] → W p l e (headSpec wsX4_meetings ({ frames := 4, cells := 0, slots := 0, locals := 83 })).room s m ([.ref (lq 0), .int a_1, .int a_2] : List Value).toArray below meth c s.heap [] 0 0 (MQ below (vp_Si k) ([.ref (lq 0), .int a_1, .int a_2] : List Value).toArray s 0 0 (fun _ => False)) (F0 m 84 ls [])) → ∀ (n_5 : Nat) (v5_8 : Int32) (v6_9 : Int32) (ls : Array Slot), PX4_meetings_L5 n_width n_first n_step n_kind n_columns j_2 j_6 kx_5 n_5 v5_8 v6_9 → lv_has ls 7 [(6, .int v6_9), (5, .int v5_8), (4, .ref (nq (6 + 2 * j_6))), (3, .ref (nq (6 + 2 * j_2))), (0, .ref (lq 0)), (1, .int a_1), (2, .int a_2)] → W p l e (headSpec wsX4_meetings ({ frames := 4, cells := 0, slots := 0, locals := 83 })).room s m ([.ref (lq 0), .int a_1, .int a_2] : List Value).toArray below meth c s.heap [] 0 0 (MQ below (vp_Si k) ([.ref (lq 0), .int a_1, .int a_2] : List Value).toArray s 0 0 (fun _ => False)) (F0 m 42 ls []) := by
          intro kx_5 hexit_5 n_5
          induction n_5 with
          | zero => exact fun _ _ _ h _ => (h : False).elim
          | succ n_5 ih_5 =>
            intro v5_8 v6_9 ls h hl
            unfold PX4_meetings_L5 at h
            refine lv_iload hx hb dX4_meetings_42 (lv_at hl 0 rfl) ?_
            refine lv_sipush (v := (720 : Int32)) hx hb dX4_meetings_44 (by decide) ?_
            refine lv_icmp_ge (tgt := 84) hx hb dX4_meetings_47 (by decide) (fun c_47_9 => ?_) (fun c_47_9 => ?_)
            · replace h := h.1 c_47_9
              exact hexit_5 v5_8 v6_9 ls h (lv_sub hl [0, 1, 2, 3, 4, 5, 6] rfl)
            · replace h := h.2 c_47_9
              refine lv_iload hx hb dX4_meetings_50 (lv_at hl 1 rfl) ?_
              refine lv_aload_n hx hb dX4_meetings_52 rfl (lv_at hl 3 rfl) ?_
              refine lv_iload hx hb dX4_meetings_53 (lv_at hl 0 rfl) ?_
              have hPc : va_P g.1 vwCl (wP g (fun i => nq (6 + 2 * j_2 + i)) (n_width j_2) (n_first j_2) (n_step j_2) (n_kind j_2) (n_columns j_2)) s.heap := by rcases pk4 hj_2 with rfl | rfl | rfl | rfl <;> first | exact hP.sub [16, 17] rfl | exact hP.sub [18, 19] rfl | exact hP.sub [20, 21] rfl | exact hP.sub [22, 23] rfl
              refine vp_callSl (W.runV (As := [.int v6_9]) (rest := [.int v5_8]) ⟨hx, hb, hml, hown, hts⟩ (kX0_wantedAt l g (fun i => nq (6 + 2 * j_2 + i)) (n_width j_2) (n_first j_2) (n_step j_2) (n_kind j_2) (n_columns j_2) v6_9 _ h) (cwV 1 hts gX4_meetings_X0_wantedAt rfl rfl rfl hdX0_wantedAt ⟨(Nat.le_of_ble_eq_true rfl), (Nat.le_of_ble_eq_true rfl)⟩) (preV_R (r := (RX0, TX0, 5)) hK hPc (ci := 0) (q0 := 0) rfl rfl) rfl rfl hl.1 rfl (lv_room (Nat.le_of_ble_eq_true rfl)) dX4_meetings_55 ⟨(Nat.le_of_ble_eq_true rfl), (Nat.le_of_ble_eq_true rfl)⟩) (fun r55_11 h => ?_)
              refine vp_callSl (W.runS (As := [.long r55_11]) (rest := [.int v5_8]) ⟨hx, hb, hml, hown, hts⟩ (kX4_notDark l g  r55_11 _ h) (va_cwS 1 hts gX4_meetings_X4_notDark rfl rfl rfl hdX4_notDark.2 ⟨(Nat.le_of_ble_eq_true rfl), (Nat.le_of_ble_eq_true rfl)⟩) (preS_R hK (va_P_nil (D := g.1) (cl := vwCl))) rfl rfl hl.1 rfl (lv_room (Nat.le_of_ble_eq_true rfl)) dX4_meetings_58 ⟨(Nat.le_of_ble_eq_true rfl), (Nat.le_of_ble_eq_true rfl)⟩) (fun r58_12 h => ?_)
              refine lv_aload hx hb dX4_meetings_61 (lv_at hl 2 rfl) ?_
              refine lv_iload hx hb dX4_meetings_63 (lv_at hl 0 rfl) ?_
              have hPc : va_P g.1 vwCl (wP g (fun i => nq (6 + 2 * j_6 + i)) (n_width j_6) (n_first j_6) (n_step j_6) (n_kind j_6) (n_columns j_6)) s.heap := by rcases pk4 hj_6 with rfl | rfl | rfl | rfl <;> first | exact hP.sub [16, 17] rfl | exact hP.sub [18, 19] rfl | exact hP.sub [20, 21] rfl | exact hP.sub [22, 23] rfl
              refine vp_callSl (W.runV (As := [.int v6_9]) (rest := [.long r58_12, .int v5_8]) ⟨hx, hb, hml, hown, hts⟩ (kX0_wantedAt l g (fun i => nq (6 + 2 * j_6 + i)) (n_width j_6) (n_first j_6) (n_step j_6) (n_kind j_6) (n_columns j_6) v6_9 _ h) (cwV 1 hts gX4_meetings_X0_wantedAt rfl rfl rfl hdX0_wantedAt ⟨(Nat.le_of_ble_eq_true rfl), (Nat.le_of_ble_eq_true rfl)⟩) (preV_R (r := (RX0, TX0, 5)) hK hPc (ci := 0) (q0 := 0) rfl rfl) rfl rfl hl.1 rfl (lv_room (Nat.le_of_ble_eq_true rfl)) dX4_meetings_65 ⟨(Nat.le_of_ble_eq_true rfl), (Nat.le_of_ble_eq_true rfl)⟩) (fun r65_13 h => ?_)
              refine vp_callSl (W.runS (As := [.long r65_13]) (rest := [.long r58_12, .int v5_8]) ⟨hx, hb, hml, hown, hts⟩ (kX4_notDark l g  r65_13 _ h) (va_cwS 1 hts gX4_meetings_X4_notDark rfl rfl rfl hdX4_notDark.2 ⟨(Nat.le_of_ble_eq_true rfl), (Nat.le_of_ble_eq_true rfl)⟩) (preS_R hK (va_P_nil (D := g.1) (cl := vwCl))) rfl rfl hl.1 rfl (lv_room (Nat.le_of_ble_eq_true rfl)) dX4_meetings_68 ⟨(Nat.le_of_ble_eq_true rfl), (Nat.le_of_ble_eq_true rfl)⟩) (fun r68_14 h => ?_)
              refine lv_land hx hb dX4_meetings_71 ?_
              refine vp_callSi (W.runS (As := [.long (r58_12 &&& r68_14)]) (rest := [.int v5_8]) ⟨hx, hb, hml, hown, hts⟩ (kJ13_bitCount_95d88 l g  (r58_12 &&& r68_14) _ h) (va_cwS 1 hts gX4_meetings_J13_bitCount_95d88 rfl rfl rfl hdJ13_bitCount_95d88.2 ⟨(Nat.le_of_ble_eq_true rfl), (Nat.le_of_ble_eq_true rfl)⟩) (preS_R hK (va_P_nil (D := g.1) (cl := vwCl))) rfl rfl hl.1 rfl (lv_room (Nat.le_of_ble_eq_true rfl)) dX4_meetings_72 ⟨(Nat.le_of_ble_eq_true rfl), (Nat.le_of_ble_eq_true rfl)⟩) (fun r72_15 h => ?_)
              refine lv_iadd hx hb dX4_meetings_75 ?_
              refine lv_topi (fun v5_16 e_v5_16 => ?_)
              replace h := h v5_16 e_v5_16
              refine lv_istore (lv' := [(5, .int v5_16), (6, .int v6_9), (4, .ref (nq (6 + 2 * j_6))), (3, .ref (nq (6 + 2 * j_2))), (0, .ref (lq 0)), (1, .int a_1), (2, .int a_2)]) hx hb dX4_meetings_76 hl (by decide) rfl (fun ls hl => ?_)
              obtain ⟨v6_17, e_v6_17⟩ : ∃ y : Int32, y = v6_9 + (1 : Int32) := ⟨_, rfl⟩
              replace h := h v6_17 e_v6_17
              refine lv_iinc (v := v6_17) (lv' := [(6, .int v6_17), (5, .int v5_16), (4, .ref (nq (6 + 2 * j_6))), (3, .ref (nq (6 + 2 * j_2))), (0, .ref (lq 0)), (1, .int a_1), (2, .int a_2)]) hx hb dX4_meetings_78 hl (k := 1) rfl (by rw [e_v6_17]; rfl) (by decide) rfl (fun ls hl => ?_)
              refine lv_goto (tgt := 42) hx hb dX4_meetings_81 (by decide) ?_
              exact ih_5 v5_16 v6_17 ls h (lv_sub hl [0, 1, 2, 3, 4, 5, 6] rfl)
        obtain ⟨n_5, h⟩ := h
        refine loop_5 _ ?_ n_5 (0 : Int32) (0 : Int32) ls h (lv_sub hl [0, 1, 2, 3, 4, 5, 6] rfl)
        intro v5_8 v6_9 ls h hl
        refine lv_iload hx hb dX4_meetings_84 (lv_at hl 1 rfl) ?_
        exact W.iret hx hb hr (fun t ht hW => ⟨v5_8, rfl, h, ht⟩) (fun _ h9 => by cases h9) dX4_meetings_86
      · replace h := h.2 c_30_6
        exact tail_4  ls h (lv_sub hl [0, 1, 2, 3, 4] rfl)
theorem hdX4_countRight : yX4_countRight.cls = RX4 ∧ yX4_countRight.cls ≠ "java/lang/invoke/MethodHandle" ∧ yX4_countRight.cls ≠ "java/lang/invoke/VarHandle" ∧ (parseMethodDescriptor yX4_countRight.desc).map (fun d => d.parameters.length) = some 1 := by decide +kernel
set_option maxHeartbeats 4000000 in
set_option maxRecDepth 100000 in
theorem kX4_countRight (l : Launch) (g : GG) (lq rq wq nq : Nat → Nat) (hq : Nat → Nat → Nat) (l_oldest : Int32) (l_historySize : Int32) (l_text : Nat → Int32) (l_textLength : Int32) (l_rightAlone : Nat → Int64) (r_columns : Nat → Int64) (r_columnCount : Int32) (r_awaited : Int32) (r_told : Int32) (r_number : Int32) (r_numberStart : Int32) (w_wanted : Nat → Int64) (w_loadAt : Nat → Int32) (w_passedIn : Nat → Int32) (w_secondArm : Int32) (w_power : Int32) (w_limit : Int32) (w_wantedSpeed : Int32) (w_angle : Int32) (w_speed : Int32) (w_load : Int32) (w_ticks : Int32) (n_pictureCount : Int32) (n_angle : Int32) (n_speed : Int32) (n_ticks : Int32) (n_load : Int32) (n_secondArm : Int32) (n_settings : Nat → Int32) (n_working : Nat → Int64) (n_written : Nat → Int64) (n_writtenIn : Nat → Int32) (n_width : Nat → Int32) (n_first : Nat → Int32) (n_step : Nat → Int32) (n_kind : Nat → Int32) (n_columns : Nat → Nat → Int64) (a_1 : Int32) (k : Int32 → Prop) (h : PX4_countRight l_rightAlone w_passedIn w_secondArm n_settings n_working a_1 k) : Met l yX4_countRight wsX4_countRight ({ frames := 2, cells := 0, slots := 0, locals := 41 }) (PreR g [.ref (lq 0), .int a_1] (wL g lq nq rq wq hq l_oldest l_historySize l_text l_textLength l_rightAlone ++ (wR g rq r_columns r_columnCount r_awaited r_told r_number r_numberStart ++ (wW g wq w_wanted w_loadAt w_passedIn w_secondArm w_power w_limit w_wantedSpeed w_angle w_speed w_load w_ticks ++ (wS g nq n_pictureCount n_angle n_speed n_ticks n_load n_secondArm n_settings n_working n_written n_writtenIn n_width n_first n_step n_kind n_columns))))) (vp_Si k) 0 0 (fun _ => False) := by
  refine Met.ofW (cc := cX4_countRight) (maxL := 9) (ret := (some .int)) (by decide) rfl ?_
  intro p e s m args below meth c s₁ B hml hv
  obtain ⟨rfl, hP, hK⟩ := hv
  have hx := B.exec
  have hb := B.bytes
  have hr := B.returns
  have hts := atoms_spec (ws := wsX4_countRight) B.pre
  have hown : s.vm.findClass RX4 = some m.cls := findClass_of_methodNamed B.named
  have hlocks := B.notSynchronized
  have iX2 : ∀ w ∈ wsX20, w ∈ wsX4_countRight := by decide +kernel
  have iX4 : ∀ w ∈ wsX40, w ∈ wsX4_countRight := by decide +kernel
  have hl := lv_entry ([.ref (lq 0), .int a_1]) (n := 9) (Nat.le_of_ble_eq_true rfl)
  rw [lg_entry_eq]
  generalize (lg_sl ([.ref (lq 0), .int a_1]) ++ List.replicate (9 - (lg_sl ([.ref (lq 0), .int a_1])).length) Slot.unset).toArray = ls at hl ⊢
  have hl : lv_has ls 9 [(0, .ref (lq 0)), (1, .int a_1)] := hl
  unfold PX4_countRight at h
  refine lv_iconst (v := (0 : Int32)) hx hb dX4_countRight_0 (by decide) ?_
  refine lv_iload_n hx hb dX4_countRight_1 rfl (lv_at hl 1 rfl) ?_
  refine lv_aload_n hx hb dX4_countRight_2 rfl (lv_at hl 0 rfl) ?_
  refine va_get (D := g.1) (ci := 4) (v := .ref (nq 0)) (C := RX4) (T := TX4) (N := 9) hx hb hts iX4 hown hK.1 hP 0 rfl rfl 0 (by decide) (hts (.fieldLink RX4 10 "LightWheel" "now" "LLightWheel$State;") (by decide +kernel)) (fun _ h9 => h9) rfl dX4_countRight_3 ?_
  refine va_get (D := g.1) (ci := 2) (v := .ref (nq 2)) (C := RX2) (T := TX2) (N := 11) hx hb hts iX2 hown hK.1 hP 10 rfl rfl 7 (by decide) (hts (.fieldLink RX4 128 "LightWheel$State" "settings" "[I") (by decide +kernel)) (fun _ h9 => h9) rfl dX4_countRight_6 ?_
  refine lv_iconst (v := (3 : Int32)) hx hb dX4_countRight_9 (by decide) ?_
  refine xr_iald hx hb hK.1 hP 12 0 rfl rfl 3 rfl (Nat.le_of_ble_eq_true rfl) (Nat.le_of_ble_eq_true rfl) dX4_countRight_10 ?_
  refine lv_isub hx hb dX4_countRight_11 ?_
  refine va_mmax hx hb (hml.trans hl.1.symm) hown (hts (.methodLink RX4 232 Lib.Math.max.name) (by decide +kernel)) (hts (.static Lib.Math.max.name) (by decide +kernel)) (hts (.initialized "java/lang/Math") (by decide +kernel)) (hts (.code Lib.Math.max.name Lib.Math.max.code 2 (some .int)) (by decide +kernel)) (Nat.le_of_ble_eq_true rfl) (Nat.le_of_ble_eq_true rfl) (Nat.zero_le _) (Nat.zero_le _) dX4_countRight_12 ?_
  refine lv_topi (fun v2_1 e_v2_1 => ?_)
  replace h := h v2_1 e_v2_1
  refine lv_istore_n (lv' := [(2, .int v2_1), (0, .ref (lq 0)), (1, .int a_1)]) hx hb dX4_countRight_15 rfl hl (by decide) rfl (fun ls hl => ?_)
  refine lv_iconst (v := (0 : Int32)) hx hb dX4_countRight_16 (by decide) ?_
  refine lv_istore_n (lv' := [(3, .int (0 : Int32)), (2, .int v2_1), (0, .ref (lq 0)), (1, .int a_1)]) hx hb dX4_countRight_17 rfl hl (by decide) rfl (fun ls hl => ?_)
  refine lv_iconst (v := (0 : Int32)) hx hb dX4_countRight_18 (by decide) ?_
  refine lv_istore (lv' := [(4, .int (0 : Int32)), (3, .int (0 : Int32)), (2, .int v2_1), (0, .ref (lq 0)), (1, .int a_1)]) hx hb dX4_countRight_19 hl (by decide) rfl (fun ls hl => ?_)
  have loop_1 : ∀ (kx_1 : Int32 → Int32 → Prop), (∀ (v3_2 : Int32) (v4_3 : Int32) (ls : Array Slot), kx_1 v3_2 v4_3 → lv_has ls 9 [(4, .int v4_3), (3, .int v3_2), (2, .int v2_1), (0, .ref (lq 0)), (1, .int a_1)] → W p l e (headSpec wsX4_countRight ({ frames := 2, cells := 0, slots := 0, locals := 41 })).room s m ([.ref (lq 0), .int a_1] : List Value).toArray below meth c s.heap [] 0 0 (MQ below (vp_Si k) ([.ref (lq 0), .int a_1] : List Value).toArray s 0 0 (fun _ => False)) (F0 m 110 ls [])) → ∀ (n_1 : Nat) (v3_2 : Int32) (v4_3 : Int32) (ls : Array Slot), PX4_countRight_L1 l_rightAlone w_passedIn w_secondArm n_working v2_1 kx_1 n_1 v3_2 v4_3 → lv_has ls 9 [(4, .int v4_3), (3, .int v3_2), (2, .int v2_1), (0, .ref (lq 0)), (1, .int a_1)] → W p l e (headSpec wsX4_countRight ({ frames := 2, cells := 0, slots := 0, locals := 41 })).room s m ([.ref (lq 0), .int a_1] : List Value).toArray below meth c s.heap [] 0 0 (MQ below (vp_Si k) ([.ref (lq 0), .int a_1] : List Value).toArray s 0 0 (fun _ => False)) (F0 m 21 ls []) := by
    intro kx_1 hexit_1 n_1
    induction n_1 with
    | zero => exact fun _ _ _ h _ => (h : False).elim
    | succ n_1 ih_1 =>
      intro v3_2 v4_3 ls h hl
      unfold PX4_countRight_L1 at h
      refine lv_iload hx hb dX4_countRight_21 (lv_at hl 0 rfl) ?_
      refine lv_sipush (v := (720 : Int32)) hx hb dX4_countRight_23 (by decide) ?_
      refine lv_icmp_ge (tgt := 110) hx hb dX4_countRight_26 (by decide) (fun c_26_3 => ?_) (fun c_26_3 => ?_)
      · replace h := h.1 c_26_3
        exact hexit_1 v3_2 v4_3 ls h (lv_sub hl [0, 1, 2, 3, 4] rfl)
      · replace h := h.2 c_26_3
        refine lv_aload_n hx hb dX4_countRight_29 rfl (lv_at hl 3 rfl) ?_
        refine va_get (D := g.1) (ci := 4) (v := .ref (wq 0)) (C := RX4) (T := TX4) (N := 9) hx hb hts iX4 hown hK.1 hP 0 rfl rfl 7 (by decide) (hts (.fieldLink RX4 44 "LightWheel" "sweep" "LLightWheel$Sweep;") (by decide +kernel)) (fun _ h9 => h9) rfl dX4_countRight_30 ?_
        refine lv_iload hx hb dX4_countRight_33 (lv_at hl 0 rfl) ?_
        have hPc : va_P g.1 vwCl (wW g wq w_wanted w_loadAt w_passedIn w_secondArm w_power w_limit w_wantedSpeed w_angle w_speed w_load w_ticks) s.heap := hP.sub [6, 7, 8, 9] rfl
        refine vp_callSi (W.runV (As := [.int v4_3]) (rest := []) ⟨hx, hb, hml, hown, hts⟩ (kX3_firstArmAt l g wq w_wanted w_loadAt w_passedIn w_secondArm w_power w_limit w_wantedSpeed w_angle w_speed w_load w_ticks v4_3 _ h) (cwV 1 hts gX4_countRight_X3_firstArmAt rfl rfl rfl hdX3_firstArmAt ⟨(Nat.le_of_ble_eq_true rfl), (Nat.le_of_ble_eq_true rfl)⟩) (preV_R (r := (RX3, TX3, 11)) hK hPc (ci := 3) (q0 := 0) rfl rfl) rfl rfl hl.1 rfl (lv_room (Nat.le_of_ble_eq_true rfl)) dX4_countRight_35 ⟨(Nat.le_of_ble_eq_true rfl), (Nat.le_of_ble_eq_true rfl)⟩) (fun r35_5 h => ?_)
        refine lv_iload_n hx hb dX4_countRight_38 rfl (lv_at hl 2 rfl) ?_
        refine lv_icmp_le (tgt := 54) hx hb dX4_countRight_39 (by decide) (fun c_39_5 => ?_) (fun c_39_5 => ?_)
        · replace h := h.1 c_39_5
          refine lv_lconst (v := (0 : Int64)) hx hb dX4_countRight_54 (by decide) ?_
          refine lv_lstore (lv' := [(5, .long (0 : Int64)), (4, .int v4_3), (3, .int v3_2), (2, .int v2_1), (0, .ref (lq 0)), (1, .int a_1)]) hx hb dX4_countRight_55 hl (by decide) rfl (fun ls hl => ?_)
          refine lv_aload_n hx hb dX4_countRight_57 rfl (lv_at hl 4 rfl) ?_
          refine va_get (D := g.1) (ci := 4) (v := .ref (wq 0)) (C := RX4) (T := TX4) (N := 9) hx hb hts iX4 hown hK.1 hP 0 rfl rfl 7 (by decide) (hts (.fieldLink RX4 44 "LightWheel" "sweep" "LLightWheel$Sweep;") (by decide +kernel)) (fun _ h9 => h9) rfl dX4_countRight_58 ?_
          refine lv_iload hx hb dX4_countRight_61 (lv_at hl 1 rfl) ?_
          have hPc : va_P g.1 vwCl (wW g wq w_wanted w_loadAt w_passedIn w_secondArm w_power w_limit w_wantedSpeed w_angle w_speed w_load w_ticks) s.heap := hP.sub [6, 7, 8, 9] rfl
          refine vp_callSi (W.runV (As := [.int v4_3]) (rest := []) ⟨hx, hb, hml, hown, hts⟩ (kX3_secondArmAt l g wq w_wanted w_loadAt w_passedIn w_secondArm w_power w_limit w_wantedSpeed w_angle w_speed w_load w_ticks v4_3 _ h) (cwV 1 hts gX4_countRight_X3_secondArmAt rfl rfl rfl hdX3_secondArmAt ⟨(Nat.le_of_ble_eq_true rfl), (Nat.le_of_ble_eq_true rfl)⟩) (preV_R (r := (RX3, TX3, 11)) hK hPc (ci := 3) (q0 := 0) rfl rfl) rfl rfl hl.1 rfl (lv_room (Nat.le_of_ble_eq_true rfl)) dX4_countRight_63 ⟨(Nat.le_of_ble_eq_true rfl), (Nat.le_of_ble_eq_true rfl)⟩) (fun r63_7 h => ?_)
          refine lv_iload_n hx hb dX4_countRight_66 rfl (lv_at hl 3 rfl) ?_
          refine lv_icmp_le (tgt := 82) hx hb dX4_countRight_67 (by decide) (fun c_67_7 => ?_) (fun c_67_7 => ?_)
          · replace h := h.1 c_67_7
            refine lv_lconst (v := (0 : Int64)) hx hb dX4_countRight_82 (by decide) ?_
            refine lv_lstore (lv' := [(7, .long (0 : Int64)), (5, .long (0 : Int64)), (4, .int v4_3), (3, .int v3_2), (2, .int v2_1), (0, .ref (lq 0)), (1, .int a_1)]) hx hb dX4_countRight_83 hl (by decide) rfl (fun ls hl => ?_)
            refine lv_iload_n hx hb dX4_countRight_85 rfl (lv_at hl 3 rfl) ?_
            refine lv_lload hx hb dX4_countRight_86 (lv_at hl 1 rfl) ?_
            refine lv_lload hx hb dX4_countRight_88 (lv_at hl 0 rfl) ?_
            refine lv_lor hx hb dX4_countRight_90 ?_
            refine lv_aload_n hx hb dX4_countRight_91 rfl (lv_at hl 5 rfl) ?_
            refine va_get (D := g.1) (ci := 4) (v := .ref (lq 3)) (C := RX4) (T := TX4) (N := 9) hx hb hts iX4 hown hK.1 hP 0 rfl rfl 8 (by decide) (hts (.fieldLink RX4 48 "LightWheel" "rightAlone" "[J") (by decide +kernel)) (fun _ h9 => h9) rfl dX4_countRight_92 ?_
            refine lv_iload hx hb dX4_countRight_95 (lv_at hl 2 rfl) ?_
            have o_97_8 := h.1
            replace h := h.2
            refine va_lald hx hb hK.1 hP 3 1 rfl rfl o_97_8 dX4_countRight_97 ?_
            refine lv_lor hx hb dX4_countRight_98 ?_
            refine vp_callSi (W.runS (As := [.long (((0 : Int64) ||| (0 : Int64)) ||| (l_rightAlone (Int32.toNatClampNeg v4_3)))]) (rest := [.int v3_2]) ⟨hx, hb, hml, hown, hts⟩ (kJ13_bitCount_95d88 l g  (((0 : Int64) ||| (0 : Int64)) ||| (l_rightAlone (Int32.toNatClampNeg v4_3))) _ h) (va_cwS 1 hts gX4_countRight_J13_bitCount_95d88 rfl rfl rfl hdJ13_bitCount_95d88.2 ⟨(Nat.le_of_ble_eq_true rfl), (Nat.le_of_ble_eq_true rfl)⟩) (preS_R hK (va_P_nil (D := g.1) (cl := vwCl))) rfl rfl hl.1 rfl (lv_room (Nat.le_of_ble_eq_true rfl)) dX4_countRight_99 ⟨(Nat.le_of_ble_eq_true rfl), (Nat.le_of_ble_eq_true rfl)⟩) (fun r99_10 h => ?_)
            refine lv_iadd hx hb dX4_countRight_102 ?_
            refine lv_topi (fun v3_11 e_v3_11 => ?_)
            replace h := h v3_11 e_v3_11
            refine lv_istore_n (lv' := [(3, .int v3_11), (7, .long (0 : Int64)), (5, .long (0 : Int64)), (4, .int v4_3), (2, .int v2_1), (0, .ref (lq 0)), (1, .int a_1)]) hx hb dX4_countRight_103 rfl hl (by decide) rfl (fun ls hl => ?_)
            obtain ⟨v4_12, e_v4_12⟩ : ∃ y : Int32, y = v4_3 + (1 : Int32) := ⟨_, rfl⟩
            replace h := h v4_12 e_v4_12
            refine lv_iinc (v := v4_12) (lv' := [(4, .int v4_12), (3, .int v3_11), (7, .long (0 : Int64)), (5, .long (0 : Int64)), (2, .int v2_1), (0, .ref (lq 0)), (1, .int a_1)]) hx hb dX4_countRight_104 hl (k := 3) rfl (by rw [e_v4_12]; rfl) (by decide) rfl (fun ls hl => ?_)
            refine lv_goto (tgt := 21) hx hb dX4_countRight_107 (by decide) ?_
            exact ih_1 v3_11 v4_12 ls h (lv_sub hl [0, 1, 4, 5, 6] rfl)
          · replace h := h.2 c_67_7
            refine lv_aload_n hx hb dX4_countRight_70 rfl (lv_at hl 4 rfl) ?_
            refine va_get (D := g.1) (ci := 4) (v := .ref (nq 0)) (C := RX4) (T := TX4) (N := 9) hx hb hts iX4 hown hK.1 hP 0 rfl rfl 0 (by decide) (hts (.fieldLink RX4 10 "LightWheel" "now" "LLightWheel$State;") (by decide +kernel)) (fun _ h9 => h9) rfl dX4_countRight_71 ?_
            refine va_get (D := g.1) (ci := 2) (v := .ref (nq 3)) (C := RX2) (T := TX2) (N := 11) hx hb hts iX2 hown hK.1 hP 10 rfl rfl 8 (by decide) (hts (.fieldLink RX4 116 "LightWheel$State" "working" "[J") (by decide +kernel)) (fun _ h9 => h9) rfl dX4_countRight_74 ?_
            refine lv_iconst (v := (1 : Int32)) hx hb dX4_countRight_77 (by decide) ?_
            refine xr_lald hx hb hK.1 hP 13 1 rfl rfl 1 rfl (Nat.le_of_ble_eq_true rfl) (Nat.le_of_ble_eq_true rfl) dX4_countRight_78 ?_
            refine lv_goto (tgt := 83) hx hb dX4_countRight_79 (by decide) ?_
            refine lv_topl (fun v7_13 e_v7_13 => ?_)
            replace h := h v7_13 e_v7_13
            refine lv_lstore (lv' := [(7, .long v7_13), (5, .long (0 : Int64)), (4, .int v4_3), (3, .int v3_2), (2, .int v2_1), (0, .ref (lq 0)), (1, .int a_1)]) hx hb dX4_countRight_83 hl (by decide) rfl (fun ls hl => ?_)
            refine lv_iload_n hx hb dX4_countRight_85 rfl (lv_at hl 3 rfl) ?_
            refine lv_lload hx hb dX4_countRight_86 (lv_at hl 1 rfl) ?_
            refine lv_lload hx hb dX4_countRight_88 (lv_at hl 0 rfl) ?_
            refine lv_lor hx hb dX4_countRight_90 ?_
            refine lv_aload_n hx hb dX4_countRight_91 rfl (lv_at hl 5 rfl) ?_
            refine va_get (D := g.1) (ci := 4) (v := .ref (lq 3)) (C := RX4) (T := TX4) (N := 9) hx hb hts iX4 hown hK.1 hP 0 rfl rfl 8 (by decide) (hts (.fieldLink RX4 48 "LightWheel" "rightAlone" "[J") (by decide +kernel)) (fun _ h9 => h9) rfl dX4_countRight_92 ?_
            refine lv_iload hx hb dX4_countRight_95 (lv_at hl 2 rfl) ?_
            have o_97_13 := h.1
            replace h := h.2
            refine va_lald hx hb hK.1 hP 3 1 rfl rfl o_97_13 dX4_countRight_97 ?_
            refine lv_lor hx hb dX4_countRight_98 ?_
            refine vp_callSi (W.runS (As := [.long (((0 : Int64) ||| v7_13) ||| (l_rightAlone (Int32.toNatClampNeg v4_3)))]) (rest := [.int v3_2]) ⟨hx, hb, hml, hown, hts⟩ (kJ13_bitCount_95d88 l g  (((0 : Int64) ||| v7_13) ||| (l_rightAlone (Int32.toNatClampNeg v4_3))) _ h) (va_cwS 1 hts gX4_countRight_J13_bitCount_95d88 rfl rfl rfl hdJ13_bitCount_95d88.2 ⟨(Nat.le_of_ble_eq_true rfl), (Nat.le_of_ble_eq_true rfl)⟩) (preS_R hK (va_P_nil (D := g.1) (cl := vwCl))) rfl rfl hl.1 rfl (lv_room (Nat.le_of_ble_eq_true rfl)) dX4_countRight_99 ⟨(Nat.le_of_ble_eq_true rfl), (Nat.le_of_ble_eq_true rfl)⟩) (fun r99_15 h => ?_)
            refine lv_iadd hx hb dX4_countRight_102 ?_
            refine lv_topi (fun v3_16 e_v3_16 => ?_)
            replace h := h v3_16 e_v3_16
            refine lv_istore_n (lv' := [(3, .int v3_16), (7, .long v7_13), (5, .long (0 : Int64)), (4, .int v4_3), (2, .int v2_1), (0, .ref (lq 0)), (1, .int a_1)]) hx hb dX4_countRight_103 rfl hl (by decide) rfl (fun ls hl => ?_)
            obtain ⟨v4_17, e_v4_17⟩ : ∃ y : Int32, y = v4_3 + (1 : Int32) := ⟨_, rfl⟩
            replace h := h v4_17 e_v4_17
            refine lv_iinc (v := v4_17) (lv' := [(4, .int v4_17), (3, .int v3_16), (7, .long v7_13), (5, .long (0 : Int64)), (2, .int v2_1), (0, .ref (lq 0)), (1, .int a_1)]) hx hb dX4_countRight_104 hl (k := 3) rfl (by rw [e_v4_17]; rfl) (by decide) rfl (fun ls hl => ?_)
            refine lv_goto (tgt := 21) hx hb dX4_countRight_107 (by decide) ?_
            exact ih_1 v3_16 v4_17 ls h (lv_sub hl [0, 1, 4, 5, 6] rfl)
        · replace h := h.2 c_39_5
          refine lv_aload_n hx hb dX4_countRight_42 rfl (lv_at hl 3 rfl) ?_
          refine va_get (D := g.1) (ci := 4) (v := .ref (nq 0)) (C := RX4) (T := TX4) (N := 9) hx hb hts iX4 hown hK.1 hP 0 rfl rfl 0 (by decide) (hts (.fieldLink RX4 10 "LightWheel" "now" "LLightWheel$State;") (by decide +kernel)) (fun _ h9 => h9) rfl dX4_countRight_43 ?_
          refine va_get (D := g.1) (ci := 2) (v := .ref (nq 3)) (C := RX2) (T := TX2) (N := 11) hx hb hts iX2 hown hK.1 hP 10 rfl rfl 8 (by decide) (hts (.fieldLink RX4 116 "LightWheel$State" "working" "[J") (by decide +kernel)) (fun _ h9 => h9) rfl dX4_countRight_46 ?_
          refine lv_iconst (v := (0 : Int32)) hx hb dX4_countRight_49 (by decide) ?_
          refine xr_lald hx hb hK.1 hP 13 1 rfl rfl 0 rfl (Nat.le_of_ble_eq_true rfl) (Nat.le_of_ble_eq_true rfl) dX4_countRight_50 ?_
          refine lv_goto (tgt := 55) hx hb dX4_countRight_51 (by decide) ?_
          refine lv_topl (fun v5_18 e_v5_18 => ?_)
          replace h := h v5_18 e_v5_18
          refine lv_lstore (lv' := [(5, .long v5_18), (4, .int v4_3), (3, .int v3_2), (2, .int v2_1), (0, .ref (lq 0)), (1, .int a_1)]) hx hb dX4_countRight_55 hl (by decide) rfl (fun ls hl => ?_)
          refine lv_aload_n hx hb dX4_countRight_57 rfl (lv_at hl 4 rfl) ?_
          refine va_get (D := g.1) (ci := 4) (v := .ref (wq 0)) (C := RX4) (T := TX4) (N := 9) hx hb hts iX4 hown hK.1 hP 0 rfl rfl 7 (by decide) (hts (.fieldLink RX4 44 "LightWheel" "sweep" "LLightWheel$Sweep;") (by decide +kernel)) (fun _ h9 => h9) rfl dX4_countRight_58 ?_
          refine lv_iload hx hb dX4_countRight_61 (lv_at hl 1 rfl) ?_
          have hPc : va_P g.1 vwCl (wW g wq w_wanted w_loadAt w_passedIn w_secondArm w_power w_limit w_wantedSpeed w_angle w_speed w_load w_ticks) s.heap := hP.sub [6, 7, 8, 9] rfl
          refine vp_callSi (W.runV (As := [.int v4_3]) (rest := []) ⟨hx, hb, hml, hown, hts⟩ (kX3_secondArmAt l g wq w_wanted w_loadAt w_passedIn w_secondArm w_power w_limit w_wantedSpeed w_angle w_speed w_load w_ticks v4_3 _ h) (cwV 1 hts gX4_countRight_X3_secondArmAt rfl rfl rfl hdX3_secondArmAt ⟨(Nat.le_of_ble_eq_true rfl), (Nat.le_of_ble_eq_true rfl)⟩) (preV_R (r := (RX3, TX3, 11)) hK hPc (ci := 3) (q0 := 0) rfl rfl) rfl rfl hl.1 rfl (lv_room (Nat.le_of_ble_eq_true rfl)) dX4_countRight_63 ⟨(Nat.le_of_ble_eq_true rfl), (Nat.le_of_ble_eq_true rfl)⟩) (fun r63_19 h => ?_)
          refine lv_iload_n hx hb dX4_countRight_66 rfl (lv_at hl 3 rfl) ?_
          refine lv_icmp_le (tgt := 82) hx hb dX4_countRight_67 (by decide) (fun c_67_19 => ?_) (fun c_67_19 => ?_)
          · replace h := h.1 c_67_19
            refine lv_lconst (v := (0 : Int64)) hx hb dX4_countRight_82 (by decide) ?_
            refine lv_lstore (lv' := [(7, .long (0 : Int64)), (5, .long v5_18), (4, .int v4_3), (3, .int v3_2), (2, .int v2_1), (0, .ref (lq 0)), (1, .int a_1)]) hx hb dX4_countRight_83 hl (by decide) rfl (fun ls hl => ?_)
            refine lv_iload_n hx hb dX4_countRight_85 rfl (lv_at hl 3 rfl) ?_
            refine lv_lload hx hb dX4_countRight_86 (lv_at hl 1 rfl) ?_
            refine lv_lload hx hb dX4_countRight_88 (lv_at hl 0 rfl) ?_
            refine lv_lor hx hb dX4_countRight_90 ?_
            refine lv_aload_n hx hb dX4_countRight_91 rfl (lv_at hl 5 rfl) ?_
            refine va_get (D := g.1) (ci := 4) (v := .ref (lq 3)) (C := RX4) (T := TX4) (N := 9) hx hb hts iX4 hown hK.1 hP 0 rfl rfl 8 (by decide) (hts (.fieldLink RX4 48 "LightWheel" "rightAlone" "[J") (by decide +kernel)) (fun _ h9 => h9) rfl dX4_countRight_92 ?_
            refine lv_iload hx hb dX4_countRight_95 (lv_at hl 2 rfl) ?_
            have o_97_20 := h.1
            replace h := h.2
            refine va_lald hx hb hK.1 hP 3 1 rfl rfl o_97_20 dX4_countRight_97 ?_
            refine lv_lor hx hb dX4_countRight_98 ?_
            refine vp_callSi (W.runS (As := [.long ((v5_18 ||| (0 : Int64)) ||| (l_rightAlone (Int32.toNatClampNeg v4_3)))]) (rest := [.int v3_2]) ⟨hx, hb, hml, hown, hts⟩ (kJ13_bitCount_95d88 l g  ((v5_18 ||| (0 : Int64)) ||| (l_rightAlone (Int32.toNatClampNeg v4_3))) _ h) (va_cwS 1 hts gX4_countRight_J13_bitCount_95d88 rfl rfl rfl hdJ13_bitCount_95d88.2 ⟨(Nat.le_of_ble_eq_true rfl), (Nat.le_of_ble_eq_true rfl)⟩) (preS_R hK (va_P_nil (D := g.1) (cl := vwCl))) rfl rfl hl.1 rfl (lv_room (Nat.le_of_ble_eq_true rfl)) dX4_countRight_99 ⟨(Nat.le_of_ble_eq_true rfl), (Nat.le_of_ble_eq_true rfl)⟩) (fun r99_22 h => ?_)
            refine lv_iadd hx hb dX4_countRight_102 ?_
            refine lv_topi (fun v3_23 e_v3_23 => ?_)
            replace h := h v3_23 e_v3_23
            refine lv_istore_n (lv' := [(3, .int v3_23), (7, .long (0 : Int64)), (5, .long v5_18), (4, .int v4_3), (2, .int v2_1), (0, .ref (lq 0)), (1, .int a_1)]) hx hb dX4_countRight_103 rfl hl (by decide) rfl (fun ls hl => ?_)
            obtain ⟨v4_24, e_v4_24⟩ : ∃ y : Int32, y = v4_3 + (1 : Int32) := ⟨_, rfl⟩
            replace h := h v4_24 e_v4_24
            refine lv_iinc (v := v4_24) (lv' := [(4, .int v4_24), (3, .int v3_23), (7, .long (0 : Int64)), (5, .long v5_18), (2, .int v2_1), (0, .ref (lq 0)), (1, .int a_1)]) hx hb dX4_countRight_104 hl (k := 3) rfl (by rw [e_v4_24]; rfl) (by decide) rfl (fun ls hl => ?_)
            refine lv_goto (tgt := 21) hx hb dX4_countRight_107 (by decide) ?_
            exact ih_1 v3_23 v4_24 ls h (lv_sub hl [0, 1, 4, 5, 6] rfl)
          · replace h := h.2 c_67_19
            refine lv_aload_n hx hb dX4_countRight_70 rfl (lv_at hl 4 rfl) ?_
            refine va_get (D := g.1) (ci := 4) (v := .ref (nq 0)) (C := RX4) (T := TX4) (N := 9) hx hb hts iX4 hown hK.1 hP 0 rfl rfl 0 (by decide) (hts (.fieldLink RX4 10 "LightWheel" "now" "LLightWheel$State;") (by decide +kernel)) (fun _ h9 => h9) rfl dX4_countRight_71 ?_
            refine va_get (D := g.1) (ci := 2) (v := .ref (nq 3)) (C := RX2) (T := TX2) (N := 11) hx hb hts iX2 hown hK.1 hP 10 rfl rfl 8 (by decide) (hts (.fieldLink RX4 116 "LightWheel$State" "working" "[J") (by decide +kernel)) (fun _ h9 => h9) rfl dX4_countRight_74 ?_
            refine lv_iconst (v := (1 : Int32)) hx hb dX4_countRight_77 (by decide) ?_
            refine xr_lald hx hb hK.1 hP 13 1 rfl rfl 1 rfl (Nat.le_of_ble_eq_true rfl) (Nat.le_of_ble_eq_true rfl) dX4_countRight_78 ?_
            refine lv_goto (tgt := 83) hx hb dX4_countRight_79 (by decide) ?_
            refine lv_topl (fun v7_25 e_v7_25 => ?_)
            replace h := h v7_25 e_v7_25
            refine lv_lstore (lv' := [(7, .long v7_25), (5, .long v5_18), (4, .int v4_3), (3, .int v3_2), (2, .int v2_1), (0, .ref (lq 0)), (1, .int a_1)]) hx hb dX4_countRight_83 hl (by decide) rfl (fun ls hl => ?_)
            refine lv_iload_n hx hb dX4_countRight_85 rfl (lv_at hl 3 rfl) ?_
            refine lv_lload hx hb dX4_countRight_86 (lv_at hl 1 rfl) ?_
            refine lv_lload hx hb dX4_countRight_88 (lv_at hl 0 rfl) ?_
            refine lv_lor hx hb dX4_countRight_90 ?_
            refine lv_aload_n hx hb dX4_countRight_91 rfl (lv_at hl 5 rfl) ?_
            refine va_get (D := g.1) (ci := 4) (v := .ref (lq 3)) (C := RX4) (T := TX4) (N := 9) hx hb hts iX4 hown hK.1 hP 0 rfl rfl 8 (by decide) (hts (.fieldLink RX4 48 "LightWheel" "rightAlone" "[J") (by decide +kernel)) (fun _ h9 => h9) rfl dX4_countRight_92 ?_
            refine lv_iload hx hb dX4_countRight_95 (lv_at hl 2 rfl) ?_
            have o_97_25 := h.1
            replace h := h.2
            refine va_lald hx hb hK.1 hP 3 1 rfl rfl o_97_25 dX4_countRight_97 ?_
            refine lv_lor hx hb dX4_countRight_98 ?_
            refine vp_callSi (W.runS (As := [.long ((v5_18 ||| v7_25) ||| (l_rightAlone (Int32.toNatClampNeg v4_3)))]) (rest := [.int v3_2]) ⟨hx, hb, hml, hown, hts⟩ (kJ13_bitCount_95d88 l g  ((v5_18 ||| v7_25) ||| (l_rightAlone (Int32.toNatClampNeg v4_3))) _ h) (va_cwS 1 hts gX4_countRight_J13_bitCount_95d88 rfl rfl rfl hdJ13_bitCount_95d88.2 ⟨(Nat.le_of_ble_eq_true rfl), (Nat.le_of_ble_eq_true rfl)⟩) (preS_R hK (va_P_nil (D := g.1) (cl := vwCl))) rfl rfl hl.1 rfl (lv_room (Nat.le_of_ble_eq_true rfl)) dX4_countRight_99 ⟨(Nat.le_of_ble_eq_true rfl), (Nat.le_of_ble_eq_true rfl)⟩) (fun r99_27 h => ?_)
            refine lv_iadd hx hb dX4_countRight_102 ?_
            refine lv_topi (fun v3_28 e_v3_28 => ?_)
            replace h := h v3_28 e_v3_28
            refine lv_istore_n (lv' := [(3, .int v3_28), (7, .long v7_25), (5, .long v5_18), (4, .int v4_3), (2, .int v2_1), (0, .ref (lq 0)), (1, .int a_1)]) hx hb dX4_countRight_103 rfl hl (by decide) rfl (fun ls hl => ?_)
            obtain ⟨v4_29, e_v4_29⟩ : ∃ y : Int32, y = v4_3 + (1 : Int32) := ⟨_, rfl⟩
            replace h := h v4_29 e_v4_29
            refine lv_iinc (v := v4_29) (lv' := [(4, .int v4_29), (3, .int v3_28), (7, .long v7_25), (5, .long v5_18), (2, .int v2_1), (0, .ref (lq 0)), (1, .int a_1)]) hx hb dX4_countRight_104 hl (k := 3) rfl (by rw [e_v4_29]; rfl) (by decide) rfl (fun ls hl => ?_)
            refine lv_goto (tgt := 21) hx hb dX4_countRight_107 (by decide) ?_
            exact ih_1 v3_28 v4_29 ls h (lv_sub hl [0, 1, 4, 5, 6] rfl)
  obtain ⟨n_1, h⟩ := h
  refine loop_1 _ ?_ n_1 (0 : Int32) (0 : Int32) ls h (lv_sub hl [0, 1, 2, 3, 4] rfl)
  intro v3_2 v4_3 ls h hl
  refine lv_iload_n hx hb dX4_countRight_110 rfl (lv_at hl 1 rfl) ?_
  exact W.iret hx hb hr (fun t ht hW => ⟨v3_2, rfl, h, ht⟩) (fun _ h9 => by cases h9) dX4_countRight_111
