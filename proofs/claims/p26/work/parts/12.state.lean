def PX2_pictureNumbered (n_pictureCount : Int32) (a_1 : Int32) (k : Option Nat → Prop) : Prop := PX4_within a_1 (0 : Int32) (n_pictureCount - (1 : Int32)) (fun r8_1 => ((r8_1 = 0 → (k none)) ∧ (¬ r8_1 = 0 → (vp_in a_1 4 ∧ (∀ j_4 : Nat, j_4 < 4 → Int32.toNatClampNeg a_1 = j_4 → (k (some j_4)))))))
def PX2_works (n_working : Nat → Int64) (a_1 : Int32) (a_2 : Int32) (k : Int32 → Prop) : Prop := (vp_in a_1 2 ∧ (((lg_cmp ((((n_working (Int32.toNatClampNeg a_1)) >>> ((a_2 * (3 : Int32)).toInt64 &&& 63))) &&& (1 : Int64)) (0 : Int64)) = 0 → (k (0 : Int32))) ∧ (¬ (lg_cmp ((((n_working (Int32.toNatClampNeg a_1)) >>> ((a_2 * (3 : Int32)).toInt64 &&& 63))) &&& (1 : Int64)) (0 : Int64)) = 0 → (k (1 : Int32)))))
def PX2_wantedAt_L1 (n_pictureCount : Int32) (n_width : Nat → Int32) (n_first : Nat → Int32) (n_step : Nat → Int32) (n_kind : Nat → Int32) (n_columns : Nat → Nat → Int64) (a_1 : Int32) (kx_1 : Int64 → Int32 → Prop) : Nat → Int64 → Int32 → Prop
  | 0, _, _ => False
  | n_1 + 1, v2_1, v4_2 => ((n_pictureCount ≤ v4_2 → kx_1 v2_1 v4_2) ∧ (¬ n_pictureCount ≤ v4_2 → (vp_in v4_2 4 ∧ (∀ j_5 : Nat, j_5 < 4 → Int32.toNatClampNeg v4_2 = j_5 → PX0_wantedAt (n_width j_5) (n_first j_5) (n_step j_5) (n_kind j_5) (n_columns j_5) a_1 (fun r23_6 => (∀ v2_7 : Int64, v2_7 = (v2_1 ||| r23_6) → (∀ v4_8 : Int32, v4_8 = v4_2 + (1 : Int32) → PX2_wantedAt_L1 n_pictureCount n_width n_first n_step n_kind n_columns a_1 kx_1 n_1 v2_7 v4_8)))))))
def PX2_wantedAt (n_pictureCount : Int32) (n_width : Nat → Int32) (n_first : Nat → Int32) (n_step : Nat → Int32) (n_kind : Nat → Int32) (n_columns : Nat → Nat → Int64) (a_1 : Int32) (k : Int64 → Prop) : Prop := (∃ n_1, PX2_wantedAt_L1 n_pictureCount n_width n_first n_step n_kind n_columns a_1 (fun v2_1 v4_2 => (k v2_1)) n_1 (0 : Int64) (0 : Int32))
def PX2_isCoveredAt_L1 (n_pictureCount : Int32) (n_width : Nat → Int32) (n_first : Nat → Int32) (n_step : Nat → Int32) (n_kind : Nat → Int32) (a_1 : Int32) (k : Int32 → Prop) (kx_1 : Int32 → Prop) : Nat → Int32 → Prop
  | 0, _ => False
  | n_1 + 1, v2_1 => ((n_pictureCount ≤ v2_1 → kx_1 v2_1) ∧ (¬ n_pictureCount ≤ v2_1 → (vp_in v2_1 4 ∧ (∀ j_4 : Nat, j_4 < 4 → Int32.toNatClampNeg v2_1 = j_4 → (((n_kind j_4) = (2 : Int32) → (∀ v2_6 : Int32, v2_6 = v2_1 + (1 : Int32) → PX2_isCoveredAt_L1 n_pictureCount n_width n_first n_step n_kind a_1 k kx_1 n_1 v2_6)) ∧ (¬ (n_kind j_4) = (2 : Int32) → (vp_in v2_1 4 ∧ (∀ j_8 : Nat, j_8 < 4 → Int32.toNatClampNeg v2_1 = j_8 → PX0_covers (n_width j_8) (n_first j_8) (n_step j_8) a_1 (fun r30_9 => ((r30_9 = 0 → (∀ v2_11 : Int32, v2_11 = v2_1 + (1 : Int32) → PX2_isCoveredAt_L1 n_pictureCount n_width n_first n_step n_kind a_1 k kx_1 n_1 v2_11)) ∧ (¬ r30_9 = 0 → (k (1 : Int32)))))))))))))
def PX2_isCoveredAt (n_pictureCount : Int32) (n_width : Nat → Int32) (n_first : Nat → Int32) (n_step : Nat → Int32) (n_kind : Nat → Int32) (a_1 : Int32) (k : Int32 → Prop) : Prop := (∃ n_1, PX2_isCoveredAt_L1 n_pictureCount n_width n_first n_step n_kind a_1 k (fun v2_1 => (k (0 : Int32))) n_1 (0 : Int32))
def PX2_litAt_L1 (n_written : Nat → Int64) (n_writtenIn : Nat → Int32) (a_1 : Int32) (v3_1 : Int32) (kx_1 : Int64 → Int32 → Prop) : Nat → Int64 → Int32 → Prop
  | 0, _, _ => False
  | n_1 + 1, v4_2, v6_3 => (((12 : Int32) ≤ v6_3 → kx_1 v4_2 v6_3) ∧ (¬ (12 : Int32) ≤ v6_3 → (vp_in ((a_1 * (12 : Int32)) + v6_3) 8640 ∧ (∀ v7_6 : Int32, v7_6 = (n_writtenIn (Int32.toNatClampNeg ((a_1 * (12 : Int32)) + v6_3))) → ((v7_6 ≤ v3_1 → (∀ v6_8 : Int32, v6_8 = v6_3 + (1 : Int32) → PX2_litAt_L1 n_written n_writtenIn a_1 v3_1 kx_1 n_1 v4_2 v6_8)) ∧ (¬ v7_6 ≤ v3_1 → (vp_in a_1 720 ∧ (∀ v4_10 : Int64, v4_10 = (v4_2 ||| ((n_written (Int32.toNatClampNeg a_1)) &&& (((7 : Int64) <<< ((v6_3 * (3 : Int32)).toInt64 &&& 63))))) → (∀ v6_11 : Int32, v6_11 = v6_3 + (1 : Int32) → PX2_litAt_L1 n_written n_writtenIn a_1 v3_1 kx_1 n_1 v4_10 v6_11)))))))))
def PX2_litAt (n_ticks : Int32) (n_settings : Nat → Int32) (n_written : Nat → Int64) (n_writtenIn : Nat → Int32) (a_1 : Int32) (a_2 : Int32) (k : Int64 → Prop) : Prop := (∀ v3_1 : Int32, v3_1 = (if (0 : Int32) < ((n_ticks + a_2) - (n_settings 3)) then ((n_ticks + a_2) - (n_settings 3)) else (0 : Int32)) → (∃ n_1, PX2_litAt_L1 n_written n_writtenIn a_1 v3_1 (fun v4_2 v6_3 => (k v4_2)) n_1 (0 : Int64) (0 : Int32)))
def PX3_opposite  (a_1 : Int32) (k : Int32 → Prop) : Prop := (k ((a_1 + (360 : Int32)) - (a_1 + (360 : Int32)) / (720 : Int32) * (720 : Int32)))
def PX3_firstArmAt (w_passedIn : Nat → Int32) (a_1 : Int32) (k : Int32 → Prop) : Prop := (vp_in a_1 720 ∧ (k (w_passedIn (Int32.toNatClampNeg a_1))))
def PX3_secondArmAt (w_passedIn : Nat → Int32) (w_secondArm : Int32) (a_1 : Int32) (k : Int32 → Prop) : Prop := ((w_secondArm = 0 → (k (0 : Int32))) ∧ (¬ w_secondArm = 0 → PX3_opposite a_1 (fun r12_2 => (vp_in r12_2 720 ∧ (k (w_passedIn (Int32.toNatClampNeg r12_2)))))))
def PX2_writeArm_L1 (n_ticks : Int32) (n_working : Nat → Int64) (a_1 : Int32) (a_2 : Int32) (a_4 : Int32) (kx_1 : Int32 → (Nat → Int32) → Prop) : Nat → Int32 → (Nat → Int32) → Prop
  | 0, _, _ => False
  | n_1 + 1, v8_7, n_writtenIn_8 => (((12 : Int32) ≤ v8_7 → kx_1 v8_7 n_writtenIn_8) ∧ (¬ (12 : Int32) ≤ v8_7 → PX2_works n_working a_1 v8_7 (fun r56_10 => ((r56_10 = 0 → (∀ v8_12 : Int32, v8_12 = v8_7 + (1 : Int32) → PX2_writeArm_L1 n_ticks n_working a_1 a_2 a_4 kx_1 n_1 v8_12 n_writtenIn_8)) ∧ (¬ r56_10 = 0 → (∀ v9_13 : Int32, v9_13 = ((a_2 * (12 : Int32)) + v8_7) → (vp_in v9_13 8640 ∧ (vp_in v9_13 8640 ∧ (∀ n_writtenIn_16 : Nat → Int32, n_writtenIn_16 = upd n_writtenIn_8 (Int32.toNatClampNeg v9_13) (if (n_writtenIn_8 (Int32.toNatClampNeg v9_13)) < (n_ticks + a_4) then (n_ticks + a_4) else (n_writtenIn_8 (Int32.toNatClampNeg v9_13))) → (∀ v8_17 : Int32, v8_17 = v8_7 + (1 : Int32) → PX2_writeArm_L1 n_ticks n_working a_1 a_2 a_4 kx_1 n_1 v8_17 n_writtenIn_16))))))))))
def PX2_writeArm (n_ticks : Int32) (n_working : Nat → Int64) (n_written : Nat → Int64) (n_writtenIn : Nat → Int32) (a_1 : Int32) (a_2 : Int32) (a_3 : Int64) (a_4 : Int32) (k : (Nat → Int64) → (Nat → Int32) → Prop) : Prop := ((¬ a_4 = 0 → (vp_in a_1 2 ∧ (∀ v6_3 : Int64, v6_3 = ((n_working (Int32.toNatClampNeg a_1)) * (7 : Int64)) → (vp_in a_2 720 ∧ (vp_in a_2 720 ∧ (∀ n_written_6 : Nat → Int64, n_written_6 = vp_updL n_written (Int32.toNatClampNeg a_2) (((n_written (Int32.toNatClampNeg a_2)) &&& (v6_3 ^^^ (-1 : Int64))) ||| (a_3 &&& v6_3)) → (∃ n_1, PX2_writeArm_L1 n_ticks n_working a_1 a_2 a_4 (fun v8_7 n_writtenIn_8 => (k n_written_6 n_writtenIn_8)) n_1 (0 : Int32) n_writtenIn))))))) ∧ (a_4 = 0 → (k n_written n_writtenIn)))
def PX2_write_L1 (n_ticks : Int32) (n_working : Nat → Int64) (w_wanted : Nat → Int64) (w_passedIn : Nat → Int32) (w_secondArm : Int32) (kx_1 : Int32 → (Nat → Int64) → (Nat → Int32) → Prop) : Nat → Int32 → (Nat → Int64) → (Nat → Int32) → Prop
  | 0, _, _, _ => False
  | n_1 + 1, v2_1, n_written_2, n_writtenIn_3 => (((720 : Int32) ≤ v2_1 → kx_1 v2_1 n_written_2 n_writtenIn_3) ∧ (¬ (720 : Int32) ≤ v2_1 → (vp_in v2_1 720 ∧ PX3_firstArmAt w_passedIn v2_1 (fun r20_6 => PX2_writeArm n_ticks n_working n_written_2 n_writtenIn_3 (0 : Int32) v2_1 (w_wanted (Int32.toNatClampNeg v2_1)) r20_6 (fun n_written_7 n_writtenIn_8 => (vp_in v2_1 720 ∧ PX3_secondArmAt w_passedIn w_secondArm v2_1 (fun r37_10 => PX2_writeArm n_ticks n_working n_written_7 n_writtenIn_8 (1 : Int32) v2_1 (w_wanted (Int32.toNatClampNeg v2_1)) r37_10 (fun n_written_11 n_writtenIn_12 => (∀ v2_13 : Int32, v2_13 = v2_1 + (1 : Int32) → PX2_write_L1 n_ticks n_working w_wanted w_passedIn w_secondArm kx_1 n_1 v2_13 n_written_11 n_writtenIn_12)))))))))
def PX2_write (n_angle : Int32) (n_speed : Int32) (n_ticks : Int32) (n_load : Int32) (n_working : Nat → Int64) (n_written : Nat → Int64) (n_writtenIn : Nat → Int32) (w_wanted : Nat → Int64) (w_passedIn : Nat → Int32) (w_secondArm : Int32) (w_angle : Int32) (w_speed : Int32) (w_load : Int32) (w_ticks : Int32)  (k : Int32 → Int32 → Int32 → Int32 → (Nat → Int64) → (Nat → Int32) → Prop) : Prop := (∃ n_1, PX2_write_L1 n_ticks n_working w_wanted w_passedIn w_secondArm (fun v2_1 n_written_2 n_writtenIn_3 => (∀ f_ticks_14 : Int32, f_ticks_14 = (n_ticks + w_ticks) → (k w_angle w_speed f_ticks_14 w_load n_written_2 n_writtenIn_3))) n_1 (0 : Int32) n_written n_writtenIn)
theorem hdX2_pictureNumbered : yX2_pictureNumbered.cls = RX2 ∧ yX2_pictureNumbered.cls ≠ "java/lang/invoke/MethodHandle" ∧ yX2_pictureNumbered.cls ≠ "java/lang/invoke/VarHandle" ∧ (parseMethodDescriptor yX2_pictureNumbered.desc).map (fun d => d.parameters.length) = some 1 := by decide +kernel
set_option maxHeartbeats 4000000 in
set_option maxRecDepth 100000 in
theorem kX2_pictureNumbered (l : Launch) (g : GG) (nq : Nat → Nat) (n_pictureCount : Int32) (n_angle : Int32) (n_speed : Int32) (n_ticks : Int32) (n_load : Int32) (n_secondArm : Int32) (n_settings : Nat → Int32) (n_working : Nat → Int64) (n_written : Nat → Int64) (n_writtenIn : Nat → Int32) (n_width : Nat → Int32) (n_first : Nat → Int32) (n_step : Nat → Int32) (n_kind : Nat → Int32) (n_columns : Nat → Nat → Int64) (a_1 : Int32) (k : Option Nat → Prop) (h : PX2_pictureNumbered n_pictureCount a_1 k) : Met l yX2_pictureNumbered wsX2_pictureNumbered ({ frames := 1, cells := 0, slots := 0, locals := 22 }) (PreR g [.ref (nq 0), .int a_1] (wS g nq n_pictureCount n_angle n_speed n_ticks n_load n_secondArm n_settings n_working n_written n_writtenIn n_width n_first n_step n_kind n_columns)) (va_Se (fun j => nq (6 + 2 * j)) (fun o => (∀ j, o = some j → j < 4) ∧ k o)) 0 0 (fun _ => False) := by
  refine Met.ofW (cc := cX2_pictureNumbered) (maxL := 2) (ret := (some (.object "LightWheel$Picture"))) (by decide) rfl ?_
  intro p e s m args below meth c s₁ B hml hv
  obtain ⟨rfl, hP, hK⟩ := hv
  have hx := B.exec
  have hb := B.bytes
  have hr := B.returns
  have hts := atoms_spec (ws := wsX2_pictureNumbered) B.pre
  have hown : s.vm.findClass RX2 = some m.cls := findClass_of_methodNamed B.named
  have hlocks := B.notSynchronized
  have iX2 : ∀ w ∈ wsX20, w ∈ wsX2_pictureNumbered := by decide +kernel
  have hl := lv_entry ([.ref (nq 0), .int a_1]) (n := 2) (Nat.le_of_ble_eq_true rfl)
  rw [lg_entry_eq]
  generalize (lg_sl ([.ref (nq 0), .int a_1]) ++ List.replicate (2 - (lg_sl ([.ref (nq 0), .int a_1])).length) Slot.unset).toArray = ls at hl ⊢
  have hl : lv_has ls 2 [(0, .ref (nq 0)), (1, .int a_1)] := hl
  unfold PX2_pictureNumbered at h
  refine lv_iload_n hx hb dX2_pictureNumbered_0 rfl (lv_at hl 1 rfl) ?_
  refine lv_iconst (v := (0 : Int32)) hx hb dX2_pictureNumbered_1 (by decide) ?_
  refine lv_aload_n hx hb dX2_pictureNumbered_2 rfl (lv_at hl 0 rfl) ?_
  refine va_get (D := g.1) (ci := 2) (v := .int n_pictureCount) (C := RX2) (T := TX2) (N := 11) hx hb hts iX2 hown hK.1 hP 0 rfl rfl 0 (by decide) (hts (.fieldLink RX2 9 "LightWheel$State" "pictureCount" "I") (by decide +kernel)) (fun _ h9 => h9) rfl dX2_pictureNumbered_3 ?_
  refine lv_iconst (v := (1 : Int32)) hx hb dX2_pictureNumbered_6 (by decide) ?_
  refine lv_isub hx hb dX2_pictureNumbered_7 ?_
  refine vp_callSi (va_Run.run (va_runSN (As := [.int a_1, .int (0 : Int32), .int (n_pictureCount - (1 : Int32))]) (rest := []) ⟨hx, hb, hml, hown, hts⟩ (kX4_within l g  a_1 (0 : Int32) (n_pictureCount - (1 : Int32)) _ h) ⟨va_cnB 3 hts gX2_pictureNumbered_X4_within_n63 rfl rfl rfl hK.2.2.2.1 (hts (.initialized RX4) (by decide +kernel)) hdX4_within.2 ⟨(Nat.le_of_ble_eq_true rfl), (Nat.le_of_ble_eq_true rfl)⟩, hts (.static yX4_within) (by decide +kernel), trivial⟩ (preS_R hK (va_P_nil (D := g.1) (cl := vwCl))) rfl rfl hl.1 rfl (lv_room (Nat.le_of_ble_eq_true rfl)) dX2_pictureNumbered_8 ⟨(Nat.le_of_ble_eq_true rfl), (Nat.le_of_ble_eq_true rfl)⟩)) (fun r8_1 h => ?_)
  refine lv_if_eq (tgt := 23) hx hb dX2_pictureNumbered_11 (by decide) (fun c_11_1 => ?_) (fun c_11_1 => ?_)
  · replace h := h.1 c_11_1
    refine lv_null hx hb dX2_pictureNumbered_23 ?_
    exact W.aret hx hb hr (Or.inl ⟨_, rfl⟩) (Or.inl rfl) (fun t ht hW => ⟨none, rfl, ⟨fun j hj => (by cases hj), h⟩, ht⟩) (fun _ h9 => by cases h9) dX2_pictureNumbered_24
  · replace h := h.2 c_11_1
    refine lv_aload_n hx hb dX2_pictureNumbered_14 rfl (lv_at hl 0 rfl) ?_
    refine va_get (D := g.1) (ci := 2) (v := .ref (nq 1)) (C := RX2) (T := TX2) (N := 11) hx hb hts iX2 hown hK.1 hP 0 rfl rfl 1 (by decide) (hts (.fieldLink RX2 17 "LightWheel$State" "pictures" "[LLightWheel$Picture;") (by decide +kernel)) (fun _ h9 => h9) rfl dX2_pictureNumbered_15 ?_
    refine lv_iload_n hx hb dX2_pictureNumbered_18 rfl (lv_at hl 1 rfl) ?_
    have o_19_2 := h.1
    replace h := h.2
    refine xr_aald hx hb hK.1 hP 1 3 rfl rfl (fun i => nq (6 + 2 * i)) (fun _ => rfl) o_19_2 dX2_pictureNumbered_19 (fun j_4 hj_4 ej_4 => ?_)
    replace h := h j_4 hj_4 ej_4
    refine lv_goto (tgt := 24) hx hb dX2_pictureNumbered_20 (by decide) ?_
    exact W.aret hx hb hr (Or.inl ⟨_, rfl⟩) (Or.inr ⟨_, rfl⟩) (fun t ht hW => ⟨some j_4, rfl, ⟨fun j hj => (by cases hj; exact hj_4), h⟩, ht⟩) (fun _ h9 => by cases h9) dX2_pictureNumbered_24
theorem hdX2_works : yX2_works.cls = RX2 ∧ yX2_works.cls ≠ "java/lang/invoke/MethodHandle" ∧ yX2_works.cls ≠ "java/lang/invoke/VarHandle" ∧ (parseMethodDescriptor yX2_works.desc).map (fun d => d.parameters.length) = some 2 := by decide +kernel
set_option maxHeartbeats 4000000 in
set_option maxRecDepth 100000 in
theorem kX2_works (l : Launch) (g : GG) (nq : Nat → Nat) (n_pictureCount : Int32) (n_angle : Int32) (n_speed : Int32) (n_ticks : Int32) (n_load : Int32) (n_secondArm : Int32) (n_settings : Nat → Int32) (n_working : Nat → Int64) (n_written : Nat → Int64) (n_writtenIn : Nat → Int32) (n_width : Nat → Int32) (n_first : Nat → Int32) (n_step : Nat → Int32) (n_kind : Nat → Int32) (n_columns : Nat → Nat → Int64) (a_1 : Int32) (a_2 : Int32) (k : Int32 → Prop) (h : PX2_works n_working a_1 a_2 k) : Met l yX2_works wsX2_works ({ frames := 0, cells := 0, slots := 0, locals := 0 }) (PreR g [.ref (nq 0), .int a_1, .int a_2] (wS g nq n_pictureCount n_angle n_speed n_ticks n_load n_secondArm n_settings n_working n_written n_writtenIn n_width n_first n_step n_kind n_columns)) (vp_Si k) 0 0 (fun _ => False) := by
  refine Met.ofW (cc := cX2_works) (maxL := 3) (ret := (some .boolean)) (by decide) rfl ?_
  intro p e s m args below meth c s₁ B hml hv
  obtain ⟨rfl, hP, hK⟩ := hv
  have hx := B.exec
  have hb := B.bytes
  have hr := B.returns
  have hts := atoms_spec (ws := wsX2_works) B.pre
  have hown : s.vm.findClass RX2 = some m.cls := findClass_of_methodNamed B.named
  have hlocks := B.notSynchronized
  have iX2 : ∀ w ∈ wsX20, w ∈ wsX2_works := by decide +kernel
  have hl := lv_entry ([.ref (nq 0), .int a_1, .int a_2]) (n := 3) (Nat.le_of_ble_eq_true rfl)
  rw [lg_entry_eq]
  generalize (lg_sl ([.ref (nq 0), .int a_1, .int a_2]) ++ List.replicate (3 - (lg_sl ([.ref (nq 0), .int a_1, .int a_2])).length) Slot.unset).toArray = ls at hl ⊢
  have hl : lv_has ls 3 [(0, .ref (nq 0)), (1, .int a_1), (2, .int a_2)] := hl
  unfold PX2_works at h
  refine lv_aload_n hx hb dX2_works_0 rfl (lv_at hl 0 rfl) ?_
  refine va_get (D := g.1) (ci := 2) (v := .ref (nq 3)) (C := RX2) (T := TX2) (N := 11) hx hb hts iX2 hown hK.1 hP 0 rfl rfl 8 (by decide) (hts (.fieldLink RX2 42 "LightWheel$State" "working" "[J") (by decide +kernel)) (fun _ h9 => h9) rfl dX2_works_1 ?_
  refine lv_iload_n hx hb dX2_works_4 rfl (lv_at hl 1 rfl) ?_
  have o_5_0 := h.1
  replace h := h.2
  refine va_lald hx hb hK.1 hP 3 1 rfl rfl o_5_0 dX2_works_5 ?_
  refine lv_iload_n hx hb dX2_works_6 rfl (lv_at hl 2 rfl) ?_
  refine lv_iconst (v := (3 : Int32)) hx hb dX2_works_7 (by decide) ?_
  refine lv_imul hx hb dX2_works_8 ?_
  refine lv_lshr (v := (((n_working (Int32.toNatClampNeg a_1)) >>> ((a_2 * (3 : Int32)).toInt64 &&& 63)))) hx hb dX2_works_9 rfl ?_
  refine lv_lconst (v := (1 : Int64)) hx hb dX2_works_10 (by decide) ?_
  refine lv_land hx hb dX2_works_11 ?_
  refine lv_lconst (v := (0 : Int64)) hx hb dX2_works_12 (by decide) ?_
  refine W.lcmp hx hb dX2_works_13 ?_
  refine lv_if_eq (tgt := 21) hx hb dX2_works_14 (by decide) (fun c_14_1 => ?_) (fun c_14_1 => ?_)
  · replace h := h.1 c_14_1
    refine lv_iconst (v := (0 : Int32)) hx hb dX2_works_21 (by decide) ?_
    exact W.zret (v := (0 : Int32)) hx hb hr rfl (fun t ht hW => ⟨(0 : Int32), rfl, h, ht⟩) (fun _ h9 => by cases h9) dX2_works_22
  · replace h := h.2 c_14_1
    refine lv_iconst (v := (1 : Int32)) hx hb dX2_works_17 (by decide) ?_
    refine lv_goto (tgt := 22) hx hb dX2_works_18 (by decide) ?_
    exact W.zret (v := (1 : Int32)) hx hb hr rfl (fun t ht hW => ⟨(1 : Int32), rfl, h, ht⟩) (fun _ h9 => by cases h9) dX2_works_22
theorem hdX2_wantedAt : yX2_wantedAt.cls = RX2 ∧ yX2_wantedAt.cls ≠ "java/lang/invoke/MethodHandle" ∧ yX2_wantedAt.cls ≠ "java/lang/invoke/VarHandle" ∧ (parseMethodDescriptor yX2_wantedAt.desc).map (fun d => d.parameters.length) = some 1 := by decide +kernel
set_option maxHeartbeats 4000000 in
set_option maxRecDepth 100000 in
theorem kX2_wantedAt (l : Launch) (g : GG) (nq : Nat → Nat) (n_pictureCount : Int32) (n_angle : Int32) (n_speed : Int32) (n_ticks : Int32) (n_load : Int32) (n_secondArm : Int32) (n_settings : Nat → Int32) (n_working : Nat → Int64) (n_written : Nat → Int64) (n_writtenIn : Nat → Int32) (n_width : Nat → Int32) (n_first : Nat → Int32) (n_step : Nat → Int32) (n_kind : Nat → Int32) (n_columns : Nat → Nat → Int64) (a_1 : Int32) (k : Int64 → Prop) (h : PX2_wantedAt n_pictureCount n_width n_first n_step n_kind n_columns a_1 k) : Met l yX2_wantedAt wsX2_wantedAt ({ frames := 4, cells := 0, slots := 0, locals := 83 }) (PreR g [.ref (nq 0), .int a_1] (wS g nq n_pictureCount n_angle n_speed n_ticks n_load n_secondArm n_settings n_working n_written n_writtenIn n_width n_first n_step n_kind n_columns)) (vp_Sl k) 0 0 (fun _ => False) := by
  refine Met.ofW (cc := cX2_wantedAt) (maxL := 5) (ret := (some .long)) (by decide) rfl ?_
  intro p e s m args below meth c s₁ B hml hv
  obtain ⟨rfl, hP, hK⟩ := hv
  have hx := B.exec
  have hb := B.bytes
  have hr := B.returns
  have hts := atoms_spec (ws := wsX2_wantedAt) B.pre
  have hown : s.vm.findClass RX2 = some m.cls := findClass_of_methodNamed B.named
  have hlocks := B.notSynchronized
  have iX2 : ∀ w ∈ wsX20, w ∈ wsX2_wantedAt := by decide +kernel
  have hl := lv_entry ([.ref (nq 0), .int a_1]) (n := 5) (Nat.le_of_ble_eq_true rfl)
  rw [lg_entry_eq]
  generalize (lg_sl ([.ref (nq 0), .int a_1]) ++ List.replicate (5 - (lg_sl ([.ref (nq 0), .int a_1])).length) Slot.unset).toArray = ls at hl ⊢
  have hl : lv_has ls 5 [(0, .ref (nq 0)), (1, .int a_1)] := hl
  unfold PX2_wantedAt at h
  refine lv_lconst (v := (0 : Int64)) hx hb dX2_wantedAt_0 (by decide) ?_
  refine lv_lstore_n (lv' := [(2, .long (0 : Int64)), (0, .ref (nq 0)), (1, .int a_1)]) hx hb dX2_wantedAt_1 rfl hl (by decide) rfl (fun ls hl => ?_)
  refine lv_iconst (v := (0 : Int32)) hx hb dX2_wantedAt_2 (by decide) ?_
  refine lv_istore (lv' := [(4, .int (0 : Int32)), (2, .long (0 : Int64)), (0, .ref (nq 0)), (1, .int a_1)]) hx hb dX2_wantedAt_3 hl (by decide) rfl (fun ls hl => ?_)
  have loop_1 : ∀ (kx_1 : Int64 → Int32 → Prop), (∀ (v2_1 : Int64) (v4_2 : Int32) (ls : Array Slot), kx_1 v2_1 v4_2 → lv_has ls 5 [(4, .int v4_2), (2, .long v2_1), (0, .ref (nq 0)), (1, .int a_1)] → W p l e (headSpec wsX2_wantedAt ({ frames := 4, cells := 0, slots := 0, locals := 83 })).room s m ([.ref (nq 0), .int a_1] : List Value).toArray below meth c s.heap [] 0 0 (MQ below (vp_Sl k) ([.ref (nq 0), .int a_1] : List Value).toArray s 0 0 (fun _ => False)) (F0 m 34 ls [])) → ∀ (n_1 : Nat) (v2_1 : Int64) (v4_2 : Int32) (ls : Array Slot), PX2_wantedAt_L1 n_pictureCount n_width n_first n_step n_kind n_columns a_1 kx_1 n_1 v2_1 v4_2 → lv_has ls 5 [(4, .int v4_2), (2, .long v2_1), (0, .ref (nq 0)), (1, .int a_1)] → W p l e (headSpec wsX2_wantedAt ({ frames := 4, cells := 0, slots := 0, locals := 83 })).room s m ([.ref (nq 0), .int a_1] : List Value).toArray below meth c s.heap [] 0 0 (MQ below (vp_Sl k) ([.ref (nq 0), .int a_1] : List Value).toArray s 0 0 (fun _ => False)) (F0 m 5 ls []) := by
    intro kx_1 hexit_1 n_1
    induction n_1 with
    | zero => exact fun _ _ _ h _ => (h : False).elim
    | succ n_1 ih_1 =>
      intro v2_1 v4_2 ls h hl
      unfold PX2_wantedAt_L1 at h
      refine lv_iload hx hb dX2_wantedAt_5 (lv_at hl 0 rfl) ?_
      refine lv_aload_n hx hb dX2_wantedAt_7 rfl (lv_at hl 2 rfl) ?_
      refine va_get (D := g.1) (ci := 2) (v := .int n_pictureCount) (C := RX2) (T := TX2) (N := 11) hx hb hts iX2 hown hK.1 hP 0 rfl rfl 0 (by decide) (hts (.fieldLink RX2 9 "LightWheel$State" "pictureCount" "I") (by decide +kernel)) (fun _ h9 => h9) rfl dX2_wantedAt_8 ?_
      refine lv_icmp_ge (tgt := 34) hx hb dX2_wantedAt_11 (by decide) (fun c_11_2 => ?_) (fun c_11_2 => ?_)
      · replace h := h.1 c_11_2
        exact hexit_1 v2_1 v4_2 ls h (lv_sub hl [0, 1, 2, 3] rfl)
      · replace h := h.2 c_11_2
        refine lv_lload_n hx hb dX2_wantedAt_14 rfl (lv_at hl 1 rfl) ?_
        refine lv_aload_n hx hb dX2_wantedAt_15 rfl (lv_at hl 2 rfl) ?_
        refine va_get (D := g.1) (ci := 2) (v := .ref (nq 1)) (C := RX2) (T := TX2) (N := 11) hx hb hts iX2 hown hK.1 hP 0 rfl rfl 1 (by decide) (hts (.fieldLink RX2 17 "LightWheel$State" "pictures" "[LLightWheel$Picture;") (by decide +kernel)) (fun _ h9 => h9) rfl dX2_wantedAt_16 ?_
        refine lv_iload hx hb dX2_wantedAt_19 (lv_at hl 0 rfl) ?_
        have o_21_3 := h.1
        replace h := h.2
        refine xr_aald hx hb hK.1 hP 1 3 rfl rfl (fun i => nq (6 + 2 * i)) (fun _ => rfl) o_21_3 dX2_wantedAt_21 (fun j_5 hj_5 ej_5 => ?_)
        replace h := h j_5 hj_5 ej_5
        refine lv_iload_n hx hb dX2_wantedAt_22 rfl (lv_at hl 3 rfl) ?_
        have hPc : va_P g.1 vwCl (wP g (fun i => nq (6 + 2 * j_5 + i)) (n_width j_5) (n_first j_5) (n_step j_5) (n_kind j_5) (n_columns j_5)) s.heap := by rcases pk4 hj_5 with rfl | rfl | rfl | rfl <;> first | exact hP.sub [6, 7] rfl | exact hP.sub [8, 9] rfl | exact hP.sub [10, 11] rfl | exact hP.sub [12, 13] rfl
        refine vp_callSl (W.runV (As := [.int a_1]) (rest := [.long v2_1]) ⟨hx, hb, hml, hown, hts⟩ (kX0_wantedAt l g (fun i => nq (6 + 2 * j_5 + i)) (n_width j_5) (n_first j_5) (n_step j_5) (n_kind j_5) (n_columns j_5) a_1 _ h) (cwV 1 hts gX2_wantedAt_X0_wantedAt rfl rfl rfl hdX0_wantedAt ⟨(Nat.le_of_ble_eq_true rfl), (Nat.le_of_ble_eq_true rfl)⟩) (preV_R (r := (RX0, TX0, 5)) hK hPc (ci := 0) (q0 := 0) rfl rfl) rfl rfl hl.1 rfl (lv_room (Nat.le_of_ble_eq_true rfl)) dX2_wantedAt_23 ⟨(Nat.le_of_ble_eq_true rfl), (Nat.le_of_ble_eq_true rfl)⟩) (fun r23_6 h => ?_)
        refine lv_lor hx hb dX2_wantedAt_26 ?_
        refine lv_topl (fun v2_7 e_v2_7 => ?_)
        replace h := h v2_7 e_v2_7
        refine lv_lstore_n (lv' := [(2, .long v2_7), (4, .int v4_2), (0, .ref (nq 0)), (1, .int a_1)]) hx hb dX2_wantedAt_27 rfl hl (by decide) rfl (fun ls hl => ?_)
        obtain ⟨v4_8, e_v4_8⟩ : ∃ y : Int32, y = v4_2 + (1 : Int32) := ⟨_, rfl⟩
        replace h := h v4_8 e_v4_8
        refine lv_iinc (v := v4_8) (lv' := [(4, .int v4_8), (2, .long v2_7), (0, .ref (nq 0)), (1, .int a_1)]) hx hb dX2_wantedAt_28 hl (k := 1) rfl (by rw [e_v4_8]; rfl) (by decide) rfl (fun ls hl => ?_)
        refine lv_goto (tgt := 5) hx hb dX2_wantedAt_31 (by decide) ?_
        exact ih_1 v2_7 v4_8 ls h (lv_sub hl [0, 1, 2, 3] rfl)
  obtain ⟨n_1, h⟩ := h
  refine loop_1 _ ?_ n_1 (0 : Int64) (0 : Int32) ls h (lv_sub hl [0, 1, 2, 3] rfl)
  intro v2_1 v4_2 ls h hl
  refine lv_lload_n hx hb dX2_wantedAt_34 rfl (lv_at hl 1 rfl) ?_
  exact W.lret hx hb hr (fun t ht hW => ⟨v2_1, rfl, h, ht⟩) (fun _ h9 => by cases h9) dX2_wantedAt_35
theorem hdX2_isCoveredAt : yX2_isCoveredAt.cls = RX2 ∧ yX2_isCoveredAt.cls ≠ "java/lang/invoke/MethodHandle" ∧ yX2_isCoveredAt.cls ≠ "java/lang/invoke/VarHandle" ∧ (parseMethodDescriptor yX2_isCoveredAt.desc).map (fun d => d.parameters.length) = some 1 := by decide +kernel
set_option maxHeartbeats 4000000 in
set_option maxRecDepth 100000 in
theorem kX2_isCoveredAt (l : Launch) (g : GG) (nq : Nat → Nat) (n_pictureCount : Int32) (n_angle : Int32) (n_speed : Int32) (n_ticks : Int32) (n_load : Int32) (n_secondArm : Int32) (n_settings : Nat → Int32) (n_working : Nat → Int64) (n_written : Nat → Int64) (n_writtenIn : Nat → Int32) (n_width : Nat → Int32) (n_first : Nat → Int32) (n_step : Nat → Int32) (n_kind : Nat → Int32) (n_columns : Nat → Nat → Int64) (a_1 : Int32) (k : Int32 → Prop) (h : PX2_isCoveredAt n_pictureCount n_width n_first n_step n_kind a_1 k) : Met l yX2_isCoveredAt wsX2_isCoveredAt ({ frames := 3, cells := 0, slots := 0, locals := 62 }) (PreR g [.ref (nq 0), .int a_1] (wS g nq n_pictureCount n_angle n_speed n_ticks n_load n_secondArm n_settings n_working n_written n_writtenIn n_width n_first n_step n_kind n_columns)) (vp_Si k) 0 0 (fun _ => False) := by
  refine Met.ofW (cc := cX2_isCoveredAt) (maxL := 3) (ret := (some .boolean)) (by decide) rfl ?_
  intro p e s m args below meth c s₁ B hml hv
  obtain ⟨rfl, hP, hK⟩ := hv
  have hx := B.exec
  have hb := B.bytes
  have hr := B.returns
  have hts := atoms_spec (ws := wsX2_isCoveredAt) B.pre
  have hown : s.vm.findClass RX2 = some m.cls := findClass_of_methodNamed B.named
  have hlocks := B.notSynchronized
  have iX0 : ∀ w ∈ wsX00, w ∈ wsX2_isCoveredAt := by decide +kernel
  have iX2 : ∀ w ∈ wsX20, w ∈ wsX2_isCoveredAt := by decide +kernel
  have hl := lv_entry ([.ref (nq 0), .int a_1]) (n := 3) (Nat.le_of_ble_eq_true rfl)
  rw [lg_entry_eq]
  generalize (lg_sl ([.ref (nq 0), .int a_1]) ++ List.replicate (3 - (lg_sl ([.ref (nq 0), .int a_1])).length) Slot.unset).toArray = ls at hl ⊢
  have hl : lv_has ls 3 [(0, .ref (nq 0)), (1, .int a_1)] := hl
  unfold PX2_isCoveredAt at h
  refine lv_iconst (v := (0 : Int32)) hx hb dX2_isCoveredAt_0 (by decide) ?_
  refine lv_istore_n (lv' := [(2, .int (0 : Int32)), (0, .ref (nq 0)), (1, .int a_1)]) hx hb dX2_isCoveredAt_1 rfl hl (by decide) rfl (fun ls hl => ?_)
  have loop_1 : ∀ (kx_1 : Int32 → Prop), (∀ (v2_1 : Int32) (ls : Array Slot), kx_1 v2_1 → lv_has ls 3 [(2, .int v2_1), (0, .ref (nq 0)), (1, .int a_1)] → W p l e (headSpec wsX2_isCoveredAt ({ frames := 3, cells := 0, slots := 0, locals := 62 })).room s m ([.ref (nq 0), .int a_1] : List Value).toArray below meth c s.heap [] 0 0 (MQ below (vp_Si k) ([.ref (nq 0), .int a_1] : List Value).toArray s 0 0 (fun _ => False)) (F0 m 44 ls [])) → ∀ (n_1 : Nat) (v2_1 : Int32) (ls : Array Slot), PX2_isCoveredAt_L1 n_pictureCount n_width n_first n_step n_kind a_1 k kx_1 n_1 v2_1 → lv_has ls 3 [(2, .int v2_1), (0, .ref (nq 0)), (1, .int a_1)] → W p l e (headSpec wsX2_isCoveredAt ({ frames := 3, cells := 0, slots := 0, locals := 62 })).room s m ([.ref (nq 0), .int a_1] : List Value).toArray below meth c s.heap [] 0 0 (MQ below (vp_Si k) ([.ref (nq 0), .int a_1] : List Value).toArray s 0 0 (fun _ => False)) (F0 m 2 ls []) := by
    intro kx_1 hexit_1 n_1
    induction n_1 with
    | zero => exact fun _ _ h _ => (h : False).elim
    | succ n_1 ih_1 =>
      intro v2_1 ls h hl
      unfold PX2_isCoveredAt_L1 at h
      refine lv_iload_n hx hb dX2_isCoveredAt_2 rfl (lv_at hl 0 rfl) ?_
      refine lv_aload_n hx hb dX2_isCoveredAt_3 rfl (lv_at hl 1 rfl) ?_
      refine va_get (D := g.1) (ci := 2) (v := .int n_pictureCount) (C := RX2) (T := TX2) (N := 11) hx hb hts iX2 hown hK.1 hP 0 rfl rfl 0 (by decide) (hts (.fieldLink RX2 9 "LightWheel$State" "pictureCount" "I") (by decide +kernel)) (fun _ h9 => h9) rfl dX2_isCoveredAt_4 ?_
      refine lv_icmp_ge (tgt := 44) hx hb dX2_isCoveredAt_7 (by decide) (fun c_7_1 => ?_) (fun c_7_1 => ?_)
      · replace h := h.1 c_7_1
        exact hexit_1 v2_1 ls h (lv_sub hl [0, 1, 2] rfl)
      · replace h := h.2 c_7_1
        refine lv_aload_n hx hb dX2_isCoveredAt_10 rfl (lv_at hl 1 rfl) ?_
        refine va_get (D := g.1) (ci := 2) (v := .ref (nq 1)) (C := RX2) (T := TX2) (N := 11) hx hb hts iX2 hown hK.1 hP 0 rfl rfl 1 (by decide) (hts (.fieldLink RX2 17 "LightWheel$State" "pictures" "[LLightWheel$Picture;") (by decide +kernel)) (fun _ h9 => h9) rfl dX2_isCoveredAt_11 ?_
        refine lv_iload_n hx hb dX2_isCoveredAt_14 rfl (lv_at hl 0 rfl) ?_
        have o_15_2 := h.1
        replace h := h.2
        refine xr_aald hx hb hK.1 hP 1 3 rfl rfl (fun i => nq (6 + 2 * i)) (fun _ => rfl) o_15_2 dX2_isCoveredAt_15 (fun j_4 hj_4 ej_4 => ?_)
        replace h := h j_4 hj_4 ej_4
        refine va_get (D := g.1) (ci := 0) (v := .int (n_kind j_4)) (C := RX0) (T := TX0) (N := 5) (a := (nq (6 + 2 * j_4))) (fs := [.int (n_width j_4), .int (n_first j_4), .int (n_step j_4), .int (n_kind j_4), .ref (nq (7 + 2 * j_4))]) hx hb hts iX0 hown hK.1 hP (6 + 2 * j_4) (by rcases pk4 hj_4 with rfl | rfl | rfl | rfl <;> rfl) rfl 3 (by decide) (hts (.fieldLink RX2 71 "LightWheel$Picture" "kind" "I") (by decide +kernel)) (fun _ h9 => h9) rfl dX2_isCoveredAt_16 ?_
        refine lv_iconst (v := (2 : Int32)) hx hb dX2_isCoveredAt_19 (by decide) ?_
        refine lv_icmp_eq (tgt := 38) hx hb dX2_isCoveredAt_20 (by decide) (fun c_20_4 => ?_) (fun c_20_4 => ?_)
        · replace h := h.1 c_20_4
          obtain ⟨v2_6, e_v2_6⟩ : ∃ y : Int32, y = v2_1 + (1 : Int32) := ⟨_, rfl⟩
          replace h := h v2_6 e_v2_6
          refine lv_iinc (v := v2_6) (lv' := [(2, .int v2_6), (0, .ref (nq 0)), (1, .int a_1)]) hx hb dX2_isCoveredAt_38 hl (k := 0) rfl (by rw [e_v2_6]; rfl) (by decide) rfl (fun ls hl => ?_)
          refine lv_goto (tgt := 2) hx hb dX2_isCoveredAt_41 (by decide) ?_
          exact ih_1 v2_6 ls h (lv_sub hl [0, 1, 2] rfl)
        · replace h := h.2 c_20_4
          refine lv_aload_n hx hb dX2_isCoveredAt_23 rfl (lv_at hl 1 rfl) ?_
          refine va_get (D := g.1) (ci := 2) (v := .ref (nq 1)) (C := RX2) (T := TX2) (N := 11) hx hb hts iX2 hown hK.1 hP 0 rfl rfl 1 (by decide) (hts (.fieldLink RX2 17 "LightWheel$State" "pictures" "[LLightWheel$Picture;") (by decide +kernel)) (fun _ h9 => h9) rfl dX2_isCoveredAt_24 ?_
          refine lv_iload_n hx hb dX2_isCoveredAt_27 rfl (lv_at hl 0 rfl) ?_
          have o_28_6 := h.1
          replace h := h.2
          refine xr_aald hx hb hK.1 hP 1 3 rfl rfl (fun i => nq (6 + 2 * i)) (fun _ => rfl) o_28_6 dX2_isCoveredAt_28 (fun j_8 hj_8 ej_8 => ?_)
          replace h := h j_8 hj_8 ej_8
          refine lv_iload_n hx hb dX2_isCoveredAt_29 rfl (lv_at hl 2 rfl) ?_
          have hPc : va_P g.1 vwCl (wP g (fun i => nq (6 + 2 * j_8 + i)) (n_width j_8) (n_first j_8) (n_step j_8) (n_kind j_8) (n_columns j_8)) s.heap := by rcases pk4 hj_8 with rfl | rfl | rfl | rfl <;> first | exact hP.sub [6, 7] rfl | exact hP.sub [8, 9] rfl | exact hP.sub [10, 11] rfl | exact hP.sub [12, 13] rfl
          refine vp_callSi (W.runV (As := [.int a_1]) (rest := []) ⟨hx, hb, hml, hown, hts⟩ (kX0_covers l g (fun i => nq (6 + 2 * j_8 + i)) (n_width j_8) (n_first j_8) (n_step j_8) (n_kind j_8) (n_columns j_8) a_1 _ h) (cwV 1 hts gX2_isCoveredAt_X0_covers rfl rfl rfl hdX0_covers ⟨(Nat.le_of_ble_eq_true rfl), (Nat.le_of_ble_eq_true rfl)⟩) (preV_R (r := (RX0, TX0, 5)) hK hPc (ci := 0) (q0 := 0) rfl rfl) rfl rfl hl.1 rfl (lv_room (Nat.le_of_ble_eq_true rfl)) dX2_isCoveredAt_30 ⟨(Nat.le_of_ble_eq_true rfl), (Nat.le_of_ble_eq_true rfl)⟩) (fun r30_9 h => ?_)
          refine lv_if_eq (tgt := 38) hx hb dX2_isCoveredAt_33 (by decide) (fun c_33_9 => ?_) (fun c_33_9 => ?_)
          · replace h := h.1 c_33_9
            obtain ⟨v2_11, e_v2_11⟩ : ∃ y : Int32, y = v2_1 + (1 : Int32) := ⟨_, rfl⟩
            replace h := h v2_11 e_v2_11
            refine lv_iinc (v := v2_11) (lv' := [(2, .int v2_11), (0, .ref (nq 0)), (1, .int a_1)]) hx hb dX2_isCoveredAt_38 hl (k := 0) rfl (by rw [e_v2_11]; rfl) (by decide) rfl (fun ls hl => ?_)
            refine lv_goto (tgt := 2) hx hb dX2_isCoveredAt_41 (by decide) ?_
            exact ih_1 v2_11 ls h (lv_sub hl [0, 1, 2] rfl)
          · replace h := h.2 c_33_9
            refine lv_iconst (v := (1 : Int32)) hx hb dX2_isCoveredAt_36 (by decide) ?_
            exact W.zret (v := (1 : Int32)) hx hb hr rfl (fun t ht hW => ⟨(1 : Int32), rfl, h, ht⟩) (fun _ h9 => by cases h9) dX2_isCoveredAt_37
  obtain ⟨n_1, h⟩ := h
  refine loop_1 _ ?_ n_1 (0 : Int32) ls h (lv_sub hl [0, 1, 2] rfl)
  intro v2_1 ls h hl
  refine lv_iconst (v := (0 : Int32)) hx hb dX2_isCoveredAt_44 (by decide) ?_
  exact W.zret (v := (0 : Int32)) hx hb hr rfl (fun t ht hW => ⟨(0 : Int32), rfl, h, ht⟩) (fun _ h9 => by cases h9) dX2_isCoveredAt_45
theorem hdX2_litAt : yX2_litAt.cls = RX2 ∧ yX2_litAt.cls ≠ "java/lang/invoke/MethodHandle" ∧ yX2_litAt.cls ≠ "java/lang/invoke/VarHandle" ∧ (parseMethodDescriptor yX2_litAt.desc).map (fun d => d.parameters.length) = some 2 := by decide +kernel
set_option maxHeartbeats 4000000 in
set_option maxRecDepth 100000 in
theorem kX2_litAt (l : Launch) (g : GG) (nq : Nat → Nat) (n_pictureCount : Int32) (n_angle : Int32) (n_speed : Int32) (n_ticks : Int32) (n_load : Int32) (n_secondArm : Int32) (n_settings : Nat → Int32) (n_working : Nat → Int64) (n_written : Nat → Int64) (n_writtenIn : Nat → Int32) (n_width : Nat → Int32) (n_first : Nat → Int32) (n_step : Nat → Int32) (n_kind : Nat → Int32) (n_columns : Nat → Nat → Int64) (a_1 : Int32) (a_2 : Int32) (k : Int64 → Prop) (h : PX2_litAt n_ticks n_settings n_written n_writtenIn a_1 a_2 k) : Met l yX2_litAt wsX2_litAt ({ frames := 1, cells := 0, slots := 0, locals := 21 }) (PreR g [.ref (nq 0), .int a_1, .int a_2] (wS g nq n_pictureCount n_angle n_speed n_ticks n_load n_secondArm n_settings n_working n_written n_writtenIn n_width n_first n_step n_kind n_columns)) (vp_Sl k) 0 0 (fun _ => False) := by
  refine Met.ofW (cc := cX2_litAt) (maxL := 8) (ret := (some .long)) (by decide) rfl ?_
  intro p e s m args below meth c s₁ B hml hv
  obtain ⟨rfl, hP, hK⟩ := hv
  have hx := B.exec
  have hb := B.bytes
  have hr := B.returns
  have hts := atoms_spec (ws := wsX2_litAt) B.pre
  have hown : s.vm.findClass RX2 = some m.cls := findClass_of_methodNamed B.named
  have hlocks := B.notSynchronized
  have iX2 : ∀ w ∈ wsX20, w ∈ wsX2_litAt := by decide +kernel
  have hl := lv_entry ([.ref (nq 0), .int a_1, .int a_2]) (n := 8) (Nat.le_of_ble_eq_true rfl)
  rw [lg_entry_eq]
  generalize (lg_sl ([.ref (nq 0), .int a_1, .int a_2]) ++ List.replicate (8 - (lg_sl ([.ref (nq 0), .int a_1, .int a_2])).length) Slot.unset).toArray = ls at hl ⊢
  have hl : lv_has ls 8 [(0, .ref (nq 0)), (1, .int a_1), (2, .int a_2)] := hl
  unfold PX2_litAt at h
  refine lv_iconst (v := (0 : Int32)) hx hb dX2_litAt_0 (by decide) ?_
  refine lv_aload_n hx hb dX2_litAt_1 rfl (lv_at hl 0 rfl) ?_
  refine va_get (D := g.1) (ci := 2) (v := .int n_ticks) (C := RX2) (T := TX2) (N := 11) hx hb hts iX2 hown hK.1 hP 0 rfl rfl 4 (by decide) (hts (.fieldLink RX2 27 "LightWheel$State" "ticks" "I") (by decide +kernel)) (fun _ h9 => h9) rfl dX2_litAt_2 ?_
  refine lv_iload_n hx hb dX2_litAt_5 rfl (lv_at hl 2 rfl) ?_
  refine lv_iadd hx hb dX2_litAt_6 ?_
  refine lv_aload_n hx hb dX2_litAt_7 rfl (lv_at hl 0 rfl) ?_
  refine va_get (D := g.1) (ci := 2) (v := .ref (nq 2)) (C := RX2) (T := TX2) (N := 11) hx hb hts iX2 hown hK.1 hP 0 rfl rfl 7 (by decide) (hts (.fieldLink RX2 36 "LightWheel$State" "settings" "[I") (by decide +kernel)) (fun _ h9 => h9) rfl dX2_litAt_8 ?_
  refine lv_iconst (v := (3 : Int32)) hx hb dX2_litAt_11 (by decide) ?_
  refine xr_iald hx hb hK.1 hP 2 0 rfl rfl 3 rfl (Nat.le_of_ble_eq_true rfl) (Nat.le_of_ble_eq_true rfl) dX2_litAt_12 ?_
  refine lv_isub hx hb dX2_litAt_13 ?_
  refine va_mmax hx hb (hml.trans hl.1.symm) hown (hts (.methodLink RX2 78 Lib.Math.max.name) (by decide +kernel)) (hts (.static Lib.Math.max.name) (by decide +kernel)) (hts (.initialized "java/lang/Math") (by decide +kernel)) (hts (.code Lib.Math.max.name Lib.Math.max.code 2 (some .int)) (by decide +kernel)) (Nat.le_of_ble_eq_true rfl) (Nat.le_of_ble_eq_true rfl) (Nat.zero_le _) (Nat.zero_le _) dX2_litAt_14 ?_
  refine lv_topi (fun v3_1 e_v3_1 => ?_)
  replace h := h v3_1 e_v3_1
  refine lv_istore_n (lv' := [(3, .int v3_1), (0, .ref (nq 0)), (1, .int a_1), (2, .int a_2)]) hx hb dX2_litAt_17 rfl hl (by decide) rfl (fun ls hl => ?_)
  refine lv_lconst (v := (0 : Int64)) hx hb dX2_litAt_18 (by decide) ?_
  refine lv_lstore (lv' := [(4, .long (0 : Int64)), (3, .int v3_1), (0, .ref (nq 0)), (1, .int a_1), (2, .int a_2)]) hx hb dX2_litAt_19 hl (by decide) rfl (fun ls hl => ?_)
  refine lv_iconst (v := (0 : Int32)) hx hb dX2_litAt_21 (by decide) ?_
  refine lv_istore (lv' := [(6, .int (0 : Int32)), (4, .long (0 : Int64)), (3, .int v3_1), (0, .ref (nq 0)), (1, .int a_1), (2, .int a_2)]) hx hb dX2_litAt_22 hl (by decide) rfl (fun ls hl => ?_)
  have loop_1 : ∀ (kx_1 : Int64 → Int32 → Prop), (∀ (v4_2 : Int64) (v6_3 : Int32) (ls : Array Slot), kx_1 v4_2 v6_3 → lv_has ls 8 [(6, .int v6_3), (4, .long v4_2), (3, .int v3_1), (0, .ref (nq 0)), (1, .int a_1), (2, .int a_2)] → W p l e (headSpec wsX2_litAt ({ frames := 1, cells := 0, slots := 0, locals := 21 })).room s m ([.ref (nq 0), .int a_1, .int a_2] : List Value).toArray below meth c s.heap [] 0 0 (MQ below (vp_Sl k) ([.ref (nq 0), .int a_1, .int a_2] : List Value).toArray s 0 0 (fun _ => False)) (F0 m 77 ls [])) → ∀ (n_1 : Nat) (v4_2 : Int64) (v6_3 : Int32) (ls : Array Slot), PX2_litAt_L1 n_written n_writtenIn a_1 v3_1 kx_1 n_1 v4_2 v6_3 → lv_has ls 8 [(6, .int v6_3), (4, .long v4_2), (3, .int v3_1), (0, .ref (nq 0)), (1, .int a_1), (2, .int a_2)] → W p l e (headSpec wsX2_litAt ({ frames := 1, cells := 0, slots := 0, locals := 21 })).room s m ([.ref (nq 0), .int a_1, .int a_2] : List Value).toArray below meth c s.heap [] 0 0 (MQ below (vp_Sl k) ([.ref (nq 0), .int a_1, .int a_2] : List Value).toArray s 0 0 (fun _ => False)) (F0 m 24 ls []) := by
    intro kx_1 hexit_1 n_1
    induction n_1 with
    | zero => exact fun _ _ _ h _ => (h : False).elim
    | succ n_1 ih_1 =>
      intro v4_2 v6_3 ls h hl
      unfold PX2_litAt_L1 at h
      refine lv_iload hx hb dX2_litAt_24 (lv_at hl 0 rfl) ?_
      refine lv_bipush (v := (12 : Int32)) hx hb dX2_litAt_26 (by decide) ?_
      refine lv_icmp_ge (tgt := 77) hx hb dX2_litAt_28 (by decide) (fun c_28_3 => ?_) (fun c_28_3 => ?_)
      · replace h := h.1 c_28_3
        exact hexit_1 v4_2 v6_3 ls h (lv_sub hl [0, 1, 2, 3, 4, 5] rfl)
      · replace h := h.2 c_28_3
        refine lv_aload_n hx hb dX2_litAt_31 rfl (lv_at hl 3 rfl) ?_
        refine va_get (D := g.1) (ci := 2) (v := .ref (nq 5)) (C := RX2) (T := TX2) (N := 11) hx hb hts iX2 hown hK.1 hP 0 rfl rfl 10 (by decide) (hts (.fieldLink RX2 49 "LightWheel$State" "writtenIn" "[I") (by decide +kernel)) (fun _ h9 => h9) rfl dX2_litAt_32 ?_
        refine lv_iload_n hx hb dX2_litAt_35 rfl (lv_at hl 4 rfl) ?_
        refine lv_bipush (v := (12 : Int32)) hx hb dX2_litAt_36 (by decide) ?_
        refine lv_imul hx hb dX2_litAt_38 ?_
        refine lv_iload hx hb dX2_litAt_39 (lv_at hl 0 rfl) ?_
        refine lv_iadd hx hb dX2_litAt_41 ?_
        have o_42_4 := h.1
        replace h := h.2
        refine va_iald hx hb hK.1 hP 5 0 rfl rfl o_42_4 dX2_litAt_42 ?_
        refine lv_topi (fun v7_6 e_v7_6 => ?_)
        replace h := h v7_6 e_v7_6
        refine lv_istore (lv' := [(7, .int v7_6), (6, .int v6_3), (4, .long v4_2), (3, .int v3_1), (0, .ref (nq 0)), (1, .int a_1), (2, .int a_2)]) hx hb dX2_litAt_43 hl (by decide) rfl (fun ls hl => ?_)
        refine lv_iload hx hb dX2_litAt_45 (lv_at hl 0 rfl) ?_
        refine lv_iload_n hx hb dX2_litAt_47 rfl (lv_at hl 3 rfl) ?_
        refine lv_icmp_le (tgt := 71) hx hb dX2_litAt_48 (by decide) (fun c_48_6 => ?_) (fun c_48_6 => ?_)
        · replace h := h.1 c_48_6
          obtain ⟨v6_8, e_v6_8⟩ : ∃ y : Int32, y = v6_3 + (1 : Int32) := ⟨_, rfl⟩
          replace h := h v6_8 e_v6_8
          refine lv_iinc (v := v6_8) (lv' := [(6, .int v6_8), (7, .int v7_6), (4, .long v4_2), (3, .int v3_1), (0, .ref (nq 0)), (1, .int a_1), (2, .int a_2)]) hx hb dX2_litAt_71 hl (k := 1) rfl (by rw [e_v6_8]; rfl) (by decide) rfl (fun ls hl => ?_)
          refine lv_goto (tgt := 24) hx hb dX2_litAt_74 (by decide) ?_
          exact ih_1 v4_2 v6_8 ls h (lv_sub hl [0, 2, 3, 4, 5, 6] rfl)
        · replace h := h.2 c_48_6
          refine lv_lload hx hb dX2_litAt_51 (lv_at hl 2 rfl) ?_
          refine lv_aload_n hx hb dX2_litAt_53 rfl (lv_at hl 4 rfl) ?_
          refine va_get (D := g.1) (ci := 2) (v := .ref (nq 4)) (C := RX2) (T := TX2) (N := 11) hx hb hts iX2 hown hK.1 hP 0 rfl rfl 9 (by decide) (hts (.fieldLink RX2 46 "LightWheel$State" "written" "[J") (by decide +kernel)) (fun _ h9 => h9) rfl dX2_litAt_54 ?_
          refine lv_iload_n hx hb dX2_litAt_57 rfl (lv_at hl 5 rfl) ?_
          have o_58_8 := h.1
          replace h := h.2
          refine va_lald hx hb hK.1 hP 4 1 rfl rfl o_58_8 dX2_litAt_58 ?_
          refine lv_ldc2 (v := (7 : Int64)) hx hb hown (hts (.constantLong RX2 84 (7)) (by decide +kernel)) dX2_litAt_59 ?_
          refine lv_iload hx hb dX2_litAt_62 (lv_at hl 1 rfl) ?_
          refine lv_iconst (v := (3 : Int32)) hx hb dX2_litAt_64 (by decide) ?_
          refine lv_imul hx hb dX2_litAt_65 ?_
          refine lv_lshl (v := (((7 : Int64) <<< ((v6_3 * (3 : Int32)).toInt64 &&& 63)))) hx hb dX2_litAt_66 rfl ?_
          refine lv_land hx hb dX2_litAt_67 ?_
          refine lv_lor hx hb dX2_litAt_68 ?_
          refine lv_topl (fun v4_10 e_v4_10 => ?_)
          replace h := h v4_10 e_v4_10
          refine lv_lstore (lv' := [(4, .long v4_10), (7, .int v7_6), (6, .int v6_3), (3, .int v3_1), (0, .ref (nq 0)), (1, .int a_1), (2, .int a_2)]) hx hb dX2_litAt_69 hl (by decide) rfl (fun ls hl => ?_)
          obtain ⟨v6_11, e_v6_11⟩ : ∃ y : Int32, y = v6_3 + (1 : Int32) := ⟨_, rfl⟩
          replace h := h v6_11 e_v6_11
          refine lv_iinc (v := v6_11) (lv' := [(6, .int v6_11), (4, .long v4_10), (7, .int v7_6), (3, .int v3_1), (0, .ref (nq 0)), (1, .int a_1), (2, .int a_2)]) hx hb dX2_litAt_71 hl (k := 2) rfl (by rw [e_v6_11]; rfl) (by decide) rfl (fun ls hl => ?_)
          refine lv_goto (tgt := 24) hx hb dX2_litAt_74 (by decide) ?_
          exact ih_1 v4_10 v6_11 ls h (lv_sub hl [0, 1, 3, 4, 5, 6] rfl)
  obtain ⟨n_1, h⟩ := h
  refine loop_1 _ ?_ n_1 (0 : Int64) (0 : Int32) ls h (lv_sub hl [0, 1, 2, 3, 4, 5] rfl)
  intro v4_2 v6_3 ls h hl
  refine lv_lload hx hb dX2_litAt_77 (lv_at hl 1 rfl) ?_
  exact W.lret hx hb hr (fun t ht hW => ⟨v4_2, rfl, h, ht⟩) (fun _ h9 => by cases h9) dX2_litAt_79
theorem hdX3_opposite : yX3_opposite.cls = RX3 ∧ yX3_opposite.cls ≠ "java/lang/invoke/MethodHandle" ∧ yX3_opposite.cls ≠ "java/lang/invoke/VarHandle" ∧ (parseMethodDescriptor yX3_opposite.desc).map (fun d => d.parameters.length) = some 1 := by decide +kernel
set_option maxHeartbeats 4000000 in
set_option maxRecDepth 100000 in
theorem kX3_opposite (l : Launch) (g : GG)  (a_1 : Int32) (k : Int32 → Prop) (h : PX3_opposite  a_1 k) : Met l yX3_opposite wsX3_opposite ({ frames := 0, cells := 0, slots := 0, locals := 0 }) (PreR g [.int a_1] []) (vp_Si k) 0 0 (fun _ => False) := by
  refine Met.ofW (cc := cX3_opposite) (maxL := 1) (ret := (some .int)) (by decide) rfl ?_
  intro p e s m args below meth c s₁ B hml hv
  obtain ⟨rfl, hP, hK⟩ := hv
  have hx := B.exec
  have hb := B.bytes
  have hr := B.returns
  have hts := atoms_spec (ws := wsX3_opposite) B.pre
  have hown : s.vm.findClass RX3 = some m.cls := findClass_of_methodNamed B.named
  have hlocks := B.notSynchronized
  have hl := lv_entry ([.int a_1]) (n := 1) (Nat.le_of_ble_eq_true rfl)
  rw [lg_entry_eq]
  generalize (lg_sl ([.int a_1]) ++ List.replicate (1 - (lg_sl ([.int a_1])).length) Slot.unset).toArray = ls at hl ⊢
  have hl : lv_has ls 1 [(0, .int a_1)] := hl
  unfold PX3_opposite at h
  refine lv_iload_n hx hb dX3_opposite_0 rfl (lv_at hl 0 rfl) ?_
  refine lv_sipush (v := (360 : Int32)) hx hb dX3_opposite_1 (by decide) ?_
  refine lv_iadd hx hb dX3_opposite_4 ?_
  refine lv_sipush (v := (720 : Int32)) hx hb dX3_opposite_5 (by decide) ?_
  refine lv_irem hx hb dX3_opposite_8 (by decide) ?_
  exact W.iret hx hb hr (fun t ht hW => ⟨((a_1 + (360 : Int32)) - (a_1 + (360 : Int32)) / (720 : Int32) * (720 : Int32)), rfl, h, ht⟩) (fun _ h9 => by cases h9) dX3_opposite_9
theorem hdX3_firstArmAt : yX3_firstArmAt.cls = RX3 ∧ yX3_firstArmAt.cls ≠ "java/lang/invoke/MethodHandle" ∧ yX3_firstArmAt.cls ≠ "java/lang/invoke/VarHandle" ∧ (parseMethodDescriptor yX3_firstArmAt.desc).map (fun d => d.parameters.length) = some 1 := by decide +kernel
set_option maxHeartbeats 4000000 in
set_option maxRecDepth 100000 in
theorem kX3_firstArmAt (l : Launch) (g : GG) (wq : Nat → Nat) (w_wanted : Nat → Int64) (w_loadAt : Nat → Int32) (w_passedIn : Nat → Int32) (w_secondArm : Int32) (w_power : Int32) (w_limit : Int32) (w_wantedSpeed : Int32) (w_angle : Int32) (w_speed : Int32) (w_load : Int32) (w_ticks : Int32) (a_1 : Int32) (k : Int32 → Prop) (h : PX3_firstArmAt w_passedIn a_1 k) : Met l yX3_firstArmAt wsX3_firstArmAt ({ frames := 0, cells := 0, slots := 0, locals := 0 }) (PreR g [.ref (wq 0), .int a_1] (wW g wq w_wanted w_loadAt w_passedIn w_secondArm w_power w_limit w_wantedSpeed w_angle w_speed w_load w_ticks)) (vp_Si k) 0 0 (fun _ => False) := by
  refine Met.ofW (cc := cX3_firstArmAt) (maxL := 2) (ret := (some .int)) (by decide) rfl ?_
  intro p e s m args below meth c s₁ B hml hv
  obtain ⟨rfl, hP, hK⟩ := hv
  have hx := B.exec
  have hb := B.bytes
  have hr := B.returns
  have hts := atoms_spec (ws := wsX3_firstArmAt) B.pre
  have hown : s.vm.findClass RX3 = some m.cls := findClass_of_methodNamed B.named
  have hlocks := B.notSynchronized
  have iX3 : ∀ w ∈ wsX30, w ∈ wsX3_firstArmAt := by decide +kernel
  have hl := lv_entry ([.ref (wq 0), .int a_1]) (n := 2) (Nat.le_of_ble_eq_true rfl)
  rw [lg_entry_eq]
  generalize (lg_sl ([.ref (wq 0), .int a_1]) ++ List.replicate (2 - (lg_sl ([.ref (wq 0), .int a_1])).length) Slot.unset).toArray = ls at hl ⊢
  have hl : lv_has ls 2 [(0, .ref (wq 0)), (1, .int a_1)] := hl
  unfold PX3_firstArmAt at h
  refine lv_aload_n hx hb dX3_firstArmAt_0 rfl (lv_at hl 0 rfl) ?_
  refine va_get (D := g.1) (ci := 3) (v := .ref (wq 3)) (C := RX3) (T := TX3) (N := 11) hx hb hts iX3 hown hK.1 hP 0 rfl rfl 2 (by decide) (hts (.fieldLink RX3 19 "LightWheel$Sweep" "passedIn" "[I") (by decide +kernel)) (fun _ h9 => h9) rfl dX3_firstArmAt_1 ?_
  refine lv_iload_n hx hb dX3_firstArmAt_4 rfl (lv_at hl 1 rfl) ?_
  have o_5_0 := h.1
  replace h := h.2
  refine va_iald hx hb hK.1 hP 3 0 rfl rfl o_5_0 dX3_firstArmAt_5 ?_
  exact W.iret hx hb hr (fun t ht hW => ⟨(w_passedIn (Int32.toNatClampNeg a_1)), rfl, h, ht⟩) (fun _ h9 => by cases h9) dX3_firstArmAt_6
theorem hdX3_secondArmAt : yX3_secondArmAt.cls = RX3 ∧ yX3_secondArmAt.cls ≠ "java/lang/invoke/MethodHandle" ∧ yX3_secondArmAt.cls ≠ "java/lang/invoke/VarHandle" ∧ (parseMethodDescriptor yX3_secondArmAt.desc).map (fun d => d.parameters.length) = some 1 := by decide +kernel
set_option maxHeartbeats 4000000 in
set_option maxRecDepth 100000 in
theorem kX3_secondArmAt (l : Launch) (g : GG) (wq : Nat → Nat) (w_wanted : Nat → Int64) (w_loadAt : Nat → Int32) (w_passedIn : Nat → Int32) (w_secondArm : Int32) (w_power : Int32) (w_limit : Int32) (w_wantedSpeed : Int32) (w_angle : Int32) (w_speed : Int32) (w_load : Int32) (w_ticks : Int32) (a_1 : Int32) (k : Int32 → Prop) (h : PX3_secondArmAt w_passedIn w_secondArm a_1 k) : Met l yX3_secondArmAt wsX3_secondArmAt ({ frames := 1, cells := 0, slots := 0, locals := 20 }) (PreR g [.ref (wq 0), .int a_1] (wW g wq w_wanted w_loadAt w_passedIn w_secondArm w_power w_limit w_wantedSpeed w_angle w_speed w_load w_ticks)) (vp_Si k) 0 0 (fun _ => False) := by
  refine Met.ofW (cc := cX3_secondArmAt) (maxL := 2) (ret := (some .int)) (by decide) rfl ?_
  intro p e s m args below meth c s₁ B hml hv
  obtain ⟨rfl, hP, hK⟩ := hv
  have hx := B.exec
  have hb := B.bytes
  have hr := B.returns
  have hts := atoms_spec (ws := wsX3_secondArmAt) B.pre
  have hown : s.vm.findClass RX3 = some m.cls := findClass_of_methodNamed B.named
  have hlocks := B.notSynchronized
  have iX3 : ∀ w ∈ wsX30, w ∈ wsX3_secondArmAt := by decide +kernel
  have hl := lv_entry ([.ref (wq 0), .int a_1]) (n := 2) (Nat.le_of_ble_eq_true rfl)
  rw [lg_entry_eq]
  generalize (lg_sl ([.ref (wq 0), .int a_1]) ++ List.replicate (2 - (lg_sl ([.ref (wq 0), .int a_1])).length) Slot.unset).toArray = ls at hl ⊢
  have hl : lv_has ls 2 [(0, .ref (wq 0)), (1, .int a_1)] := hl
  unfold PX3_secondArmAt at h
  refine lv_aload_n hx hb dX3_secondArmAt_0 rfl (lv_at hl 0 rfl) ?_
  refine va_get (D := g.1) (ci := 3) (v := .int w_secondArm) (C := RX3) (T := TX3) (N := 11) hx hb hts iX3 hown hK.1 hP 0 rfl rfl 3 (by decide) (hts (.fieldLink RX3 28 "LightWheel$Sweep" "secondArm" "Z") (by decide +kernel)) (fun _ h9 => h9) rfl dX3_secondArmAt_1 ?_
  refine lv_if_eq (tgt := 19) hx hb dX3_secondArmAt_4 (by decide) (fun c_4_0 => ?_) (fun c_4_0 => ?_)
  · replace h := h.1 c_4_0
    refine lv_iconst (v := (0 : Int32)) hx hb dX3_secondArmAt_19 (by decide) ?_
    exact W.iret hx hb hr (fun t ht hW => ⟨(0 : Int32), rfl, h, ht⟩) (fun _ h9 => by cases h9) dX3_secondArmAt_20
  · replace h := h.2 c_4_0
    refine lv_aload_n hx hb dX3_secondArmAt_7 rfl (lv_at hl 0 rfl) ?_
    refine va_get (D := g.1) (ci := 3) (v := .ref (wq 3)) (C := RX3) (T := TX3) (N := 11) hx hb hts iX3 hown hK.1 hP 0 rfl rfl 2 (by decide) (hts (.fieldLink RX3 19 "LightWheel$Sweep" "passedIn" "[I") (by decide +kernel)) (fun _ h9 => h9) rfl dX3_secondArmAt_8 ?_
    refine lv_iload_n hx hb dX3_secondArmAt_11 rfl (lv_at hl 1 rfl) ?_
    refine vp_callSi (W.runS (As := [.int a_1]) (rest := [.ref (wq 3)]) ⟨hx, hb, hml, hown, hts⟩ (kX3_opposite l g  a_1 _ h) (va_cwS 1 hts gX3_secondArmAt_X3_opposite rfl rfl rfl hdX3_opposite.2 ⟨(Nat.le_of_ble_eq_true rfl), (Nat.le_of_ble_eq_true rfl)⟩) (preS_R hK (va_P_nil (D := g.1) (cl := vwCl))) rfl rfl hl.1 rfl (lv_room (Nat.le_of_ble_eq_true rfl)) dX3_secondArmAt_12 ⟨(Nat.le_of_ble_eq_true rfl), (Nat.le_of_ble_eq_true rfl)⟩) (fun r12_2 h => ?_)
    have o_15_2 := h.1
    replace h := h.2
    refine va_iald hx hb hK.1 hP 3 0 rfl rfl o_15_2 dX3_secondArmAt_15 ?_
    refine lv_goto (tgt := 20) hx hb dX3_secondArmAt_16 (by decide) ?_
    exact W.iret hx hb hr (fun t ht hW => ⟨(w_passedIn (Int32.toNatClampNeg r12_2)), rfl, h, ht⟩) (fun _ h9 => by cases h9) dX3_secondArmAt_20
theorem hdX2_writeArm : yX2_writeArm.cls = RX2 ∧ yX2_writeArm.cls ≠ "java/lang/invoke/MethodHandle" ∧ yX2_writeArm.cls ≠ "java/lang/invoke/VarHandle" ∧ (parseMethodDescriptor yX2_writeArm.desc).map (fun d => d.parameters.length) = some 4 := by decide +kernel
set_option maxHeartbeats 4000000 in
set_option maxRecDepth 100000 in
theorem kX2_writeArm (l : Launch) (g : GG) (nq : Nat → Nat) (sz : Nat) (n_pictureCount : Int32) (n_angle : Int32) (n_speed : Int32) (n_ticks : Int32) (n_load : Int32) (n_secondArm : Int32) (n_settings : Nat → Int32) (n_working : Nat → Int64) (n_written : Nat → Int64) (n_writtenIn : Nat → Int32) (n_width : Nat → Int32) (n_first : Nat → Int32) (n_step : Nat → Int32) (n_kind : Nat → Int32) (n_columns : Nat → Nat → Int64) (a_1 : Int32) (a_2 : Int32) (a_3 : Int64) (a_4 : Int32) (k : (Nat → Int64) → (Nat → Int32) → Prop) (h : PX2_writeArm n_ticks n_working n_written n_writtenIn a_1 a_2 a_3 a_4 k) : Met l yX2_writeArm wsX2_writeArm ({ frames := 1, cells := 0, slots := 0, locals := 22 }) (PreM g [.ref (nq 0), .int a_1, .int a_2, .long a_3, .int a_4] (wS g nq n_pictureCount n_angle n_speed n_ticks n_load n_secondArm n_settings n_working n_written n_writtenIn n_width n_first n_step n_kind n_columns) sz) (va_Qv (fun u : (Nat → Int64) × (Nat → Int32) => k u.1 u.2) (fun u t => PostB g (va_A (wS g nq n_pictureCount n_angle n_speed n_ticks n_load n_secondArm n_settings n_working n_written n_writtenIn n_width n_first n_step n_kind n_columns) sz) (wS g nq n_pictureCount n_angle n_speed n_ticks n_load n_secondArm n_settings n_working u.1 u.2 n_width n_first n_step n_kind n_columns) t) (va_A (wS g nq n_pictureCount n_angle n_speed n_ticks n_load n_secondArm n_settings n_working n_written n_writtenIn n_width n_first n_step n_kind n_columns) sz)) 0 0 (va_A (wS g nq n_pictureCount n_angle n_speed n_ticks n_load n_secondArm n_settings n_working n_written n_writtenIn n_width n_first n_step n_kind n_columns) sz) := by
  refine Met.ofW (cc := cX2_writeArm) (maxL := 10) (ret := none) (by decide) rfl ?_
  intro p e s m args below meth c s₁ B hml hv
  obtain ⟨rfl, hsz, hP, hK, hD0⟩ := hv
  have hx := B.exec
  have hb := B.bytes
  have hr := B.returns
  have hts := atoms_spec (ws := wsX2_writeArm) B.pre
  have hown : s.vm.findClass RX2 = some m.cls := findClass_of_methodNamed B.named
  have hlocks := B.notSynchronized
  have iX2 : ∀ w ∈ wsX20, w ∈ wsX2_writeArm := by decide +kernel
  subst hsz
  have hD := hD0.self (sz := s.heap.size)
  generalize hAe : va_A (wS g nq n_pictureCount n_angle n_speed n_ticks n_load n_secondArm n_settings n_working n_written n_writtenIn n_width n_first n_step n_kind n_columns) s.heap.size = A at hD ⊢
  have hA : ∀ q : Nat, s.heap.size ≤ q → A q := fun q h => by rw [← hAe]; exact Or.inr h
  clear hAe hD0
  have hS : va_S A s.heap s.heap [] := va_S.rf
  have hl := lv_entry ([.ref (nq 0), .int a_1, .int a_2, .long a_3, .int a_4]) (n := 10) (Nat.le_of_ble_eq_true rfl)
  rw [lg_entry_eq]
  generalize (lg_sl ([.ref (nq 0), .int a_1, .int a_2, .long a_3, .int a_4]) ++ List.replicate (10 - (lg_sl ([.ref (nq 0), .int a_1, .int a_2, .long a_3, .int a_4])).length) Slot.unset).toArray = ls at hl ⊢
  have hl : lv_has ls 10 [(0, .ref (nq 0)), (1, .int a_1), (2, .int a_2), (3, .long a_3), (5, .int a_4)] := hl
  unfold PX2_writeArm at h
  obtain ⟨H, hHe⟩ : ∃ y, y = s.heap := ⟨_, rfl⟩
  rw [← hHe] at hP
  have hS : va_S A s.heap H [] := by rw [hHe]; exact hS
  have hW0 : ∀ (Q : State → Prop), W p l e (headSpec wsX2_writeArm ({ frames := 1, cells := 0, slots := 0, locals := 22 })).room s m ([.ref (nq 0), .int a_1, .int a_2, .long a_3, .int a_4] : List Value).toArray below meth c H [] 0 0 Q (F0 m 0 ls []) → W p l e (headSpec wsX2_writeArm ({ frames := 1, cells := 0, slots := 0, locals := 22 })).room s m ([.ref (nq 0), .int a_1, .int a_2, .long a_3, .int a_4] : List Value).toArray below meth c s.heap [] 0 0 Q (F0 m 0 ls []) := by rw [hHe]; exact fun _ h9 => h9
  refine hW0 _ ?_
  clear hW0 hHe
  generalize ([] : List Loc) = locs at hS ⊢
  refine lv_iload hx hb dX2_writeArm_0 (lv_at hl 4 rfl) ?_
  refine lv_if_ne (tgt := 6) hx hb dX2_writeArm_2 (by decide) (fun c_2_0 => ?_) (fun c_2_0 => ?_)
  · replace h := h.1 c_2_0
    refine lv_aload_n hx hb dX2_writeArm_6 rfl (lv_at hl 0 rfl) ?_
    refine va_get (D := g.1) (ci := 2) (v := .ref (nq 3)) (C := RX2) (T := TX2) (N := 11) hx hb hts iX2 hown hK.1 hP 0 rfl rfl 8 (by decide) (hts (.fieldLink RX2 42 "LightWheel$State" "working" "[J") (by decide +kernel)) (fun _ h9 => h9) rfl dX2_writeArm_7 ?_
    refine lv_iload_n hx hb dX2_writeArm_10 rfl (lv_at hl 1 rfl) ?_
    have o_11_1 := h.1
    replace h := h.2
    refine va_lald hx hb hK.1 hP 3 1 rfl rfl o_11_1 dX2_writeArm_11 ?_
    refine lv_ldc2 (v := (7 : Int64)) hx hb hown (hts (.constantLong RX2 84 (7)) (by decide +kernel)) dX2_writeArm_12 ?_
    refine lv_lmul hx hb dX2_writeArm_15 ?_
    refine lv_topl (fun v6_3 e_v6_3 => ?_)
    replace h := h v6_3 e_v6_3
    refine lv_lstore (lv' := [(6, .long v6_3), (0, .ref (nq 0)), (1, .int a_1), (2, .int a_2), (3, .long a_3), (5, .int a_4)]) hx hb dX2_writeArm_16 hl (by decide) rfl (fun ls hl => ?_)
    refine lv_aload_n hx hb dX2_writeArm_18 rfl (lv_at hl 1 rfl) ?_
    refine va_get (D := g.1) (ci := 2) (v := .ref (nq 4)) (C := RX2) (T := TX2) (N := 11) hx hb hts iX2 hown hK.1 hP 0 rfl rfl 9 (by decide) (hts (.fieldLink RX2 46 "LightWheel$State" "written" "[J") (by decide +kernel)) (fun _ h9 => h9) rfl dX2_writeArm_19 ?_
    refine lv_iload_n hx hb dX2_writeArm_22 rfl (lv_at hl 3 rfl) ?_
    refine lv_aload_n hx hb dX2_writeArm_23 rfl (lv_at hl 1 rfl) ?_
    refine va_get (D := g.1) (ci := 2) (v := .ref (nq 4)) (C := RX2) (T := TX2) (N := 11) hx hb hts iX2 hown hK.1 hP 0 rfl rfl 9 (by decide) (hts (.fieldLink RX2 46 "LightWheel$State" "written" "[J") (by decide +kernel)) (fun _ h9 => h9) rfl dX2_writeArm_24 ?_
    refine lv_iload_n hx hb dX2_writeArm_27 rfl (lv_at hl 3 rfl) ?_
    have o_28_3 := h.1
    replace h := h.2
    refine va_lald hx hb hK.1 hP 4 1 rfl rfl o_28_3 dX2_writeArm_28 ?_
    refine lv_lload hx hb dX2_writeArm_29 (lv_at hl 0 rfl) ?_
    refine lv_ldc2 (v := (-1 : Int64)) hx hb hown (hts (.constantLong RX2 106 (-1)) (by decide +kernel)) dX2_writeArm_31 ?_
    refine lv_lxor hx hb dX2_writeArm_34 ?_
    refine lv_land hx hb dX2_writeArm_35 ?_
    refine lv_lload_n hx hb dX2_writeArm_36 rfl (lv_at hl 4 rfl) ?_
    refine lv_lload hx hb dX2_writeArm_37 (lv_at hl 0 rfl) ?_
    refine lv_land hx hb dX2_writeArm_39 ?_
    refine lv_lor hx hb dX2_writeArm_40 ?_
    have o_41_4 := h.1
    replace h := h.2
    refine xs_last hx hb hK.1 hP hD hS 4 1 rfl rfl o_41_4 dX2_writeArm_41 (fun n_written_6 e_n_written_6 H locs hP hD hS => ?_)
    replace h := h n_written_6 e_n_written_6
    have hP : va_P g.1 vwCl (wS g nq n_pictureCount n_angle n_speed n_ticks n_load n_secondArm n_settings n_working n_written_6 n_writtenIn n_width n_first n_step n_kind n_columns) H := hP
    have hD : va_D A (wS g nq n_pictureCount n_angle n_speed n_ticks n_load n_secondArm n_settings n_working n_written_6 n_writtenIn n_width n_first n_step n_kind n_columns) := hD
    refine lv_iconst (v := (0 : Int32)) hx hb dX2_writeArm_42 (by decide) ?_
    refine lv_istore (lv' := [(8, .int (0 : Int32)), (6, .long v6_3), (0, .ref (nq 0)), (1, .int a_1), (2, .int a_2), (3, .long a_3), (5, .int a_4)]) hx hb dX2_writeArm_43 hl (by decide) rfl (fun ls hl => ?_)
    have loop_1 : ∀ (kx_1 : Int32 → (Nat → Int32) → Prop), (∀ (v8_7 : Int32) (n_writtenIn_8 : Nat → Int32) (H : Heap) (locs : List Loc) (ls : Array Slot), kx_1 v8_7 n_writtenIn_8 → va_P g.1 vwCl (wS g nq n_pictureCount n_angle n_speed n_ticks n_load n_secondArm n_settings n_working n_written_6 n_writtenIn_8 n_width n_first n_step n_kind n_columns) H → va_D A (wS g nq n_pictureCount n_angle n_speed n_ticks n_load n_secondArm n_settings n_working n_written_6 n_writtenIn_8 n_width n_first n_step n_kind n_columns) → va_S A s.heap H locs → lv_has ls 10 [(8, .int v8_7), (6, .long v6_3), (0, .ref (nq 0)), (1, .int a_1), (2, .int a_2), (3, .long a_3), (5, .int a_4)] → W p l e (headSpec wsX2_writeArm ({ frames := 1, cells := 0, slots := 0, locals := 22 })).room s m ([.ref (nq 0), .int a_1, .int a_2, .long a_3, .int a_4] : List Value).toArray below meth c H locs 0 0 (MQ below (va_Qv (fun u : (Nat → Int64) × (Nat → Int32) => k u.1 u.2) (fun u t => PostB g A (wS g nq n_pictureCount n_angle n_speed n_ticks n_load n_secondArm n_settings n_working u.1 u.2 n_width n_first n_step n_kind n_columns) t) A) ([.ref (nq 0), .int a_1, .int a_2, .long a_3, .int a_4] : List Value).toArray s 0 0 A) (F0 m 101 ls [])) → ∀ (n_1 : Nat) (v8_7 : Int32) (n_writtenIn_8 : Nat → Int32) (H : Heap) (locs : List Loc) (ls : Array Slot), PX2_writeArm_L1 n_ticks n_working a_1 a_2 a_4 kx_1 n_1 v8_7 n_writtenIn_8 → va_P g.1 vwCl (wS g nq n_pictureCount n_angle n_speed n_ticks n_load n_secondArm n_settings n_working n_written_6 n_writtenIn_8 n_width n_first n_step n_kind n_columns) H → va_D A (wS g nq n_pictureCount n_angle n_speed n_ticks n_load n_secondArm n_settings n_working n_written_6 n_writtenIn_8 n_width n_first n_step n_kind n_columns) → va_S A s.heap H locs → lv_has ls 10 [(8, .int v8_7), (6, .long v6_3), (0, .ref (nq 0)), (1, .int a_1), (2, .int a_2), (3, .long a_3), (5, .int a_4)] → W p l e (headSpec wsX2_writeArm ({ frames := 1, cells := 0, slots := 0, locals := 22 })).room s m ([.ref (nq 0), .int a_1, .int a_2, .long a_3, .int a_4] : List Value).toArray below meth c H locs 0 0 (MQ below (va_Qv (fun u : (Nat → Int64) × (Nat → Int32) => k u.1 u.2) (fun u t => PostB g A (wS g nq n_pictureCount n_angle n_speed n_ticks n_load n_secondArm n_settings n_working u.1 u.2 n_width n_first n_step n_kind n_columns) t) A) ([.ref (nq 0), .int a_1, .int a_2, .long a_3, .int a_4] : List Value).toArray s 0 0 A) (F0 m 45 ls []) := by
      intro kx_1 hexit_1 n_1
      induction n_1 with
      | zero => exact fun _ _ _ _ _ h _ _ _ _ => (h : False).elim
      | succ n_1 ih_1 =>
        intro v8_7 n_writtenIn_8 H locs ls h hP hD hS hl
        unfold PX2_writeArm_L1 at h
        refine lv_iload hx hb dX2_writeArm_45 (lv_at hl 0 rfl) ?_
        refine lv_bipush (v := (12 : Int32)) hx hb dX2_writeArm_47 (by decide) ?_
        refine lv_icmp_ge (tgt := 101) hx hb dX2_writeArm_49 (by decide) (fun c_49_8 => ?_) (fun c_49_8 => ?_)
        · replace h := h.1 c_49_8
          exact hexit_1 v8_7 n_writtenIn_8 H locs ls h hP hD hS (lv_sub hl [0, 1, 2, 3, 4, 5, 6] rfl)
        · replace h := h.2 c_49_8
          refine lv_aload_n hx hb dX2_writeArm_52 rfl (lv_at hl 2 rfl) ?_
          refine lv_iload_n hx hb dX2_writeArm_53 rfl (lv_at hl 3 rfl) ?_
          refine lv_iload hx hb dX2_writeArm_54 (lv_at hl 0 rfl) ?_
          refine vp_callSi (W.runV (As := [.int a_1, .int v8_7]) (rest := []) ⟨hx, hb, hml, hown, hts⟩ (kX2_works l g nq n_pictureCount n_angle n_speed n_ticks n_load n_secondArm n_settings n_working n_written_6 n_writtenIn_8 n_width n_first n_step n_kind n_columns a_1 v8_7 _ h) (cwV 2 hts gX2_writeArm_X2_works rfl rfl rfl hdX2_works ⟨(Nat.le_of_ble_eq_true rfl), (Nat.le_of_ble_eq_true rfl)⟩) (preV_R (r := (RX2, TX2, 11)) hK hP (ci := 2) (q0 := 0) rfl rfl) rfl rfl hl.1 rfl (lv_room (Nat.le_of_ble_eq_true rfl)) dX2_writeArm_56 ⟨(Nat.le_of_ble_eq_true rfl), (Nat.le_of_ble_eq_true rfl)⟩) (fun r56_10 h => ?_)
          refine lv_if_eq (tgt := 95) hx hb dX2_writeArm_59 (by decide) (fun c_59_10 => ?_) (fun c_59_10 => ?_)
          · replace h := h.1 c_59_10
            obtain ⟨v8_12, e_v8_12⟩ : ∃ y : Int32, y = v8_7 + (1 : Int32) := ⟨_, rfl⟩
            replace h := h v8_12 e_v8_12
            refine lv_iinc (v := v8_12) (lv' := [(8, .int v8_12), (6, .long v6_3), (0, .ref (nq 0)), (1, .int a_1), (2, .int a_2), (3, .long a_3), (5, .int a_4)]) hx hb dX2_writeArm_95 hl (k := 0) rfl (by rw [e_v8_12]; rfl) (by decide) rfl (fun ls hl => ?_)
            refine lv_goto (tgt := 45) hx hb dX2_writeArm_98 (by decide) ?_
            exact ih_1 v8_12 n_writtenIn_8 H locs ls h hP hD hS (lv_sub hl [0, 1, 2, 3, 4, 5, 6] rfl)
          · replace h := h.2 c_59_10
            refine lv_iload_n hx hb dX2_writeArm_62 rfl (lv_at hl 4 rfl) ?_
            refine lv_bipush (v := (12 : Int32)) hx hb dX2_writeArm_63 (by decide) ?_
            refine lv_imul hx hb dX2_writeArm_65 ?_
            refine lv_iload hx hb dX2_writeArm_66 (lv_at hl 0 rfl) ?_
            refine lv_iadd hx hb dX2_writeArm_68 ?_
            refine lv_topi (fun v9_13 e_v9_13 => ?_)
            replace h := h v9_13 e_v9_13
            refine lv_istore (lv' := [(9, .int v9_13), (8, .int v8_7), (6, .long v6_3), (0, .ref (nq 0)), (1, .int a_1), (2, .int a_2), (3, .long a_3), (5, .int a_4)]) hx hb dX2_writeArm_69 hl (by decide) rfl (fun ls hl => ?_)
            refine lv_aload_n hx hb dX2_writeArm_71 rfl (lv_at hl 3 rfl) ?_
            refine va_get (D := g.1) (ci := 2) (v := .ref (nq 5)) (C := RX2) (T := TX2) (N := 11) hx hb hts iX2 hown hK.1 hP 0 rfl rfl 10 (by decide) (hts (.fieldLink RX2 49 "LightWheel$State" "writtenIn" "[I") (by decide +kernel)) (fun _ h9 => h9) rfl dX2_writeArm_72 ?_
            refine lv_iload hx hb dX2_writeArm_75 (lv_at hl 0 rfl) ?_
            refine lv_aload_n hx hb dX2_writeArm_77 rfl (lv_at hl 3 rfl) ?_
            refine va_get (D := g.1) (ci := 2) (v := .ref (nq 5)) (C := RX2) (T := TX2) (N := 11) hx hb hts iX2 hown hK.1 hP 0 rfl rfl 10 (by decide) (hts (.fieldLink RX2 49 "LightWheel$State" "writtenIn" "[I") (by decide +kernel)) (fun _ h9 => h9) rfl dX2_writeArm_78 ?_
            refine lv_iload hx hb dX2_writeArm_81 (lv_at hl 0 rfl) ?_
            have o_83_13 := h.1
            replace h := h.2
            refine va_iald hx hb hK.1 hP 5 0 rfl rfl o_83_13 dX2_writeArm_83 ?_
            refine lv_aload_n hx hb dX2_writeArm_84 rfl (lv_at hl 3 rfl) ?_
            refine va_get (D := g.1) (ci := 2) (v := .int n_ticks) (C := RX2) (T := TX2) (N := 11) hx hb hts iX2 hown hK.1 hP 0 rfl rfl 4 (by decide) (hts (.fieldLink RX2 27 "LightWheel$State" "ticks" "I") (by decide +kernel)) (fun _ h9 => h9) rfl dX2_writeArm_85 ?_
            refine lv_iload hx hb dX2_writeArm_88 (lv_at hl 7 rfl) ?_
            refine lv_iadd hx hb dX2_writeArm_90 ?_
            refine va_mmax hx hb (hml.trans hl.1.symm) hown (hts (.methodLink RX2 78 Lib.Math.max.name) (by decide +kernel)) (hts (.static Lib.Math.max.name) (by decide +kernel)) (hts (.initialized "java/lang/Math") (by decide +kernel)) (hts (.code Lib.Math.max.name Lib.Math.max.code 2 (some .int)) (by decide +kernel)) (Nat.le_of_ble_eq_true rfl) (Nat.le_of_ble_eq_true rfl) (Nat.zero_le _) (Nat.zero_le _) dX2_writeArm_91 ?_
            have o_94_14 := h.1
            replace h := h.2
            refine xs_iast hx hb hK.1 hP hD hS 5 0 rfl rfl o_94_14 dX2_writeArm_94 (fun n_writtenIn_16 e_n_writtenIn_16 H locs hP hD hS => ?_)
            replace h := h n_writtenIn_16 e_n_writtenIn_16
            have hP : va_P g.1 vwCl (wS g nq n_pictureCount n_angle n_speed n_ticks n_load n_secondArm n_settings n_working n_written_6 n_writtenIn_16 n_width n_first n_step n_kind n_columns) H := hP
            have hD : va_D A (wS g nq n_pictureCount n_angle n_speed n_ticks n_load n_secondArm n_settings n_working n_written_6 n_writtenIn_16 n_width n_first n_step n_kind n_columns) := hD
            obtain ⟨v8_17, e_v8_17⟩ : ∃ y : Int32, y = v8_7 + (1 : Int32) := ⟨_, rfl⟩
            replace h := h v8_17 e_v8_17
            refine lv_iinc (v := v8_17) (lv' := [(8, .int v8_17), (9, .int v9_13), (6, .long v6_3), (0, .ref (nq 0)), (1, .int a_1), (2, .int a_2), (3, .long a_3), (5, .int a_4)]) hx hb dX2_writeArm_95 hl (k := 1) rfl (by rw [e_v8_17]; rfl) (by decide) rfl (fun ls hl => ?_)
            refine lv_goto (tgt := 45) hx hb dX2_writeArm_98 (by decide) ?_
            exact ih_1 v8_17 n_writtenIn_16 H locs ls h hP hD hS (lv_sub hl [0, 2, 3, 4, 5, 6, 7] rfl)
    obtain ⟨n_1, h⟩ := h
    refine loop_1 _ ?_ n_1 (0 : Int32) n_writtenIn _ _ ls h hP hD hS (lv_sub hl [0, 1, 2, 3, 4, 5, 6] rfl)
    intro v8_7 n_writtenIn_8 H locs ls h hP hD hS hl
    exact W.vret hx hb hr (fun t ht hW => ⟨⟨(n_written_6, n_writtenIn_8), rfl, h, by rw [ht]; exact hP, hD⟩, hS.F ht⟩) hS.2.2 dX2_writeArm_101
  · replace h := h.2 c_2_0
    exact W.vret hx hb hr (fun t ht hW => ⟨⟨(n_written, n_writtenIn), rfl, h, by rw [ht]; exact hP, hD⟩, hS.F ht⟩) hS.2.2 dX2_writeArm_5
theorem hdX2_write : yX2_write.cls = RX2 ∧ yX2_write.cls ≠ "java/lang/invoke/MethodHandle" ∧ yX2_write.cls ≠ "java/lang/invoke/VarHandle" ∧ (parseMethodDescriptor yX2_write.desc).map (fun d => d.parameters.length) = some 1 := by decide +kernel
set_option maxHeartbeats 4000000 in
set_option maxRecDepth 100000 in
theorem kX2_write (l : Launch) (g : GG) (nq wq : Nat → Nat) (sz : Nat) (n_pictureCount : Int32) (n_angle : Int32) (n_speed : Int32) (n_ticks : Int32) (n_load : Int32) (n_secondArm : Int32) (n_settings : Nat → Int32) (n_working : Nat → Int64) (n_written : Nat → Int64) (n_writtenIn : Nat → Int32) (n_width : Nat → Int32) (n_first : Nat → Int32) (n_step : Nat → Int32) (n_kind : Nat → Int32) (n_columns : Nat → Nat → Int64) (w_wanted : Nat → Int64) (w_loadAt : Nat → Int32) (w_passedIn : Nat → Int32) (w_secondArm : Int32) (w_power : Int32) (w_limit : Int32) (w_wantedSpeed : Int32) (w_angle : Int32) (w_speed : Int32) (w_load : Int32) (w_ticks : Int32)  (k : Int32 → Int32 → Int32 → Int32 → (Nat → Int64) → (Nat → Int32) → Prop) (h : PX2_write n_angle n_speed n_ticks n_load n_working n_written n_writtenIn w_wanted w_passedIn w_secondArm w_angle w_speed w_load w_ticks  k) : Met l yX2_write wsX2_write ({ frames := 2, cells := 0, slots := 0, locals := 51 }) (PreM g [.ref (nq 0), .ref (wq 0)] (wS g nq n_pictureCount n_angle n_speed n_ticks n_load n_secondArm n_settings n_working n_written n_writtenIn n_width n_first n_step n_kind n_columns ++ (wW g wq w_wanted w_loadAt w_passedIn w_secondArm w_power w_limit w_wantedSpeed w_angle w_speed w_load w_ticks)) sz) (va_Qv (fun u : Int32 × Int32 × Int32 × Int32 × (Nat → Int64) × (Nat → Int32) => k u.1 u.2.1 u.2.2.1 u.2.2.2.1 u.2.2.2.2.1 u.2.2.2.2.2) (fun u t => PostB g (va_A (wS g nq n_pictureCount n_angle n_speed n_ticks n_load n_secondArm n_settings n_working n_written n_writtenIn n_width n_first n_step n_kind n_columns ++ (wW g wq w_wanted w_loadAt w_passedIn w_secondArm w_power w_limit w_wantedSpeed w_angle w_speed w_load w_ticks)) sz) (wS g nq n_pictureCount u.1 u.2.1 u.2.2.1 u.2.2.2.1 n_secondArm n_settings n_working u.2.2.2.2.1 u.2.2.2.2.2 n_width n_first n_step n_kind n_columns ++ (wW g wq w_wanted w_loadAt w_passedIn w_secondArm w_power w_limit w_wantedSpeed w_angle w_speed w_load w_ticks)) t) (va_A (wS g nq n_pictureCount n_angle n_speed n_ticks n_load n_secondArm n_settings n_working n_written n_writtenIn n_width n_first n_step n_kind n_columns ++ (wW g wq w_wanted w_loadAt w_passedIn w_secondArm w_power w_limit w_wantedSpeed w_angle w_speed w_load w_ticks)) sz)) 0 0 (va_A (wS g nq n_pictureCount n_angle n_speed n_ticks n_load n_secondArm n_settings n_working n_written n_writtenIn n_width n_first n_step n_kind n_columns ++ (wW g wq w_wanted w_loadAt w_passedIn w_secondArm w_power w_limit w_wantedSpeed w_angle w_speed w_load w_ticks)) sz) := by
  refine Met.ofW (cc := cX2_write) (maxL := 3) (ret := none) (by decide) rfl ?_
  intro p e s m args below meth c s₁ B hml hv
  obtain ⟨rfl, hsz, hP, hK, hD0⟩ := hv
  have hx := B.exec
  have hb := B.bytes
  have hr := B.returns
  have hts := atoms_spec (ws := wsX2_write) B.pre
  have hown : s.vm.findClass RX2 = some m.cls := findClass_of_methodNamed B.named
  have hlocks := B.notSynchronized
  have iX2 : ∀ w ∈ wsX20, w ∈ wsX2_write := by decide +kernel
  have iX3 : ∀ w ∈ wsX30, w ∈ wsX2_write := by decide +kernel
  subst hsz
  have hD := hD0.self (sz := s.heap.size)
  generalize hAe : va_A (wS g nq n_pictureCount n_angle n_speed n_ticks n_load n_secondArm n_settings n_working n_written n_writtenIn n_width n_first n_step n_kind n_columns ++ (wW g wq w_wanted w_loadAt w_passedIn w_secondArm w_power w_limit w_wantedSpeed w_angle w_speed w_load w_ticks)) s.heap.size = A at hD ⊢
  have hA : ∀ q : Nat, s.heap.size ≤ q → A q := fun q h => by rw [← hAe]; exact Or.inr h
  clear hAe hD0
  have hS : va_S A s.heap s.heap [] := va_S.rf
  have hl := lv_entry ([.ref (nq 0), .ref (wq 0)]) (n := 3) (Nat.le_of_ble_eq_true rfl)
  rw [lg_entry_eq]
  generalize (lg_sl ([.ref (nq 0), .ref (wq 0)]) ++ List.replicate (3 - (lg_sl ([.ref (nq 0), .ref (wq 0)])).length) Slot.unset).toArray = ls at hl ⊢
  have hl : lv_has ls 3 [(0, .ref (nq 0)), (1, .ref (wq 0))] := hl
  unfold PX2_write at h
  obtain ⟨H, hHe⟩ : ∃ y, y = s.heap := ⟨_, rfl⟩
  rw [← hHe] at hP
  have hS : va_S A s.heap H [] := by rw [hHe]; exact hS
  have hW0 : ∀ (Q : State → Prop), W p l e (headSpec wsX2_write ({ frames := 2, cells := 0, slots := 0, locals := 51 })).room s m ([.ref (nq 0), .ref (wq 0)] : List Value).toArray below meth c H [] 0 0 Q (F0 m 0 ls []) → W p l e (headSpec wsX2_write ({ frames := 2, cells := 0, slots := 0, locals := 51 })).room s m ([.ref (nq 0), .ref (wq 0)] : List Value).toArray below meth c s.heap [] 0 0 Q (F0 m 0 ls []) := by rw [hHe]; exact fun _ h9 => h9
  refine hW0 _ ?_
  clear hW0 hHe
  generalize ([] : List Loc) = locs at hS ⊢
  refine lv_iconst (v := (0 : Int32)) hx hb dX2_write_0 (by decide) ?_
  refine lv_istore_n (lv' := [(2, .int (0 : Int32)), (0, .ref (nq 0)), (1, .ref (wq 0))]) hx hb dX2_write_1 rfl hl (by decide) rfl (fun ls hl => ?_)
  have loop_1 : ∀ (kx_1 : Int32 → (Nat → Int64) → (Nat → Int32) → Prop), (∀ (v2_1 : Int32) (n_written_2 : Nat → Int64) (n_writtenIn_3 : Nat → Int32) (H : Heap) (locs : List Loc) (ls : Array Slot), kx_1 v2_1 n_written_2 n_writtenIn_3 → va_P g.1 vwCl (wS g nq n_pictureCount n_angle n_speed n_ticks n_load n_secondArm n_settings n_working n_written_2 n_writtenIn_3 n_width n_first n_step n_kind n_columns ++ (wW g wq w_wanted w_loadAt w_passedIn w_secondArm w_power w_limit w_wantedSpeed w_angle w_speed w_load w_ticks)) H → va_D A (wS g nq n_pictureCount n_angle n_speed n_ticks n_load n_secondArm n_settings n_working n_written_2 n_writtenIn_3 n_width n_first n_step n_kind n_columns ++ (wW g wq w_wanted w_loadAt w_passedIn w_secondArm w_power w_limit w_wantedSpeed w_angle w_speed w_load w_ticks)) → va_S A s.heap H locs → lv_has ls 3 [(2, .int v2_1), (0, .ref (nq 0)), (1, .ref (wq 0))] → W p l e (headSpec wsX2_write ({ frames := 2, cells := 0, slots := 0, locals := 51 })).room s m ([.ref (nq 0), .ref (wq 0)] : List Value).toArray below meth c H locs 0 0 (MQ below (va_Qv (fun u : Int32 × Int32 × Int32 × Int32 × (Nat → Int64) × (Nat → Int32) => k u.1 u.2.1 u.2.2.1 u.2.2.2.1 u.2.2.2.2.1 u.2.2.2.2.2) (fun u t => PostB g A (wS g nq n_pictureCount u.1 u.2.1 u.2.2.1 u.2.2.2.1 n_secondArm n_settings n_working u.2.2.2.2.1 u.2.2.2.2.2 n_width n_first n_step n_kind n_columns ++ (wW g wq w_wanted w_loadAt w_passedIn w_secondArm w_power w_limit w_wantedSpeed w_angle w_speed w_load w_ticks)) t) A) ([.ref (nq 0), .ref (wq 0)] : List Value).toArray s 0 0 A) (F0 m 49 ls [])) → ∀ (n_1 : Nat) (v2_1 : Int32) (n_written_2 : Nat → Int64) (n_writtenIn_3 : Nat → Int32) (H : Heap) (locs : List Loc) (ls : Array Slot), PX2_write_L1 n_ticks n_working w_wanted w_passedIn w_secondArm kx_1 n_1 v2_1 n_written_2 n_writtenIn_3 → va_P g.1 vwCl (wS g nq n_pictureCount n_angle n_speed n_ticks n_load n_secondArm n_settings n_working n_written_2 n_writtenIn_3 n_width n_first n_step n_kind n_columns ++ (wW g wq w_wanted w_loadAt w_passedIn w_secondArm w_power w_limit w_wantedSpeed w_angle w_speed w_load w_ticks)) H → va_D A (wS g nq n_pictureCount n_angle n_speed n_ticks n_load n_secondArm n_settings n_working n_written_2 n_writtenIn_3 n_width n_first n_step n_kind n_columns ++ (wW g wq w_wanted w_loadAt w_passedIn w_secondArm w_power w_limit w_wantedSpeed w_angle w_speed w_load w_ticks)) → va_S A s.heap H locs → lv_has ls 3 [(2, .int v2_1), (0, .ref (nq 0)), (1, .ref (wq 0))] → W p l e (headSpec wsX2_write ({ frames := 2, cells := 0, slots := 0, locals := 51 })).room s m ([.ref (nq 0), .ref (wq 0)] : List Value).toArray below meth c H locs 0 0 (MQ below (va_Qv (fun u : Int32 × Int32 × Int32 × Int32 × (Nat → Int64) × (Nat → Int32) => k u.1 u.2.1 u.2.2.1 u.2.2.2.1 u.2.2.2.2.1 u.2.2.2.2.2) (fun u t => PostB g A (wS g nq n_pictureCount u.1 u.2.1 u.2.2.1 u.2.2.2.1 n_secondArm n_settings n_working u.2.2.2.2.1 u.2.2.2.2.2 n_width n_first n_step n_kind n_columns ++ (wW g wq w_wanted w_loadAt w_passedIn w_secondArm w_power w_limit w_wantedSpeed w_angle w_speed w_load w_ticks)) t) A) ([.ref (nq 0), .ref (wq 0)] : List Value).toArray s 0 0 A) (F0 m 2 ls []) := by
    intro kx_1 hexit_1 n_1
    induction n_1 with
    | zero => exact fun _ _ _ _ _ _ h _ _ _ _ => (h : False).elim
    | succ n_1 ih_1 =>
      intro v2_1 n_written_2 n_writtenIn_3 H locs ls h hP hD hS hl
      unfold PX2_write_L1 at h
      refine lv_iload_n hx hb dX2_write_2 rfl (lv_at hl 0 rfl) ?_
      refine lv_sipush (v := (720 : Int32)) hx hb dX2_write_3 (by decide) ?_
      refine lv_icmp_ge (tgt := 49) hx hb dX2_write_6 (by decide) (fun c_6_3 => ?_) (fun c_6_3 => ?_)
      · replace h := h.1 c_6_3
        exact hexit_1 v2_1 n_written_2 n_writtenIn_3 H locs ls h hP hD hS (lv_sub hl [0, 1, 2] rfl)
      · replace h := h.2 c_6_3
        refine lv_aload_n hx hb dX2_write_9 rfl (lv_at hl 1 rfl) ?_
        refine lv_iconst (v := (0 : Int32)) hx hb dX2_write_10 (by decide) ?_
        refine lv_iload_n hx hb dX2_write_11 rfl (lv_at hl 0 rfl) ?_
        refine lv_aload_n hx hb dX2_write_12 rfl (lv_at hl 2 rfl) ?_
        refine va_get (D := g.1) (ci := 3) (v := .ref (wq 1)) (C := RX3) (T := TX3) (N := 11) hx hb hts iX3 hown hK.1 hP 14 rfl rfl 0 (by decide) (hts (.fieldLink RX2 86 "LightWheel$Sweep" "wanted" "[J") (by decide +kernel)) (fun _ h9 => h9) rfl dX2_write_13 ?_
        refine lv_iload_n hx hb dX2_write_16 rfl (lv_at hl 0 rfl) ?_
        have o_17_4 := h.1
        replace h := h.2
        refine va_lald hx hb hK.1 hP 15 1 rfl rfl o_17_4 dX2_write_17 ?_
        refine lv_aload_n hx hb dX2_write_18 rfl (lv_at hl 2 rfl) ?_
        refine lv_iload_n hx hb dX2_write_19 rfl (lv_at hl 0 rfl) ?_
        have hPc : va_P g.1 vwCl (wW g wq w_wanted w_loadAt w_passedIn w_secondArm w_power w_limit w_wantedSpeed w_angle w_speed w_load w_ticks) H := hP.sub [14, 15, 16, 17] rfl
        refine vp_callSi (W.runV (As := [.int v2_1]) (rest := [.long (w_wanted (Int32.toNatClampNeg v2_1)), .int v2_1, .int (0 : Int32), .ref (nq 0)]) ⟨hx, hb, hml, hown, hts⟩ (kX3_firstArmAt l g wq w_wanted w_loadAt w_passedIn w_secondArm w_power w_limit w_wantedSpeed w_angle w_speed w_load w_ticks v2_1 _ h) (cwV 1 hts gX2_write_X3_firstArmAt rfl rfl rfl hdX3_firstArmAt ⟨(Nat.le_of_ble_eq_true rfl), (Nat.le_of_ble_eq_true rfl)⟩) (preV_R (r := (RX3, TX3, 11)) hK hPc (ci := 3) (q0 := 0) rfl rfl) rfl rfl hl.1 rfl (lv_room (Nat.le_of_ble_eq_true rfl)) dX2_write_20 ⟨(Nat.le_of_ble_eq_true rfl), (Nat.le_of_ble_eq_true rfl)⟩) (fun r20_6 h => ?_)
        have hPc : va_P g.1 vwCl (wS g nq n_pictureCount n_angle n_speed n_ticks n_load n_secondArm n_settings n_working n_written_2 n_writtenIn_3 n_width n_first n_step n_kind n_columns) H := hP.sub [0, 1, 2, 3, 4, 5, 6, 7, 8, 9, 10, 11, 12, 13] rfl
        have hDc : va_D A (wS g nq n_pictureCount n_angle n_speed n_ticks n_load n_secondArm n_settings n_working n_written_2 n_writtenIn_3 n_width n_first n_step n_kind n_columns) := hD.sub [0, 1, 2, 3, 4, 5, 6, 7, 8, 9, 10, 11, 12, 13] (by decide) rfl
        have hFc := va_free (wc := (wS g nq n_pictureCount n_angle n_speed n_ticks n_load n_secondArm n_settings n_working n_written_2 n_writtenIn_3 n_width n_first n_step n_kind n_columns)) hD hS hA [0, 1, 2, 3, 4, 5, 6, 7, 8, 9, 10, 11, 12, 13] rfl
        refine va_callv (va_runV (As := [.int (0 : Int32), .int v2_1, .long (w_wanted (Int32.toNatClampNeg v2_1)), .int r20_6]) (rest := []) ⟨hx, hb, hml, hown, hts⟩ (kX2_writeArm l g nq H.size n_pictureCount n_angle n_speed n_ticks n_load n_secondArm n_settings n_working n_written_2 n_writtenIn_3 n_width n_first n_step n_kind n_columns (0 : Int32) v2_1 (w_wanted (Int32.toNatClampNeg v2_1)) r20_6 _ h) (cwV 4 hts gX2_write_X2_writeArm rfl rfl rfl hdX2_writeArm ⟨(Nat.le_of_ble_eq_true rfl), (Nat.le_of_ble_eq_true rfl)⟩) (preV_M (r := (RX2, TX2, 11)) hK hPc hDc (ci := 2) (q0 := 0) rfl rfl) rfl rfl hl.1 rfl (lv_room (Nat.le_of_ble_eq_true rfl)) dX2_write_23 ⟨(Nat.le_of_ble_eq_true rfl), (Nat.le_of_ble_eq_true rfl)⟩) hS (fun q _ h9 => hFc q h9) hFc (fun u t H1 locs ht hvm hw hB hz1 hk1 hS => ?_)
        obtain ⟨n_written_7, n_writtenIn_8⟩ := u
        replace h := hw
        try dsimp only at h
        obtain ⟨hP, hD⟩ := jn3 (ws := (wS g nq n_pictureCount n_angle n_speed n_ticks n_load n_secondArm n_settings n_working n_written_2 n_writtenIn_3 n_width n_first n_step n_kind n_columns ++ (wW g wq w_wanted w_loadAt w_passedIn w_secondArm w_power w_limit w_wantedSpeed w_angle w_speed w_load w_ticks))) (wf := (wS g nq n_pictureCount n_angle n_speed n_ticks n_load n_secondArm n_settings n_working n_written_7 n_writtenIn_8 n_width n_first n_step n_kind n_columns)) (pl := []) (wz := (wS g nq n_pictureCount n_angle n_speed n_ticks n_load n_secondArm n_settings n_working n_written_7 n_writtenIn_8 n_width n_first n_step n_kind n_columns ++ (wW g wq w_wanted w_loadAt w_passedIn w_secondArm w_power w_limit w_wantedSpeed w_angle w_speed w_load w_ticks))) hP hD [0, 1, 2, 3, 4, 5, 6, 7, 8, 9, 10, 11, 12, 13] [14, 15, 16, 17] [4, 5, 6, 7, 8, 9, 10, 11, 12, 13, 14, 15, 16, 17, 0, 1, 2, 3] rfl rfl (by decide) (by decide) (by decide) rfl hk1 hFc hB ht
        have hP : va_P g.1 vwCl (wS g nq n_pictureCount n_angle n_speed n_ticks n_load n_secondArm n_settings n_working n_written_7 n_writtenIn_8 n_width n_first n_step n_kind n_columns ++ (wW g wq w_wanted w_loadAt w_passedIn w_secondArm w_power w_limit w_wantedSpeed w_angle w_speed w_load w_ticks)) H1 := hP
        have hD : va_D A (wS g nq n_pictureCount n_angle n_speed n_ticks n_load n_secondArm n_settings n_working n_written_7 n_writtenIn_8 n_width n_first n_step n_kind n_columns ++ (wW g wq w_wanted w_loadAt w_passedIn w_secondArm w_power w_limit w_wantedSpeed w_angle w_speed w_load w_ticks)) := hD
        clear hk1 hz1 hB ht hw hFc
        generalize H1 = H at hP hS ⊢
        refine lv_aload_n hx hb dX2_write_26 rfl (lv_at hl 1 rfl) ?_
        refine lv_iconst (v := (1 : Int32)) hx hb dX2_write_27 (by decide) ?_
        refine lv_iload_n hx hb dX2_write_28 rfl (lv_at hl 0 rfl) ?_
        refine lv_aload_n hx hb dX2_write_29 rfl (lv_at hl 2 rfl) ?_
        refine va_get (D := g.1) (ci := 3) (v := .ref (wq 1)) (C := RX3) (T := TX3) (N := 11) hx hb hts iX3 hown hK.1 hP 14 rfl rfl 0 (by decide) (hts (.fieldLink RX2 86 "LightWheel$Sweep" "wanted" "[J") (by decide +kernel)) (fun _ h9 => h9) rfl dX2_write_30 ?_
        refine lv_iload_n hx hb dX2_write_33 rfl (lv_at hl 0 rfl) ?_
        have o_34_8 := h.1
        replace h := h.2
        refine va_lald hx hb hK.1 hP 15 1 rfl rfl o_34_8 dX2_write_34 ?_
        refine lv_aload_n hx hb dX2_write_35 rfl (lv_at hl 2 rfl) ?_
        refine lv_iload_n hx hb dX2_write_36 rfl (lv_at hl 0 rfl) ?_
        have hPc : va_P g.1 vwCl (wW g wq w_wanted w_loadAt w_passedIn w_secondArm w_power w_limit w_wantedSpeed w_angle w_speed w_load w_ticks) H := hP.sub [14, 15, 16, 17] rfl
        refine vp_callSi (W.runV (As := [.int v2_1]) (rest := [.long (w_wanted (Int32.toNatClampNeg v2_1)), .int v2_1, .int (1 : Int32), .ref (nq 0)]) ⟨hx, hb, hml, hown, hts⟩ (kX3_secondArmAt l g wq w_wanted w_loadAt w_passedIn w_secondArm w_power w_limit w_wantedSpeed w_angle w_speed w_load w_ticks v2_1 _ h) (cwV 1 hts gX2_write_X3_secondArmAt rfl rfl rfl hdX3_secondArmAt ⟨(Nat.le_of_ble_eq_true rfl), (Nat.le_of_ble_eq_true rfl)⟩) (preV_R (r := (RX3, TX3, 11)) hK hPc (ci := 3) (q0 := 0) rfl rfl) rfl rfl hl.1 rfl (lv_room (Nat.le_of_ble_eq_true rfl)) dX2_write_37 ⟨(Nat.le_of_ble_eq_true rfl), (Nat.le_of_ble_eq_true rfl)⟩) (fun r37_10 h => ?_)
        have hPc : va_P g.1 vwCl (wS g nq n_pictureCount n_angle n_speed n_ticks n_load n_secondArm n_settings n_working n_written_7 n_writtenIn_8 n_width n_first n_step n_kind n_columns) H := hP.sub [0, 1, 2, 3, 4, 5, 6, 7, 8, 9, 10, 11, 12, 13] rfl
        have hDc : va_D A (wS g nq n_pictureCount n_angle n_speed n_ticks n_load n_secondArm n_settings n_working n_written_7 n_writtenIn_8 n_width n_first n_step n_kind n_columns) := hD.sub [0, 1, 2, 3, 4, 5, 6, 7, 8, 9, 10, 11, 12, 13] (by decide) rfl
        have hFc := va_free (wc := (wS g nq n_pictureCount n_angle n_speed n_ticks n_load n_secondArm n_settings n_working n_written_7 n_writtenIn_8 n_width n_first n_step n_kind n_columns)) hD hS hA [0, 1, 2, 3, 4, 5, 6, 7, 8, 9, 10, 11, 12, 13] rfl
        refine va_callv (va_runV (As := [.int (1 : Int32), .int v2_1, .long (w_wanted (Int32.toNatClampNeg v2_1)), .int r37_10]) (rest := []) ⟨hx, hb, hml, hown, hts⟩ (kX2_writeArm l g nq H.size n_pictureCount n_angle n_speed n_ticks n_load n_secondArm n_settings n_working n_written_7 n_writtenIn_8 n_width n_first n_step n_kind n_columns (1 : Int32) v2_1 (w_wanted (Int32.toNatClampNeg v2_1)) r37_10 _ h) (cwV 4 hts gX2_write_X2_writeArm rfl rfl rfl hdX2_writeArm ⟨(Nat.le_of_ble_eq_true rfl), (Nat.le_of_ble_eq_true rfl)⟩) (preV_M (r := (RX2, TX2, 11)) hK hPc hDc (ci := 2) (q0 := 0) rfl rfl) rfl rfl hl.1 rfl (lv_room (Nat.le_of_ble_eq_true rfl)) dX2_write_40 ⟨(Nat.le_of_ble_eq_true rfl), (Nat.le_of_ble_eq_true rfl)⟩) hS (fun q _ h9 => hFc q h9) hFc (fun u t H1 locs ht hvm hw hB hz1 hk1 hS => ?_)
        obtain ⟨n_written_11, n_writtenIn_12⟩ := u
        replace h := hw
        try dsimp only at h
        obtain ⟨hP, hD⟩ := jn3 (ws := (wS g nq n_pictureCount n_angle n_speed n_ticks n_load n_secondArm n_settings n_working n_written_7 n_writtenIn_8 n_width n_first n_step n_kind n_columns ++ (wW g wq w_wanted w_loadAt w_passedIn w_secondArm w_power w_limit w_wantedSpeed w_angle w_speed w_load w_ticks))) (wf := (wS g nq n_pictureCount n_angle n_speed n_ticks n_load n_secondArm n_settings n_working n_written_11 n_writtenIn_12 n_width n_first n_step n_kind n_columns)) (pl := []) (wz := (wS g nq n_pictureCount n_angle n_speed n_ticks n_load n_secondArm n_settings n_working n_written_11 n_writtenIn_12 n_width n_first n_step n_kind n_columns ++ (wW g wq w_wanted w_loadAt w_passedIn w_secondArm w_power w_limit w_wantedSpeed w_angle w_speed w_load w_ticks))) hP hD [0, 1, 2, 3, 4, 5, 6, 7, 8, 9, 10, 11, 12, 13] [14, 15, 16, 17] [4, 5, 6, 7, 8, 9, 10, 11, 12, 13, 14, 15, 16, 17, 0, 1, 2, 3] rfl rfl (by decide) (by decide) (by decide) rfl hk1 hFc hB ht
        have hP : va_P g.1 vwCl (wS g nq n_pictureCount n_angle n_speed n_ticks n_load n_secondArm n_settings n_working n_written_11 n_writtenIn_12 n_width n_first n_step n_kind n_columns ++ (wW g wq w_wanted w_loadAt w_passedIn w_secondArm w_power w_limit w_wantedSpeed w_angle w_speed w_load w_ticks)) H1 := hP
        have hD : va_D A (wS g nq n_pictureCount n_angle n_speed n_ticks n_load n_secondArm n_settings n_working n_written_11 n_writtenIn_12 n_width n_first n_step n_kind n_columns ++ (wW g wq w_wanted w_loadAt w_passedIn w_secondArm w_power w_limit w_wantedSpeed w_angle w_speed w_load w_ticks)) := hD
        clear hk1 hz1 hB ht hw hFc
        generalize H1 = H at hP hS ⊢
        obtain ⟨v2_13, e_v2_13⟩ : ∃ y : Int32, y = v2_1 + (1 : Int32) := ⟨_, rfl⟩
        replace h := h v2_13 e_v2_13
        refine lv_iinc (v := v2_13) (lv' := [(2, .int v2_13), (0, .ref (nq 0)), (1, .ref (wq 0))]) hx hb dX2_write_43 hl (k := 0) rfl (by rw [e_v2_13]; rfl) (by decide) rfl (fun ls hl => ?_)
        refine lv_goto (tgt := 2) hx hb dX2_write_46 (by decide) ?_
        exact ih_1 v2_13 n_written_11 n_writtenIn_12 H locs ls h hP hD hS (lv_sub hl [0, 1, 2] rfl)
  obtain ⟨n_1, h⟩ := h
  refine loop_1 _ ?_ n_1 (0 : Int32) n_written n_writtenIn _ _ ls h hP hD hS (lv_sub hl [0, 1, 2] rfl)
  intro v2_1 n_written_2 n_writtenIn_3 H locs ls h hP hD hS hl
  refine lv_aload_n hx hb dX2_write_49 rfl (lv_at hl 1 rfl) ?_
  refine lv_aload_n hx hb dX2_write_50 rfl (lv_at hl 2 rfl) ?_
  refine va_get (D := g.1) (ci := 3) (v := .int w_angle) (C := RX3) (T := TX3) (N := 11) hx hb hts iX3 hown hK.1 hP 14 rfl rfl 7 (by decide) (hts (.fieldLink RX2 102 "LightWheel$Sweep" "angle" "I") (by decide +kernel)) (fun _ h9 => h9) rfl dX2_write_51 ?_
  refine va_put (D := g.1) (ci := 2) (v := .int w_angle) (ty := .int) (C := RX2) (T := TX2) (N := 11) hx hb hts iX2 tyX2 tyX2_ok nmX2 hown hK.1 hP hD hS 0 rfl rfl 2 (by decide) (hts (.fieldLink RX2 21 "LightWheel$State" "angle" "I") (by decide +kernel)) (fun _ h9 => h9) rfl (by decide +kernel) rfl rfl (Nat.le_of_ble_eq_true rfl) dX2_write_54 (fun H locs hP hD hS => ?_)
  have hP : va_P g.1 vwCl (wS g nq n_pictureCount w_angle n_speed n_ticks n_load n_secondArm n_settings n_working n_written_2 n_writtenIn_3 n_width n_first n_step n_kind n_columns ++ (wW g wq w_wanted w_loadAt w_passedIn w_secondArm w_power w_limit w_wantedSpeed w_angle w_speed w_load w_ticks)) H := hP
  have hD : va_D A (wS g nq n_pictureCount w_angle n_speed n_ticks n_load n_secondArm n_settings n_working n_written_2 n_writtenIn_3 n_width n_first n_step n_kind n_columns ++ (wW g wq w_wanted w_loadAt w_passedIn w_secondArm w_power w_limit w_wantedSpeed w_angle w_speed w_load w_ticks)) := hD
  refine lv_aload_n hx hb dX2_write_57 rfl (lv_at hl 1 rfl) ?_
  refine lv_aload_n hx hb dX2_write_58 rfl (lv_at hl 2 rfl) ?_
  refine va_get (D := g.1) (ci := 3) (v := .int w_speed) (C := RX3) (T := TX3) (N := 11) hx hb hts iX3 hown hK.1 hP 14 rfl rfl 8 (by decide) (hts (.fieldLink RX2 103 "LightWheel$Sweep" "speed" "I") (by decide +kernel)) (fun _ h9 => h9) rfl dX2_write_59 ?_
  refine va_put (D := g.1) (ci := 2) (v := .int w_speed) (ty := .int) (C := RX2) (T := TX2) (N := 11) hx hb hts iX2 tyX2 tyX2_ok nmX2 hown hK.1 hP hD hS 0 rfl rfl 3 (by decide) (hts (.fieldLink RX2 24 "LightWheel$State" "speed" "I") (by decide +kernel)) (fun _ h9 => h9) rfl (by decide +kernel) rfl rfl (Nat.le_of_ble_eq_true rfl) dX2_write_62 (fun H locs hP hD hS => ?_)
  have hP : va_P g.1 vwCl (wS g nq n_pictureCount w_angle w_speed n_ticks n_load n_secondArm n_settings n_working n_written_2 n_writtenIn_3 n_width n_first n_step n_kind n_columns ++ (wW g wq w_wanted w_loadAt w_passedIn w_secondArm w_power w_limit w_wantedSpeed w_angle w_speed w_load w_ticks)) H := hP
  have hD : va_D A (wS g nq n_pictureCount w_angle w_speed n_ticks n_load n_secondArm n_settings n_working n_written_2 n_writtenIn_3 n_width n_first n_step n_kind n_columns ++ (wW g wq w_wanted w_loadAt w_passedIn w_secondArm w_power w_limit w_wantedSpeed w_angle w_speed w_load w_ticks)) := hD
  refine lv_aload_n hx hb dX2_write_65 rfl (lv_at hl 1 rfl) ?_
  refine lv_aload_n hx hb dX2_write_66 rfl (lv_at hl 2 rfl) ?_
  refine va_get (D := g.1) (ci := 3) (v := .int w_load) (C := RX3) (T := TX3) (N := 11) hx hb hts iX3 hown hK.1 hP 14 rfl rfl 9 (by decide) (hts (.fieldLink RX2 104 "LightWheel$Sweep" "load" "I") (by decide +kernel)) (fun _ h9 => h9) rfl dX2_write_67 ?_
  refine va_put (D := g.1) (ci := 2) (v := .int w_load) (ty := .int) (C := RX2) (T := TX2) (N := 11) hx hb hts iX2 tyX2 tyX2_ok nmX2 hown hK.1 hP hD hS 0 rfl rfl 5 (by decide) (hts (.fieldLink RX2 30 "LightWheel$State" "load" "I") (by decide +kernel)) (fun _ h9 => h9) rfl (by decide +kernel) rfl rfl (Nat.le_of_ble_eq_true rfl) dX2_write_70 (fun H locs hP hD hS => ?_)
  have hP : va_P g.1 vwCl (wS g nq n_pictureCount w_angle w_speed n_ticks w_load n_secondArm n_settings n_working n_written_2 n_writtenIn_3 n_width n_first n_step n_kind n_columns ++ (wW g wq w_wanted w_loadAt w_passedIn w_secondArm w_power w_limit w_wantedSpeed w_angle w_speed w_load w_ticks)) H := hP
  have hD : va_D A (wS g nq n_pictureCount w_angle w_speed n_ticks w_load n_secondArm n_settings n_working n_written_2 n_writtenIn_3 n_width n_first n_step n_kind n_columns ++ (wW g wq w_wanted w_loadAt w_passedIn w_secondArm w_power w_limit w_wantedSpeed w_angle w_speed w_load w_ticks)) := hD
  refine lv_aload_n hx hb dX2_write_73 rfl (lv_at hl 1 rfl) ?_
  refine lv_dup hx hb dX2_write_74 rfl ?_
  refine va_get (D := g.1) (ci := 2) (v := .int n_ticks) (C := RX2) (T := TX2) (N := 11) hx hb hts iX2 hown hK.1 hP 0 rfl rfl 4 (by decide) (hts (.fieldLink RX2 27 "LightWheel$State" "ticks" "I") (by decide +kernel)) (fun _ h9 => h9) rfl dX2_write_75 ?_
  refine lv_aload_n hx hb dX2_write_78 rfl (lv_at hl 2 rfl) ?_
  refine va_get (D := g.1) (ci := 3) (v := .int w_ticks) (C := RX3) (T := TX3) (N := 11) hx hb hts iX3 hown hK.1 hP 14 rfl rfl 10 (by decide) (hts (.fieldLink RX2 105 "LightWheel$Sweep" "ticks" "I") (by decide +kernel)) (fun _ h9 => h9) rfl dX2_write_79 ?_
  refine lv_iadd hx hb dX2_write_82 ?_
  refine lv_topi (fun f_ticks_14 e_f_ticks_14 => ?_)
  replace h := h f_ticks_14 e_f_ticks_14
  refine va_put (D := g.1) (ci := 2) (v := .int f_ticks_14) (ty := .int) (C := RX2) (T := TX2) (N := 11) hx hb hts iX2 tyX2 tyX2_ok nmX2 hown hK.1 hP hD hS 0 rfl rfl 4 (by decide) (hts (.fieldLink RX2 27 "LightWheel$State" "ticks" "I") (by decide +kernel)) (fun _ h9 => h9) rfl (by decide +kernel) rfl rfl (Nat.le_of_ble_eq_true rfl) dX2_write_83 (fun H locs hP hD hS => ?_)
  have hP : va_P g.1 vwCl (wS g nq n_pictureCount w_angle w_speed f_ticks_14 w_load n_secondArm n_settings n_working n_written_2 n_writtenIn_3 n_width n_first n_step n_kind n_columns ++ (wW g wq w_wanted w_loadAt w_passedIn w_secondArm w_power w_limit w_wantedSpeed w_angle w_speed w_load w_ticks)) H := hP
  have hD : va_D A (wS g nq n_pictureCount w_angle w_speed f_ticks_14 w_load n_secondArm n_settings n_working n_written_2 n_writtenIn_3 n_width n_first n_step n_kind n_columns ++ (wW g wq w_wanted w_loadAt w_passedIn w_secondArm w_power w_limit w_wantedSpeed w_angle w_speed w_load w_ticks)) := hD
  exact W.vret hx hb hr (fun t ht hW => ⟨⟨(w_angle, w_speed, f_ticks_14, w_load, n_written_2, n_writtenIn_3), rfl, h, by rw [ht]; exact hP, hD⟩, hS.F ht⟩) hS.2.2 dX2_write_86
