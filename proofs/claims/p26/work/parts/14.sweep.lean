def PX3_prepare_L2 (n_pictureCount : Int32) (n_width : Nat → Int32) (n_first : Nat → Int32) (n_step : Nat → Int32) (n_kind : Nat → Int32) (n_columns : Nat → Nat → Int64) (kx_2 : Int32 → (Nat → Int64) → Prop) : Nat → Int32 → (Nat → Int64) → Prop
  | 0, _, _ => False
  | n_2 + 1, v2_5, w_wanted_6 => (((720 : Int32) ≤ v2_5 → kx_2 v2_5 w_wanted_6) ∧ (¬ (720 : Int32) ≤ v2_5 → PX2_wantedAt n_pictureCount n_width n_first n_step n_kind n_columns v2_5 (fun r53_8 => (vp_in v2_5 720 ∧ (∀ w_wanted_10 : Nat → Int64, w_wanted_10 = vp_updL w_wanted_6 (Int32.toNatClampNeg v2_5) r53_8 → (∀ v2_11 : Int32, v2_11 = v2_5 + (1 : Int32) → PX3_prepare_L2 n_pictureCount n_width n_first n_step n_kind n_columns kx_2 n_2 v2_11 w_wanted_10))))))
def PX3_prepare_L3 (n_working : Nat → Int64) (t_1 : Int32) (w_wanted_6 : Nat → Int64) (kx_3 : Int32 → (Nat → Int32) → Prop) : Nat → Int32 → (Nat → Int32) → Prop
  | 0, _, _ => False
  | n_3 + 1, v2_12, w_loadAt_13 => (((720 : Int32) ≤ v2_12 → kx_3 v2_12 w_loadAt_13) ∧ (¬ (720 : Int32) ≤ v2_12 → (vp_in v2_12 720 ∧ PX4_notDark (w_wanted_6 (Int32.toNatClampNeg v2_12)) (fun r83_16 => PJ13_bitCount_95d88 (r83_16 &&& (n_working 0)) (fun r93_17 => (vp_in v2_12 720 ∧ (∀ w_loadAt_19 : Nat → Int32, w_loadAt_19 = upd w_loadAt_13 (Int32.toNatClampNeg v2_12) r93_17 → ((t_1 = 0 → (∀ v2_21 : Int32, v2_21 = v2_12 + (1 : Int32) → PX3_prepare_L3 n_working t_1 w_wanted_6 kx_3 n_3 v2_21 w_loadAt_19)) ∧ (¬ t_1 = 0 → (vp_in v2_12 720 ∧ PX3_opposite v2_12 (fun r116_23 => (vp_in r116_23 720 ∧ PX4_notDark (w_wanted_6 (Int32.toNatClampNeg r116_23)) (fun r120_25 => PJ13_bitCount_95d88 (r120_25 &&& (n_working 1)) (fun r130_26 => (vp_in v2_12 720 ∧ (∀ w_loadAt_28 : Nat → Int32, w_loadAt_28 = upd w_loadAt_19 (Int32.toNatClampNeg v2_12) ((w_loadAt_19 (Int32.toNatClampNeg v2_12)) + r130_26) → (∀ v2_29 : Int32, v2_29 = v2_12 + (1 : Int32) → PX3_prepare_L3 n_working t_1 w_wanted_6 kx_3 n_3 v2_29 w_loadAt_28)))))))))))))))))
def PX3_prepare_J1 (w_wanted : Nat → Int64) (w_loadAt : Nat → Int32) (n_pictureCount : Int32) (n_settings : Nat → Int32) (n_working : Nat → Int64) (n_width : Nat → Int32) (n_first : Nat → Int32) (n_step : Nat → Int32) (n_kind : Nat → Int32) (n_columns : Nat → Nat → Int64) (k : (Nat → Int64) → (Nat → Int32) → Int32 → Int32 → Int32 → Prop) (t_1 : Int32) : Prop := ((t_1 = 0 ∨ t_1 = 1) ∧ (∀ f_power_3 : Int32, f_power_3 = (n_settings 1) → (∀ f_limit_4 : Int32, f_limit_4 = (n_settings 2) → (∃ n_2, PX3_prepare_L2 n_pictureCount n_width n_first n_step n_kind n_columns (fun v2_5 w_wanted_6 => (∃ n_3, PX3_prepare_L3 n_working t_1 w_wanted_6 (fun v2_12 w_loadAt_13 => (k w_wanted_6 w_loadAt_13 t_1 f_power_3 f_limit_4)) n_3 (0 : Int32) w_loadAt)) n_2 (0 : Int32) w_wanted))))
def PX3_prepare (w_wanted : Nat → Int64) (w_loadAt : Nat → Int32) (w_secondArm : Int32) (w_power : Int32) (w_limit : Int32) (n_pictureCount : Int32) (n_secondArm : Int32) (n_settings : Nat → Int32) (n_working : Nat → Int64) (n_width : Nat → Int32) (n_first : Nat → Int32) (n_step : Nat → Int32) (n_kind : Nat → Int32) (n_columns : Nat → Nat → Int64)  (k : (Nat → Int64) → (Nat → Int32) → Int32 → Int32 → Int32 → Prop) : Prop := ((¬ n_secondArm = (1 : Int32) → PX3_prepare_J1 w_wanted w_loadAt n_pictureCount n_settings n_working n_width n_first n_step n_kind n_columns k (0 : Int32)) ∧ (n_secondArm = (1 : Int32) → PX3_prepare_J1 w_wanted w_loadAt n_pictureCount n_settings n_working n_width n_first n_step n_kind n_columns k (1 : Int32)))
def PX3_start_L1  (kx_1 : Int32 → (Nat → Int32) → Prop) : Nat → Int32 → (Nat → Int32) → Prop
  | 0, _, _ => False
  | n_1 + 1, v3_1, w_passedIn_2 => (((720 : Int32) ≤ v3_1 → kx_1 v3_1 w_passedIn_2) ∧ (¬ (720 : Int32) ≤ v3_1 → (vp_in v3_1 720 ∧ (∀ w_passedIn_5 : Nat → Int32, w_passedIn_5 = upd w_passedIn_2 (Int32.toNatClampNeg v3_1) (0 : Int32) → (∀ v3_6 : Int32, v3_6 = v3_1 + (1 : Int32) → PX3_start_L1  kx_1 n_1 v3_6 w_passedIn_5)))))
def PX3_start (w_passedIn : Nat → Int32) (w_wantedSpeed : Int32) (w_angle : Int32) (w_speed : Int32) (w_load : Int32) (w_ticks : Int32) (n_angle : Int32) (n_speed : Int32) (n_load : Int32) (a_2 : Int32) (k : (Nat → Int32) → Int32 → Int32 → Int32 → Int32 → Int32 → Prop) : Prop := (∃ n_1, PX3_start_L1  (fun v3_1 w_passedIn_2 => (k w_passedIn_2 a_2 n_angle n_speed n_load (0 : Int32))) n_1 (0 : Int32) w_passedIn)
def PX3_changeSpeed (w_power : Int32) (w_limit : Int32) (w_wantedSpeed : Int32) (w_speed : Int32) (w_load : Int32)  (k : Int32 → Prop) : Prop := ((w_load ≤ w_limit → (∀ f_speed_2 : Int32, f_speed_2 = (w_speed + (if (-w_power) < (if (w_wantedSpeed - w_speed) < w_power then (w_wantedSpeed - w_speed) else w_power) then (if (w_wantedSpeed - w_speed) < w_power then (w_wantedSpeed - w_speed) else w_power) else (-w_power))) → (k f_speed_2))) ∧ (¬ w_load ≤ w_limit → (∀ v1_3 : Int32, v1_3 = (w_power / (2 : Int32)) → (∀ f_speed_4 : Int32, f_speed_4 = (w_speed + (if (-v1_3) < (if (w_wantedSpeed - w_speed) < v1_3 then (w_wantedSpeed - w_speed) else v1_3) then (if (w_wantedSpeed - w_speed) < v1_3 then (w_wantedSpeed - w_speed) else v1_3) else (-v1_3))) → (k f_speed_4)))))
def PX3_turn_L2 (w_loadAt : Nat → Int32) (w_ticks : Int32) (t_1 : Int32) (kx_2 : Int32 → (Nat → Int32) → Int32 → Int32 → Prop) : Nat → Int32 → (Nat → Int32) → Int32 → Int32 → Prop
  | 0, _, _, _, _ => False
  | n_2 + 1, v2_3, w_passedIn_4, w_angle_5, w_load_6 => ((v2_3 ≤ 0 → kx_2 v2_3 w_passedIn_4 w_angle_5 w_load_6) ∧ (¬ v2_3 ≤ 0 → PJ9_floorMod_7cf53 (w_angle_5 + t_1) (720 : Int32) (fun r40_8 => (vp_in r40_8 720 ∧ (∀ w_passedIn_10 : Nat → Int32, w_passedIn_10 = upd w_passedIn_4 (Int32.toNatClampNeg r40_8) w_ticks → (vp_in r40_8 720 ∧ (∀ f_load_12 : Int32, f_load_12 = (w_load_6 + (w_loadAt (Int32.toNatClampNeg r40_8))) → (∀ v2_13 : Int32, v2_13 = v2_3 + (-1 : Int32) → PX3_turn_L2 w_loadAt w_ticks t_1 kx_2 n_2 v2_13 w_passedIn_10 r40_8 f_load_12))))))))
def PX3_turn_J1 (w_loadAt : Nat → Int32) (w_passedIn : Nat → Int32) (w_angle : Int32) (w_speed : Int32) (w_ticks : Int32) (k : (Nat → Int32) → Int32 → Int32 → Prop) (t_1 : Int32) : Prop := (∀ v2_2 : Int32, v2_2 = (if 0 ≤ w_speed then w_speed else 0 - w_speed) → (∃ n_2, PX3_turn_L2 w_loadAt w_ticks t_1 (fun v2_3 w_passedIn_4 w_angle_5 w_load_6 => (k w_passedIn_4 w_angle_5 w_load_6)) n_2 v2_2 w_passedIn w_angle (0 : Int32)))
def PX3_turn (w_loadAt : Nat → Int32) (w_passedIn : Nat → Int32) (w_angle : Int32) (w_speed : Int32) (w_load : Int32) (w_ticks : Int32)  (k : (Nat → Int32) → Int32 → Int32 → Prop) : Prop := ((w_speed ≤ 0 → PX3_turn_J1 w_loadAt w_passedIn w_angle w_speed w_ticks k (-1 : Int32)) ∧ (¬ w_speed ≤ 0 → PX3_turn_J1 w_loadAt w_passedIn w_angle w_speed w_ticks k (1 : Int32)))
def PX3_goOn_L1 (w_loadAt : Nat → Int32) (w_power : Int32) (w_limit : Int32) (w_wantedSpeed : Int32) (a_1 : Int32) (kx_1 : Int32 → (Nat → Int32) → Int32 → Int32 → Int32 → Int32 → Prop) : Nat → Int32 → (Nat → Int32) → Int32 → Int32 → Int32 → Int32 → Prop
  | 0, _, _, _, _, _, _ => False
  | n_1 + 1, v2_1, w_passedIn_2, w_angle_3, w_speed_4, w_load_5, w_ticks_6 => ((a_1 ≤ v2_1 → kx_1 v2_1 w_passedIn_2 w_angle_3 w_speed_4 w_load_5 w_ticks_6) ∧ (¬ a_1 ≤ v2_1 → (∀ f_ticks_8 : Int32, f_ticks_8 = (w_ticks_6 + (1 : Int32)) → PX3_changeSpeed w_power w_limit w_wantedSpeed w_speed_4 w_load_5  (fun w_speed_9 => PX3_turn w_loadAt w_passedIn_2 w_angle_3 w_speed_9 w_load_5 f_ticks_8  (fun w_passedIn_10 w_angle_11 w_load_12 => (∀ v2_13 : Int32, v2_13 = v2_1 + (1 : Int32) → PX3_goOn_L1 w_loadAt w_power w_limit w_wantedSpeed a_1 kx_1 n_1 v2_13 w_passedIn_10 w_angle_11 w_speed_9 w_load_12 f_ticks_8))))))
def PX3_goOn (w_loadAt : Nat → Int32) (w_passedIn : Nat → Int32) (w_power : Int32) (w_limit : Int32) (w_wantedSpeed : Int32) (w_angle : Int32) (w_speed : Int32) (w_load : Int32) (w_ticks : Int32) (a_1 : Int32) (k : (Nat → Int32) → Int32 → Int32 → Int32 → Int32 → Prop) : Prop := (∃ n_1, PX3_goOn_L1 w_loadAt w_power w_limit w_wantedSpeed a_1 (fun v2_1 w_passedIn_2 w_angle_3 w_speed_4 w_load_5 w_ticks_6 => (k w_passedIn_2 w_angle_3 w_speed_4 w_load_5 w_ticks_6)) n_1 (0 : Int32) w_passedIn w_angle w_speed w_load w_ticks)
theorem hdX3_prepare : yX3_prepare.cls = RX3 ∧ yX3_prepare.cls ≠ "java/lang/invoke/MethodHandle" ∧ yX3_prepare.cls ≠ "java/lang/invoke/VarHandle" ∧ (parseMethodDescriptor yX3_prepare.desc).map (fun d => d.parameters.length) = some 1 := by decide +kernel
set_option maxHeartbeats 4000000 in
set_option maxRecDepth 100000 in
theorem kX3_prepare (l : Launch) (g : GG) (wq nq : Nat → Nat) (sz : Nat) (w_wanted : Nat → Int64) (w_loadAt : Nat → Int32) (w_passedIn : Nat → Int32) (w_secondArm : Int32) (w_power : Int32) (w_limit : Int32) (w_wantedSpeed : Int32) (w_angle : Int32) (w_speed : Int32) (w_load : Int32) (w_ticks : Int32) (n_pictureCount : Int32) (n_angle : Int32) (n_speed : Int32) (n_ticks : Int32) (n_load : Int32) (n_secondArm : Int32) (n_settings : Nat → Int32) (n_working : Nat → Int64) (n_written : Nat → Int64) (n_writtenIn : Nat → Int32) (n_width : Nat → Int32) (n_first : Nat → Int32) (n_step : Nat → Int32) (n_kind : Nat → Int32) (n_columns : Nat → Nat → Int64)  (k : (Nat → Int64) → (Nat → Int32) → Int32 → Int32 → Int32 → Prop) (h : PX3_prepare w_wanted w_loadAt w_secondArm w_power w_limit n_pictureCount n_secondArm n_settings n_working n_width n_first n_step n_kind n_columns  k) : Met l yX3_prepare wsX3_prepare ({ frames := 5, cells := 0, slots := 0, locals := 107 }) (PreM g [.ref (wq 0), .ref (nq 0)] (wW g wq w_wanted w_loadAt w_passedIn w_secondArm w_power w_limit w_wantedSpeed w_angle w_speed w_load w_ticks ++ (wS g nq n_pictureCount n_angle n_speed n_ticks n_load n_secondArm n_settings n_working n_written n_writtenIn n_width n_first n_step n_kind n_columns)) sz) (va_Qv (fun u : (Nat → Int64) × (Nat → Int32) × Int32 × Int32 × Int32 => k u.1 u.2.1 u.2.2.1 u.2.2.2.1 u.2.2.2.2) (fun u t => PostB g (va_A (wW g wq w_wanted w_loadAt w_passedIn w_secondArm w_power w_limit w_wantedSpeed w_angle w_speed w_load w_ticks ++ (wS g nq n_pictureCount n_angle n_speed n_ticks n_load n_secondArm n_settings n_working n_written n_writtenIn n_width n_first n_step n_kind n_columns)) sz) (wW g wq u.1 u.2.1 w_passedIn u.2.2.1 u.2.2.2.1 u.2.2.2.2 w_wantedSpeed w_angle w_speed w_load w_ticks ++ (wS g nq n_pictureCount n_angle n_speed n_ticks n_load n_secondArm n_settings n_working n_written n_writtenIn n_width n_first n_step n_kind n_columns)) t) (va_A (wW g wq w_wanted w_loadAt w_passedIn w_secondArm w_power w_limit w_wantedSpeed w_angle w_speed w_load w_ticks ++ (wS g nq n_pictureCount n_angle n_speed n_ticks n_load n_secondArm n_settings n_working n_written n_writtenIn n_width n_first n_step n_kind n_columns)) sz)) 0 0 (va_A (wW g wq w_wanted w_loadAt w_passedIn w_secondArm w_power w_limit w_wantedSpeed w_angle w_speed w_load w_ticks ++ (wS g nq n_pictureCount n_angle n_speed n_ticks n_load n_secondArm n_settings n_working n_written n_writtenIn n_width n_first n_step n_kind n_columns)) sz) := by
  refine Met.ofW (cc := cX3_prepare) (maxL := 3) (ret := none) (by decide) rfl ?_
  intro p e s m args below meth c s₁ B hml hv
  obtain ⟨rfl, hsz, hP, hK, hD0⟩ := hv
  have hx := B.exec
  have hb := B.bytes
  have hr := B.returns
  have hts := atoms_spec (ws := wsX3_prepare) B.pre
  have hown : s.vm.findClass RX3 = some m.cls := findClass_of_methodNamed B.named
  have hlocks := B.notSynchronized
  have iX2 : ∀ w ∈ wsX20, w ∈ wsX3_prepare := by decide +kernel
  have iX3 : ∀ w ∈ wsX30, w ∈ wsX3_prepare := by decide +kernel
  subst hsz
  have hD := hD0.self (sz := s.heap.size)
  generalize hAe : va_A (wW g wq w_wanted w_loadAt w_passedIn w_secondArm w_power w_limit w_wantedSpeed w_angle w_speed w_load w_ticks ++ (wS g nq n_pictureCount n_angle n_speed n_ticks n_load n_secondArm n_settings n_working n_written n_writtenIn n_width n_first n_step n_kind n_columns)) s.heap.size = A at hD ⊢
  have hA : ∀ q : Nat, s.heap.size ≤ q → A q := fun q h => by rw [← hAe]; exact Or.inr h
  clear hAe hD0
  have hS : va_S A s.heap s.heap [] := va_S.rf
  have hl := lv_entry ([.ref (wq 0), .ref (nq 0)]) (n := 3) (Nat.le_of_ble_eq_true rfl)
  rw [lg_entry_eq]
  generalize (lg_sl ([.ref (wq 0), .ref (nq 0)]) ++ List.replicate (3 - (lg_sl ([.ref (wq 0), .ref (nq 0)])).length) Slot.unset).toArray = ls at hl ⊢
  have hl : lv_has ls 3 [(0, .ref (wq 0)), (1, .ref (nq 0))] := hl
  unfold PX3_prepare at h
  obtain ⟨H, hHe⟩ : ∃ y, y = s.heap := ⟨_, rfl⟩
  rw [← hHe] at hP
  have hS : va_S A s.heap H [] := by rw [hHe]; exact hS
  have hW0 : ∀ (Q : State → Prop), W p l e (headSpec wsX3_prepare ({ frames := 5, cells := 0, slots := 0, locals := 107 })).room s m ([.ref (wq 0), .ref (nq 0)] : List Value).toArray below meth c H [] 0 0 Q (F0 m 0 ls []) → W p l e (headSpec wsX3_prepare ({ frames := 5, cells := 0, slots := 0, locals := 107 })).room s m ([.ref (wq 0), .ref (nq 0)] : List Value).toArray below meth c s.heap [] 0 0 Q (F0 m 0 ls []) := by rw [hHe]; exact fun _ h9 => h9
  refine hW0 _ ?_
  clear hW0 hHe
  generalize ([] : List Loc) = locs at hS ⊢
  refine lv_aload_n hx hb dX3_prepare_0 rfl (lv_at hl 0 rfl) ?_
  refine lv_aload_n hx hb dX3_prepare_1 rfl (lv_at hl 1 rfl) ?_
  refine va_get (D := g.1) (ci := 2) (v := .int n_secondArm) (C := RX2) (T := TX2) (N := 11) hx hb hts iX2 hown hK.1 hP 4 rfl rfl 6 (by decide) (hts (.fieldLink RX3 22 "LightWheel$State" "secondArm" "I") (by decide +kernel)) (fun _ h9 => h9) rfl dX3_prepare_2 ?_
  refine lv_iconst (v := (1 : Int32)) hx hb dX3_prepare_5 (by decide) ?_
  have tail_1 : ∀ (t_1 : Int32) (H : Heap) (locs : List Loc) (ls : Array Slot), PX3_prepare_J1 w_wanted w_loadAt n_pictureCount n_settings n_working n_width n_first n_step n_kind n_columns k t_1 → va_P g.1 vwCl (wW g wq w_wanted w_loadAt w_passedIn w_secondArm w_power w_limit w_wantedSpeed w_angle w_speed w_load w_ticks ++ (wS g nq n_pictureCount n_angle n_speed n_ticks n_load n_secondArm n_settings n_working n_written n_writtenIn n_width n_first n_step n_kind n_columns)) H → va_D A (wW g wq w_wanted w_loadAt w_passedIn w_secondArm w_power w_limit w_wantedSpeed w_angle w_speed w_load w_ticks ++ (wS g nq n_pictureCount n_angle n_speed n_ticks n_load n_secondArm n_settings n_working n_written n_writtenIn n_width n_first n_step n_kind n_columns)) → va_S A s.heap H locs → lv_has ls 3 [(0, .ref (wq 0)), (1, .ref (nq 0))] → W p l e (headSpec wsX3_prepare ({ frames := 5, cells := 0, slots := 0, locals := 107 })).room s m ([.ref (wq 0), .ref (nq 0)] : List Value).toArray below meth c H locs 0 0 (MQ below (va_Qv (fun u : (Nat → Int64) × (Nat → Int32) × Int32 × Int32 × Int32 => k u.1 u.2.1 u.2.2.1 u.2.2.2.1 u.2.2.2.2) (fun u t => PostB g A (wW g wq u.1 u.2.1 w_passedIn u.2.2.1 u.2.2.2.1 u.2.2.2.2 w_wantedSpeed w_angle w_speed w_load w_ticks ++ (wS g nq n_pictureCount n_angle n_speed n_ticks n_load n_secondArm n_settings n_working n_written n_writtenIn n_width n_first n_step n_kind n_columns)) t) A) ([.ref (wq 0), .ref (nq 0)] : List Value).toArray s 0 0 A) (F0 m 14 ls [.int t_1, .ref (wq 0)]) := by
    intro t_1 H locs ls h hP hD hS hl
    unfold PX3_prepare_J1 at h
    have o_14_1 := h.1
    replace h := h.2
    refine va_put (D := g.1) (ci := 3) (v := .int t_1) (ty := .boolean) (C := RX3) (T := TX3) (N := 11) hx hb hts iX3 tyX3 tyX3_ok nmX3 hown hK.1 hP hD hS 0 rfl rfl 3 (by decide) (hts (.fieldLink RX3 28 "LightWheel$Sweep" "secondArm" "Z") (by decide +kernel)) (fun _ h9 => h9) rfl (by decide +kernel) (by rcases o_14_1 with e9 | e9 <;> rw [e9] <;> rfl) (by rcases o_14_1 with e9 | e9 <;> rw [e9] <;> rfl) (Nat.le_of_ble_eq_true rfl) dX3_prepare_14 (fun H locs hP hD hS => ?_)
    have hP : va_P g.1 vwCl (wW g wq w_wanted w_loadAt w_passedIn t_1 w_power w_limit w_wantedSpeed w_angle w_speed w_load w_ticks ++ (wS g nq n_pictureCount n_angle n_speed n_ticks n_load n_secondArm n_settings n_working n_written n_writtenIn n_width n_first n_step n_kind n_columns)) H := hP
    have hD : va_D A (wW g wq w_wanted w_loadAt w_passedIn t_1 w_power w_limit w_wantedSpeed w_angle w_speed w_load w_ticks ++ (wS g nq n_pictureCount n_angle n_speed n_ticks n_load n_secondArm n_settings n_working n_written n_writtenIn n_width n_first n_step n_kind n_columns)) := hD
    refine lv_aload_n hx hb dX3_prepare_17 rfl (lv_at hl 0 rfl) ?_
    refine lv_aload_n hx hb dX3_prepare_18 rfl (lv_at hl 1 rfl) ?_
    refine va_get (D := g.1) (ci := 2) (v := .ref (nq 2)) (C := RX2) (T := TX2) (N := 11) hx hb hts iX2 hown hK.1 hP 4 rfl rfl 7 (by decide) (hts (.fieldLink RX3 31 "LightWheel$State" "settings" "[I") (by decide +kernel)) (fun _ h9 => h9) rfl dX3_prepare_19 ?_
    refine lv_iconst (v := (1 : Int32)) hx hb dX3_prepare_22 (by decide) ?_
    refine xr_iald hx hb hK.1 hP 6 0 rfl rfl 1 rfl (Nat.le_of_ble_eq_true rfl) (Nat.le_of_ble_eq_true rfl) dX3_prepare_23 ?_
    refine lv_topi (fun f_power_3 e_f_power_3 => ?_)
    replace h := h f_power_3 e_f_power_3
    refine va_put (D := g.1) (ci := 3) (v := .int f_power_3) (ty := .int) (C := RX3) (T := TX3) (N := 11) hx hb hts iX3 tyX3 tyX3_ok nmX3 hown hK.1 hP hD hS 0 rfl rfl 4 (by decide) (hts (.fieldLink RX3 34 "LightWheel$Sweep" "power" "I") (by decide +kernel)) (fun _ h9 => h9) rfl (by decide +kernel) rfl rfl (Nat.le_of_ble_eq_true rfl) dX3_prepare_24 (fun H locs hP hD hS => ?_)
    have hP : va_P g.1 vwCl (wW g wq w_wanted w_loadAt w_passedIn t_1 f_power_3 w_limit w_wantedSpeed w_angle w_speed w_load w_ticks ++ (wS g nq n_pictureCount n_angle n_speed n_ticks n_load n_secondArm n_settings n_working n_written n_writtenIn n_width n_first n_step n_kind n_columns)) H := hP
    have hD : va_D A (wW g wq w_wanted w_loadAt w_passedIn t_1 f_power_3 w_limit w_wantedSpeed w_angle w_speed w_load w_ticks ++ (wS g nq n_pictureCount n_angle n_speed n_ticks n_load n_secondArm n_settings n_working n_written n_writtenIn n_width n_first n_step n_kind n_columns)) := hD
    refine lv_aload_n hx hb dX3_prepare_27 rfl (lv_at hl 0 rfl) ?_
    refine lv_aload_n hx hb dX3_prepare_28 rfl (lv_at hl 1 rfl) ?_
    refine va_get (D := g.1) (ci := 2) (v := .ref (nq 2)) (C := RX2) (T := TX2) (N := 11) hx hb hts iX2 hown hK.1 hP 4 rfl rfl 7 (by decide) (hts (.fieldLink RX3 31 "LightWheel$State" "settings" "[I") (by decide +kernel)) (fun _ h9 => h9) rfl dX3_prepare_29 ?_
    refine lv_iconst (v := (2 : Int32)) hx hb dX3_prepare_32 (by decide) ?_
    refine xr_iald hx hb hK.1 hP 6 0 rfl rfl 2 rfl (Nat.le_of_ble_eq_true rfl) (Nat.le_of_ble_eq_true rfl) dX3_prepare_33 ?_
    refine lv_topi (fun f_limit_4 e_f_limit_4 => ?_)
    replace h := h f_limit_4 e_f_limit_4
    refine va_put (D := g.1) (ci := 3) (v := .int f_limit_4) (ty := .int) (C := RX3) (T := TX3) (N := 11) hx hb hts iX3 tyX3 tyX3_ok nmX3 hown hK.1 hP hD hS 0 rfl rfl 5 (by decide) (hts (.fieldLink RX3 37 "LightWheel$Sweep" "limit" "I") (by decide +kernel)) (fun _ h9 => h9) rfl (by decide +kernel) rfl rfl (Nat.le_of_ble_eq_true rfl) dX3_prepare_34 (fun H locs hP hD hS => ?_)
    have hP : va_P g.1 vwCl (wW g wq w_wanted w_loadAt w_passedIn t_1 f_power_3 f_limit_4 w_wantedSpeed w_angle w_speed w_load w_ticks ++ (wS g nq n_pictureCount n_angle n_speed n_ticks n_load n_secondArm n_settings n_working n_written n_writtenIn n_width n_first n_step n_kind n_columns)) H := hP
    have hD : va_D A (wW g wq w_wanted w_loadAt w_passedIn t_1 f_power_3 f_limit_4 w_wantedSpeed w_angle w_speed w_load w_ticks ++ (wS g nq n_pictureCount n_angle n_speed n_ticks n_load n_secondArm n_settings n_working n_written n_writtenIn n_width n_first n_step n_kind n_columns)) := hD
    refine lv_iconst (v := (0 : Int32)) hx hb dX3_prepare_37 (by decide) ?_
    refine lv_istore_n (lv' := [(2, .int (0 : Int32)), (0, .ref (wq 0)), (1, .ref (nq 0))]) hx hb dX3_prepare_38 rfl hl (by decide) rfl (fun ls hl => ?_)
    have loop_2 : ∀ (kx_2 : Int32 → (Nat → Int64) → Prop), (∀ (v2_5 : Int32) (w_wanted_6 : Nat → Int64) (H : Heap) (locs : List Loc) (ls : Array Slot), kx_2 v2_5 w_wanted_6 → va_P g.1 vwCl (wW g wq w_wanted_6 w_loadAt w_passedIn t_1 f_power_3 f_limit_4 w_wantedSpeed w_angle w_speed w_load w_ticks ++ (wS g nq n_pictureCount n_angle n_speed n_ticks n_load n_secondArm n_settings n_working n_written n_writtenIn n_width n_first n_step n_kind n_columns)) H → va_D A (wW g wq w_wanted_6 w_loadAt w_passedIn t_1 f_power_3 f_limit_4 w_wantedSpeed w_angle w_speed w_load w_ticks ++ (wS g nq n_pictureCount n_angle n_speed n_ticks n_load n_secondArm n_settings n_working n_written n_writtenIn n_width n_first n_step n_kind n_columns)) → va_S A s.heap H locs → lv_has ls 3 [(2, .int v2_5), (0, .ref (wq 0)), (1, .ref (nq 0))] → W p l e (headSpec wsX3_prepare ({ frames := 5, cells := 0, slots := 0, locals := 107 })).room s m ([.ref (wq 0), .ref (nq 0)] : List Value).toArray below meth c H locs 0 0 (MQ below (va_Qv (fun u : (Nat → Int64) × (Nat → Int32) × Int32 × Int32 × Int32 => k u.1 u.2.1 u.2.2.1 u.2.2.2.1 u.2.2.2.2) (fun u t => PostB g A (wW g wq u.1 u.2.1 w_passedIn u.2.2.1 u.2.2.2.1 u.2.2.2.2 w_wantedSpeed w_angle w_speed w_load w_ticks ++ (wS g nq n_pictureCount n_angle n_speed n_ticks n_load n_secondArm n_settings n_working n_written n_writtenIn n_width n_first n_step n_kind n_columns)) t) A) ([.ref (wq 0), .ref (nq 0)] : List Value).toArray s 0 0 A) (F0 m 63 ls [])) → ∀ (n_2 : Nat) (v2_5 : Int32) (w_wanted_6 : Nat → Int64) (H : Heap) (locs : List Loc) (ls : Array Slot), PX3_prepare_L2 n_pictureCount n_width n_first n_step n_kind n_columns kx_2 n_2 v2_5 w_wanted_6 → va_P g.1 vwCl (wW g wq w_wanted_6 w_loadAt w_passedIn t_1 f_power_3 f_limit_4 w_wantedSpeed w_angle w_speed w_load w_ticks ++ (wS g nq n_pictureCount n_angle n_speed n_ticks n_load n_secondArm n_settings n_working n_written n_writtenIn n_width n_first n_step n_kind n_columns)) H → va_D A (wW g wq w_wanted_6 w_loadAt w_passedIn t_1 f_power_3 f_limit_4 w_wantedSpeed w_angle w_speed w_load w_ticks ++ (wS g nq n_pictureCount n_angle n_speed n_ticks n_load n_secondArm n_settings n_working n_written n_writtenIn n_width n_first n_step n_kind n_columns)) → va_S A s.heap H locs → lv_has ls 3 [(2, .int v2_5), (0, .ref (wq 0)), (1, .ref (nq 0))] → W p l e (headSpec wsX3_prepare ({ frames := 5, cells := 0, slots := 0, locals := 107 })).room s m ([.ref (wq 0), .ref (nq 0)] : List Value).toArray below meth c H locs 0 0 (MQ below (va_Qv (fun u : (Nat → Int64) × (Nat → Int32) × Int32 × Int32 × Int32 => k u.1 u.2.1 u.2.2.1 u.2.2.2.1 u.2.2.2.2) (fun u t => PostB g A (wW g wq u.1 u.2.1 w_passedIn u.2.2.1 u.2.2.2.1 u.2.2.2.2 w_wantedSpeed w_angle w_speed w_load w_ticks ++ (wS g nq n_pictureCount n_angle n_speed n_ticks n_load n_secondArm n_settings n_working n_written n_writtenIn n_width n_first n_step n_kind n_columns)) t) A) ([.ref (wq 0), .ref (nq 0)] : List Value).toArray s 0 0 A) (F0 m 39 ls []) := by
      intro kx_2 hexit_2 n_2
      induction n_2 with
      | zero => exact fun _ _ _ _ _ h _ _ _ _ => (h : False).elim
      | succ n_2 ih_2 =>
        intro v2_5 w_wanted_6 H locs ls h hP hD hS hl
        unfold PX3_prepare_L2 at h
        refine lv_iload_n hx hb dX3_prepare_39 rfl (lv_at hl 0 rfl) ?_
        refine lv_sipush (v := (720 : Int32)) hx hb dX3_prepare_40 (by decide) ?_
        refine lv_icmp_ge (tgt := 63) hx hb dX3_prepare_43 (by decide) (fun c_43_6 => ?_) (fun c_43_6 => ?_)
        · replace h := h.1 c_43_6
          exact hexit_2 v2_5 w_wanted_6 H locs ls h hP hD hS (lv_sub hl [0, 1, 2] rfl)
        · replace h := h.2 c_43_6
          refine lv_aload_n hx hb dX3_prepare_46 rfl (lv_at hl 1 rfl) ?_
          refine va_get (D := g.1) (ci := 3) (v := .ref (wq 1)) (C := RX3) (T := TX3) (N := 11) hx hb hts iX3 hown hK.1 hP 0 rfl rfl 0 (by decide) (hts (.fieldLink RX3 9 "LightWheel$Sweep" "wanted" "[J") (by decide +kernel)) (fun _ h9 => h9) rfl dX3_prepare_47 ?_
          refine lv_iload_n hx hb dX3_prepare_50 rfl (lv_at hl 0 rfl) ?_
          refine lv_aload_n hx hb dX3_prepare_51 rfl (lv_at hl 2 rfl) ?_
          refine lv_iload_n hx hb dX3_prepare_52 rfl (lv_at hl 0 rfl) ?_
          have hPc : va_P g.1 vwCl (wS g nq n_pictureCount n_angle n_speed n_ticks n_load n_secondArm n_settings n_working n_written n_writtenIn n_width n_first n_step n_kind n_columns) H := hP.sub [4, 5, 6, 7, 8, 9, 10, 11, 12, 13, 14, 15, 16, 17] rfl
          refine vp_callSl (W.runV (As := [.int v2_5]) (rest := [.int v2_5, .ref (wq 1)]) ⟨hx, hb, hml, hown, hts⟩ (kX2_wantedAt l g nq n_pictureCount n_angle n_speed n_ticks n_load n_secondArm n_settings n_working n_written n_writtenIn n_width n_first n_step n_kind n_columns v2_5 _ h) (cwV 1 hts gX3_prepare_X2_wantedAt rfl rfl rfl hdX2_wantedAt ⟨(Nat.le_of_ble_eq_true rfl), (Nat.le_of_ble_eq_true rfl)⟩) (preV_R (r := (RX2, TX2, 11)) hK hPc (ci := 2) (q0 := 0) rfl rfl) rfl rfl hl.1 rfl (lv_room (Nat.le_of_ble_eq_true rfl)) dX3_prepare_53 ⟨(Nat.le_of_ble_eq_true rfl), (Nat.le_of_ble_eq_true rfl)⟩) (fun r53_8 h => ?_)
          have o_56_8 := h.1
          replace h := h.2
          refine xs_last hx hb hK.1 hP hD hS 1 1 rfl rfl o_56_8 dX3_prepare_56 (fun w_wanted_10 e_w_wanted_10 H locs hP hD hS => ?_)
          replace h := h w_wanted_10 e_w_wanted_10
          have hP : va_P g.1 vwCl (wW g wq w_wanted_10 w_loadAt w_passedIn t_1 f_power_3 f_limit_4 w_wantedSpeed w_angle w_speed w_load w_ticks ++ (wS g nq n_pictureCount n_angle n_speed n_ticks n_load n_secondArm n_settings n_working n_written n_writtenIn n_width n_first n_step n_kind n_columns)) H := hP
          have hD : va_D A (wW g wq w_wanted_10 w_loadAt w_passedIn t_1 f_power_3 f_limit_4 w_wantedSpeed w_angle w_speed w_load w_ticks ++ (wS g nq n_pictureCount n_angle n_speed n_ticks n_load n_secondArm n_settings n_working n_written n_writtenIn n_width n_first n_step n_kind n_columns)) := hD
          obtain ⟨v2_11, e_v2_11⟩ : ∃ y : Int32, y = v2_5 + (1 : Int32) := ⟨_, rfl⟩
          replace h := h v2_11 e_v2_11
          refine lv_iinc (v := v2_11) (lv' := [(2, .int v2_11), (0, .ref (wq 0)), (1, .ref (nq 0))]) hx hb dX3_prepare_57 hl (k := 0) rfl (by rw [e_v2_11]; rfl) (by decide) rfl (fun ls hl => ?_)
          refine lv_goto (tgt := 39) hx hb dX3_prepare_60 (by decide) ?_
          exact ih_2 v2_11 w_wanted_10 H locs ls h hP hD hS (lv_sub hl [0, 1, 2] rfl)
    obtain ⟨n_2, h⟩ := h
    refine loop_2 _ ?_ n_2 (0 : Int32) w_wanted _ _ ls h hP hD hS (lv_sub hl [0, 1, 2] rfl)
    intro v2_5 w_wanted_6 H locs ls h hP hD hS hl
    refine lv_iconst (v := (0 : Int32)) hx hb dX3_prepare_63 (by decide) ?_
    refine lv_istore_n (lv' := [(2, .int (0 : Int32)), (0, .ref (wq 0)), (1, .ref (nq 0))]) hx hb dX3_prepare_64 rfl hl (by decide) rfl (fun ls hl => ?_)
    have loop_3 : ∀ (kx_3 : Int32 → (Nat → Int32) → Prop), (∀ (v2_12 : Int32) (w_loadAt_13 : Nat → Int32) (H : Heap) (locs : List Loc) (ls : Array Slot), kx_3 v2_12 w_loadAt_13 → va_P g.1 vwCl (wW g wq w_wanted_6 w_loadAt_13 w_passedIn t_1 f_power_3 f_limit_4 w_wantedSpeed w_angle w_speed w_load w_ticks ++ (wS g nq n_pictureCount n_angle n_speed n_ticks n_load n_secondArm n_settings n_working n_written n_writtenIn n_width n_first n_step n_kind n_columns)) H → va_D A (wW g wq w_wanted_6 w_loadAt_13 w_passedIn t_1 f_power_3 f_limit_4 w_wantedSpeed w_angle w_speed w_load w_ticks ++ (wS g nq n_pictureCount n_angle n_speed n_ticks n_load n_secondArm n_settings n_working n_written n_writtenIn n_width n_first n_step n_kind n_columns)) → va_S A s.heap H locs → lv_has ls 3 [(2, .int v2_12), (0, .ref (wq 0)), (1, .ref (nq 0))] → W p l e (headSpec wsX3_prepare ({ frames := 5, cells := 0, slots := 0, locals := 107 })).room s m ([.ref (wq 0), .ref (nq 0)] : List Value).toArray below meth c H locs 0 0 (MQ below (va_Qv (fun u : (Nat → Int64) × (Nat → Int32) × Int32 × Int32 × Int32 => k u.1 u.2.1 u.2.2.1 u.2.2.2.1 u.2.2.2.2) (fun u t => PostB g A (wW g wq u.1 u.2.1 w_passedIn u.2.2.1 u.2.2.2.1 u.2.2.2.2 w_wantedSpeed w_angle w_speed w_load w_ticks ++ (wS g nq n_pictureCount n_angle n_speed n_ticks n_load n_secondArm n_settings n_working n_written n_writtenIn n_width n_first n_step n_kind n_columns)) t) A) ([.ref (wq 0), .ref (nq 0)] : List Value).toArray s 0 0 A) (F0 m 141 ls [])) → ∀ (n_3 : Nat) (v2_12 : Int32) (w_loadAt_13 : Nat → Int32) (H : Heap) (locs : List Loc) (ls : Array Slot), PX3_prepare_L3 n_working t_1 w_wanted_6 kx_3 n_3 v2_12 w_loadAt_13 → va_P g.1 vwCl (wW g wq w_wanted_6 w_loadAt_13 w_passedIn t_1 f_power_3 f_limit_4 w_wantedSpeed w_angle w_speed w_load w_ticks ++ (wS g nq n_pictureCount n_angle n_speed n_ticks n_load n_secondArm n_settings n_working n_written n_writtenIn n_width n_first n_step n_kind n_columns)) H → va_D A (wW g wq w_wanted_6 w_loadAt_13 w_passedIn t_1 f_power_3 f_limit_4 w_wantedSpeed w_angle w_speed w_load w_ticks ++ (wS g nq n_pictureCount n_angle n_speed n_ticks n_load n_secondArm n_settings n_working n_written n_writtenIn n_width n_first n_step n_kind n_columns)) → va_S A s.heap H locs → lv_has ls 3 [(2, .int v2_12), (0, .ref (wq 0)), (1, .ref (nq 0))] → W p l e (headSpec wsX3_prepare ({ frames := 5, cells := 0, slots := 0, locals := 107 })).room s m ([.ref (wq 0), .ref (nq 0)] : List Value).toArray below meth c H locs 0 0 (MQ below (va_Qv (fun u : (Nat → Int64) × (Nat → Int32) × Int32 × Int32 × Int32 => k u.1 u.2.1 u.2.2.1 u.2.2.2.1 u.2.2.2.2) (fun u t => PostB g A (wW g wq u.1 u.2.1 w_passedIn u.2.2.1 u.2.2.2.1 u.2.2.2.2 w_wantedSpeed w_angle w_speed w_load w_ticks ++ (wS g nq n_pictureCount n_angle n_speed n_ticks n_load n_secondArm n_settings n_working n_written n_writtenIn n_width n_first n_step n_kind n_columns)) t) A) ([.ref (wq 0), .ref (nq 0)] : List Value).toArray s 0 0 A) (F0 m 65 ls []) := by
      intro kx_3 hexit_3 n_3
      induction n_3 with
      | zero => exact fun _ _ _ _ _ h _ _ _ _ => (h : False).elim
      | succ n_3 ih_3 =>
        intro v2_12 w_loadAt_13 H locs ls h hP hD hS hl
        unfold PX3_prepare_L3 at h
        refine lv_iload_n hx hb dX3_prepare_65 rfl (lv_at hl 0 rfl) ?_
        refine lv_sipush (v := (720 : Int32)) hx hb dX3_prepare_66 (by decide) ?_
        refine lv_icmp_ge (tgt := 141) hx hb dX3_prepare_69 (by decide) (fun c_69_13 => ?_) (fun c_69_13 => ?_)
        · replace h := h.1 c_69_13
          exact hexit_3 v2_12 w_loadAt_13 H locs ls h hP hD hS (lv_sub hl [0, 1, 2] rfl)
        · replace h := h.2 c_69_13
          refine lv_aload_n hx hb dX3_prepare_72 rfl (lv_at hl 1 rfl) ?_
          refine va_get (D := g.1) (ci := 3) (v := .ref (wq 2)) (C := RX3) (T := TX3) (N := 11) hx hb hts iX3 hown hK.1 hP 0 rfl rfl 1 (by decide) (hts (.fieldLink RX3 15 "LightWheel$Sweep" "loadAt" "[I") (by decide +kernel)) (fun _ h9 => h9) rfl dX3_prepare_73 ?_
          refine lv_iload_n hx hb dX3_prepare_76 rfl (lv_at hl 0 rfl) ?_
          refine lv_aload_n hx hb dX3_prepare_77 rfl (lv_at hl 1 rfl) ?_
          refine va_get (D := g.1) (ci := 3) (v := .ref (wq 1)) (C := RX3) (T := TX3) (N := 11) hx hb hts iX3 hown hK.1 hP 0 rfl rfl 0 (by decide) (hts (.fieldLink RX3 9 "LightWheel$Sweep" "wanted" "[J") (by decide +kernel)) (fun _ h9 => h9) rfl dX3_prepare_78 ?_
          refine lv_iload_n hx hb dX3_prepare_81 rfl (lv_at hl 0 rfl) ?_
          have o_82_14 := h.1
          replace h := h.2
          refine va_lald hx hb hK.1 hP 1 1 rfl rfl o_82_14 dX3_prepare_82 ?_
          refine vp_callSl (va_Run.run (va_runSN (As := [.long (w_wanted_6 (Int32.toNatClampNeg v2_12))]) (rest := [.int v2_12, .ref (wq 2)]) ⟨hx, hb, hml, hown, hts⟩ (kX4_notDark l g  (w_wanted_6 (Int32.toNatClampNeg v2_12)) _ h) ⟨va_cnB 1 hts gX3_prepare_X4_notDark_n44 rfl rfl rfl hK.2.2.2.2.1 (hts (.initialized RX4) (by decide +kernel)) hdX4_notDark.2 ⟨(Nat.le_of_ble_eq_true rfl), (Nat.le_of_ble_eq_true rfl)⟩, hts (.static yX4_notDark) (by decide +kernel), trivial⟩ (preS_R hK (va_P_nil (D := g.1) (cl := vwCl))) rfl rfl hl.1 rfl (lv_room (Nat.le_of_ble_eq_true rfl)) dX3_prepare_83 ⟨(Nat.le_of_ble_eq_true rfl), (Nat.le_of_ble_eq_true rfl)⟩)) (fun r83_16 h => ?_)
          refine lv_aload_n hx hb dX3_prepare_86 rfl (lv_at hl 2 rfl) ?_
          refine va_get (D := g.1) (ci := 2) (v := .ref (nq 3)) (C := RX2) (T := TX2) (N := 11) hx hb hts iX2 hown hK.1 hP 4 rfl rfl 8 (by decide) (hts (.fieldLink RX3 48 "LightWheel$State" "working" "[J") (by decide +kernel)) (fun _ h9 => h9) rfl dX3_prepare_87 ?_
          refine lv_iconst (v := (0 : Int32)) hx hb dX3_prepare_90 (by decide) ?_
          refine xr_lald hx hb hK.1 hP 7 1 rfl rfl 0 rfl (Nat.le_of_ble_eq_true rfl) (Nat.le_of_ble_eq_true rfl) dX3_prepare_91 ?_
          refine lv_land hx hb dX3_prepare_92 ?_
          refine vp_callSi (W.runS (As := [.long (r83_16 &&& (n_working 0))]) (rest := [.int v2_12, .ref (wq 2)]) ⟨hx, hb, hml, hown, hts⟩ (kJ13_bitCount_95d88 l g  (r83_16 &&& (n_working 0)) _ h) (va_cwS 1 hts gX3_prepare_J13_bitCount_95d88 rfl rfl rfl hdJ13_bitCount_95d88.2 ⟨(Nat.le_of_ble_eq_true rfl), (Nat.le_of_ble_eq_true rfl)⟩) (preS_R hK (va_P_nil (D := g.1) (cl := vwCl))) rfl rfl hl.1 rfl (lv_room (Nat.le_of_ble_eq_true rfl)) dX3_prepare_93 ⟨(Nat.le_of_ble_eq_true rfl), (Nat.le_of_ble_eq_true rfl)⟩) (fun r93_17 h => ?_)
          have o_96_17 := h.1
          replace h := h.2
          refine xs_iast hx hb hK.1 hP hD hS 2 0 rfl rfl o_96_17 dX3_prepare_96 (fun w_loadAt_19 e_w_loadAt_19 H locs hP hD hS => ?_)
          replace h := h w_loadAt_19 e_w_loadAt_19
          have hP : va_P g.1 vwCl (wW g wq w_wanted_6 w_loadAt_19 w_passedIn t_1 f_power_3 f_limit_4 w_wantedSpeed w_angle w_speed w_load w_ticks ++ (wS g nq n_pictureCount n_angle n_speed n_ticks n_load n_secondArm n_settings n_working n_written n_writtenIn n_width n_first n_step n_kind n_columns)) H := hP
          have hD : va_D A (wW g wq w_wanted_6 w_loadAt_19 w_passedIn t_1 f_power_3 f_limit_4 w_wantedSpeed w_angle w_speed w_load w_ticks ++ (wS g nq n_pictureCount n_angle n_speed n_ticks n_load n_secondArm n_settings n_working n_written n_writtenIn n_width n_first n_step n_kind n_columns)) := hD
          refine lv_aload_n hx hb dX3_prepare_97 rfl (lv_at hl 1 rfl) ?_
          refine va_get (D := g.1) (ci := 3) (v := .int t_1) (C := RX3) (T := TX3) (N := 11) hx hb hts iX3 hown hK.1 hP 0 rfl rfl 3 (by decide) (hts (.fieldLink RX3 28 "LightWheel$Sweep" "secondArm" "Z") (by decide +kernel)) (fun _ h9 => h9) rfl dX3_prepare_98 ?_
          refine lv_if_eq (tgt := 135) hx hb dX3_prepare_101 (by decide) (fun c_101_19 => ?_) (fun c_101_19 => ?_)
          · replace h := h.1 c_101_19
            obtain ⟨v2_21, e_v2_21⟩ : ∃ y : Int32, y = v2_12 + (1 : Int32) := ⟨_, rfl⟩
            replace h := h v2_21 e_v2_21
            refine lv_iinc (v := v2_21) (lv' := [(2, .int v2_21), (0, .ref (wq 0)), (1, .ref (nq 0))]) hx hb dX3_prepare_135 hl (k := 0) rfl (by rw [e_v2_21]; rfl) (by decide) rfl (fun ls hl => ?_)
            refine lv_goto (tgt := 65) hx hb dX3_prepare_138 (by decide) ?_
            exact ih_3 v2_21 w_loadAt_19 H locs ls h hP hD hS (lv_sub hl [0, 1, 2] rfl)
          · replace h := h.2 c_101_19
            refine lv_aload_n hx hb dX3_prepare_104 rfl (lv_at hl 1 rfl) ?_
            refine va_get (D := g.1) (ci := 3) (v := .ref (wq 2)) (C := RX3) (T := TX3) (N := 11) hx hb hts iX3 hown hK.1 hP 0 rfl rfl 1 (by decide) (hts (.fieldLink RX3 15 "LightWheel$Sweep" "loadAt" "[I") (by decide +kernel)) (fun _ h9 => h9) rfl dX3_prepare_105 ?_
            refine lv_iload_n hx hb dX3_prepare_108 rfl (lv_at hl 0 rfl) ?_
            refine lv_dup2_11 hx hb dX3_prepare_109 rfl rfl ?_
            have o_110_21 := h.1
            replace h := h.2
            refine va_iald hx hb hK.1 hP 2 0 rfl rfl o_110_21 dX3_prepare_110 ?_
            refine lv_aload_n hx hb dX3_prepare_111 rfl (lv_at hl 1 rfl) ?_
            refine va_get (D := g.1) (ci := 3) (v := .ref (wq 1)) (C := RX3) (T := TX3) (N := 11) hx hb hts iX3 hown hK.1 hP 0 rfl rfl 0 (by decide) (hts (.fieldLink RX3 9 "LightWheel$Sweep" "wanted" "[J") (by decide +kernel)) (fun _ h9 => h9) rfl dX3_prepare_112 ?_
            refine lv_iload_n hx hb dX3_prepare_115 rfl (lv_at hl 0 rfl) ?_
            refine vp_callSi (W.runS (As := [.int v2_12]) (rest := [.ref (wq 1), .int (w_loadAt_19 (Int32.toNatClampNeg v2_12)), .int v2_12, .ref (wq 2)]) ⟨hx, hb, hml, hown, hts⟩ (kX3_opposite l g  v2_12 _ h) (va_cwS 1 hts gX3_prepare_X3_opposite rfl rfl rfl hdX3_opposite.2 ⟨(Nat.le_of_ble_eq_true rfl), (Nat.le_of_ble_eq_true rfl)⟩) (preS_R hK (va_P_nil (D := g.1) (cl := vwCl))) rfl rfl hl.1 rfl (lv_room (Nat.le_of_ble_eq_true rfl)) dX3_prepare_116 ⟨(Nat.le_of_ble_eq_true rfl), (Nat.le_of_ble_eq_true rfl)⟩) (fun r116_23 h => ?_)
            have o_119_23 := h.1
            replace h := h.2
            refine va_lald hx hb hK.1 hP 1 1 rfl rfl o_119_23 dX3_prepare_119 ?_
            refine vp_callSl (va_Run.run (va_runSN (As := [.long (w_wanted_6 (Int32.toNatClampNeg r116_23))]) (rest := [.int (w_loadAt_19 (Int32.toNatClampNeg v2_12)), .int v2_12, .ref (wq 2)]) ⟨hx, hb, hml, hown, hts⟩ (kX4_notDark l g  (w_wanted_6 (Int32.toNatClampNeg r116_23)) _ h) ⟨va_cnB 1 hts gX3_prepare_X4_notDark_n44 rfl rfl rfl hK.2.2.2.2.1 (hts (.initialized RX4) (by decide +kernel)) hdX4_notDark.2 ⟨(Nat.le_of_ble_eq_true rfl), (Nat.le_of_ble_eq_true rfl)⟩, hts (.static yX4_notDark) (by decide +kernel), trivial⟩ (preS_R hK (va_P_nil (D := g.1) (cl := vwCl))) rfl rfl hl.1 rfl (lv_room (Nat.le_of_ble_eq_true rfl)) dX3_prepare_120 ⟨(Nat.le_of_ble_eq_true rfl), (Nat.le_of_ble_eq_true rfl)⟩)) (fun r120_25 h => ?_)
            refine lv_aload_n hx hb dX3_prepare_123 rfl (lv_at hl 2 rfl) ?_
            refine va_get (D := g.1) (ci := 2) (v := .ref (nq 3)) (C := RX2) (T := TX2) (N := 11) hx hb hts iX2 hown hK.1 hP 4 rfl rfl 8 (by decide) (hts (.fieldLink RX3 48 "LightWheel$State" "working" "[J") (by decide +kernel)) (fun _ h9 => h9) rfl dX3_prepare_124 ?_
            refine lv_iconst (v := (1 : Int32)) hx hb dX3_prepare_127 (by decide) ?_
            refine xr_lald hx hb hK.1 hP 7 1 rfl rfl 1 rfl (Nat.le_of_ble_eq_true rfl) (Nat.le_of_ble_eq_true rfl) dX3_prepare_128 ?_
            refine lv_land hx hb dX3_prepare_129 ?_
            refine vp_callSi (W.runS (As := [.long (r120_25 &&& (n_working 1))]) (rest := [.int (w_loadAt_19 (Int32.toNatClampNeg v2_12)), .int v2_12, .ref (wq 2)]) ⟨hx, hb, hml, hown, hts⟩ (kJ13_bitCount_95d88 l g  (r120_25 &&& (n_working 1)) _ h) (va_cwS 1 hts gX3_prepare_J13_bitCount_95d88 rfl rfl rfl hdJ13_bitCount_95d88.2 ⟨(Nat.le_of_ble_eq_true rfl), (Nat.le_of_ble_eq_true rfl)⟩) (preS_R hK (va_P_nil (D := g.1) (cl := vwCl))) rfl rfl hl.1 rfl (lv_room (Nat.le_of_ble_eq_true rfl)) dX3_prepare_130 ⟨(Nat.le_of_ble_eq_true rfl), (Nat.le_of_ble_eq_true rfl)⟩) (fun r130_26 h => ?_)
            refine lv_iadd hx hb dX3_prepare_133 ?_
            have o_134_26 := h.1
            replace h := h.2
            refine xs_iast hx hb hK.1 hP hD hS 2 0 rfl rfl o_134_26 dX3_prepare_134 (fun w_loadAt_28 e_w_loadAt_28 H locs hP hD hS => ?_)
            replace h := h w_loadAt_28 e_w_loadAt_28
            have hP : va_P g.1 vwCl (wW g wq w_wanted_6 w_loadAt_28 w_passedIn t_1 f_power_3 f_limit_4 w_wantedSpeed w_angle w_speed w_load w_ticks ++ (wS g nq n_pictureCount n_angle n_speed n_ticks n_load n_secondArm n_settings n_working n_written n_writtenIn n_width n_first n_step n_kind n_columns)) H := hP
            have hD : va_D A (wW g wq w_wanted_6 w_loadAt_28 w_passedIn t_1 f_power_3 f_limit_4 w_wantedSpeed w_angle w_speed w_load w_ticks ++ (wS g nq n_pictureCount n_angle n_speed n_ticks n_load n_secondArm n_settings n_working n_written n_writtenIn n_width n_first n_step n_kind n_columns)) := hD
            obtain ⟨v2_29, e_v2_29⟩ : ∃ y : Int32, y = v2_12 + (1 : Int32) := ⟨_, rfl⟩
            replace h := h v2_29 e_v2_29
            refine lv_iinc (v := v2_29) (lv' := [(2, .int v2_29), (0, .ref (wq 0)), (1, .ref (nq 0))]) hx hb dX3_prepare_135 hl (k := 0) rfl (by rw [e_v2_29]; rfl) (by decide) rfl (fun ls hl => ?_)
            refine lv_goto (tgt := 65) hx hb dX3_prepare_138 (by decide) ?_
            exact ih_3 v2_29 w_loadAt_28 H locs ls h hP hD hS (lv_sub hl [0, 1, 2] rfl)
    obtain ⟨n_3, h⟩ := h
    refine loop_3 _ ?_ n_3 (0 : Int32) w_loadAt _ _ ls h hP hD hS (lv_sub hl [0, 1, 2] rfl)
    intro v2_12 w_loadAt_13 H locs ls h hP hD hS hl
    exact W.vret hx hb hr (fun t ht hW => ⟨⟨(w_wanted_6, w_loadAt_13, t_1, f_power_3, f_limit_4), rfl, h, by rw [ht]; exact hP, hD⟩, hS.F ht⟩) hS.2.2 dX3_prepare_141
  refine lv_icmp_ne (tgt := 13) hx hb dX3_prepare_6 (by decide) (fun c_6_29 => ?_) (fun c_6_29 => ?_)
  · replace h := h.1 c_6_29
    refine lv_iconst (v := (0 : Int32)) hx hb dX3_prepare_13 (by decide) ?_
    exact tail_1 (0 : Int32) H locs ls h hP hD hS (lv_sub hl [0, 1] rfl)
  · replace h := h.2 c_6_29
    refine lv_iconst (v := (1 : Int32)) hx hb dX3_prepare_9 (by decide) ?_
    refine lv_goto (tgt := 14) hx hb dX3_prepare_10 (by decide) ?_
    exact tail_1 (1 : Int32) H locs ls h hP hD hS (lv_sub hl [0, 1] rfl)
theorem hdX3_start : yX3_start.cls = RX3 ∧ yX3_start.cls ≠ "java/lang/invoke/MethodHandle" ∧ yX3_start.cls ≠ "java/lang/invoke/VarHandle" ∧ (parseMethodDescriptor yX3_start.desc).map (fun d => d.parameters.length) = some 2 := by decide +kernel
set_option maxHeartbeats 4000000 in
set_option maxRecDepth 100000 in
theorem kX3_start (l : Launch) (g : GG) (wq nq : Nat → Nat) (sz : Nat) (w_wanted : Nat → Int64) (w_loadAt : Nat → Int32) (w_passedIn : Nat → Int32) (w_secondArm : Int32) (w_power : Int32) (w_limit : Int32) (w_wantedSpeed : Int32) (w_angle : Int32) (w_speed : Int32) (w_load : Int32) (w_ticks : Int32) (n_pictureCount : Int32) (n_angle : Int32) (n_speed : Int32) (n_ticks : Int32) (n_load : Int32) (n_secondArm : Int32) (n_settings : Nat → Int32) (n_working : Nat → Int64) (n_written : Nat → Int64) (n_writtenIn : Nat → Int32) (n_width : Nat → Int32) (n_first : Nat → Int32) (n_step : Nat → Int32) (n_kind : Nat → Int32) (n_columns : Nat → Nat → Int64) (a_2 : Int32) (k : (Nat → Int32) → Int32 → Int32 → Int32 → Int32 → Int32 → Prop) (h : PX3_start w_passedIn w_wantedSpeed w_angle w_speed w_load w_ticks n_angle n_speed n_load a_2 k) : Met l yX3_start wsX3_start ({ frames := 0, cells := 0, slots := 0, locals := 0 }) (PreM g [.ref (wq 0), .ref (nq 0), .int a_2] (wW g wq w_wanted w_loadAt w_passedIn w_secondArm w_power w_limit w_wantedSpeed w_angle w_speed w_load w_ticks ++ (wS g nq n_pictureCount n_angle n_speed n_ticks n_load n_secondArm n_settings n_working n_written n_writtenIn n_width n_first n_step n_kind n_columns)) sz) (va_Qv (fun u : (Nat → Int32) × Int32 × Int32 × Int32 × Int32 × Int32 => k u.1 u.2.1 u.2.2.1 u.2.2.2.1 u.2.2.2.2.1 u.2.2.2.2.2) (fun u t => PostB g (va_A (wW g wq w_wanted w_loadAt w_passedIn w_secondArm w_power w_limit w_wantedSpeed w_angle w_speed w_load w_ticks ++ (wS g nq n_pictureCount n_angle n_speed n_ticks n_load n_secondArm n_settings n_working n_written n_writtenIn n_width n_first n_step n_kind n_columns)) sz) (wW g wq w_wanted w_loadAt u.1 w_secondArm w_power w_limit u.2.1 u.2.2.1 u.2.2.2.1 u.2.2.2.2.1 u.2.2.2.2.2 ++ (wS g nq n_pictureCount n_angle n_speed n_ticks n_load n_secondArm n_settings n_working n_written n_writtenIn n_width n_first n_step n_kind n_columns)) t) (va_A (wW g wq w_wanted w_loadAt w_passedIn w_secondArm w_power w_limit w_wantedSpeed w_angle w_speed w_load w_ticks ++ (wS g nq n_pictureCount n_angle n_speed n_ticks n_load n_secondArm n_settings n_working n_written n_writtenIn n_width n_first n_step n_kind n_columns)) sz)) 0 0 (va_A (wW g wq w_wanted w_loadAt w_passedIn w_secondArm w_power w_limit w_wantedSpeed w_angle w_speed w_load w_ticks ++ (wS g nq n_pictureCount n_angle n_speed n_ticks n_load n_secondArm n_settings n_working n_written n_writtenIn n_width n_first n_step n_kind n_columns)) sz) := by
  refine Met.ofW (cc := cX3_start) (maxL := 4) (ret := none) (by decide) rfl ?_
  intro p e s m args below meth c s₁ B hml hv
  obtain ⟨rfl, hsz, hP, hK, hD0⟩ := hv
  have hx := B.exec
  have hb := B.bytes
  have hr := B.returns
  have hts := atoms_spec (ws := wsX3_start) B.pre
  have hown : s.vm.findClass RX3 = some m.cls := findClass_of_methodNamed B.named
  have hlocks := B.notSynchronized
  have iX2 : ∀ w ∈ wsX20, w ∈ wsX3_start := by decide +kernel
  have iX3 : ∀ w ∈ wsX30, w ∈ wsX3_start := by decide +kernel
  subst hsz
  have hD := hD0.self (sz := s.heap.size)
  generalize hAe : va_A (wW g wq w_wanted w_loadAt w_passedIn w_secondArm w_power w_limit w_wantedSpeed w_angle w_speed w_load w_ticks ++ (wS g nq n_pictureCount n_angle n_speed n_ticks n_load n_secondArm n_settings n_working n_written n_writtenIn n_width n_first n_step n_kind n_columns)) s.heap.size = A at hD ⊢
  have hA : ∀ q : Nat, s.heap.size ≤ q → A q := fun q h => by rw [← hAe]; exact Or.inr h
  clear hAe hD0
  have hS : va_S A s.heap s.heap [] := va_S.rf
  have hl := lv_entry ([.ref (wq 0), .ref (nq 0), .int a_2]) (n := 4) (Nat.le_of_ble_eq_true rfl)
  rw [lg_entry_eq]
  generalize (lg_sl ([.ref (wq 0), .ref (nq 0), .int a_2]) ++ List.replicate (4 - (lg_sl ([.ref (wq 0), .ref (nq 0), .int a_2])).length) Slot.unset).toArray = ls at hl ⊢
  have hl : lv_has ls 4 [(0, .ref (wq 0)), (1, .ref (nq 0)), (2, .int a_2)] := hl
  unfold PX3_start at h
  obtain ⟨H, hHe⟩ : ∃ y, y = s.heap := ⟨_, rfl⟩
  rw [← hHe] at hP
  have hS : va_S A s.heap H [] := by rw [hHe]; exact hS
  have hW0 : ∀ (Q : State → Prop), W p l e (headSpec wsX3_start ({ frames := 0, cells := 0, slots := 0, locals := 0 })).room s m ([.ref (wq 0), .ref (nq 0), .int a_2] : List Value).toArray below meth c H [] 0 0 Q (F0 m 0 ls []) → W p l e (headSpec wsX3_start ({ frames := 0, cells := 0, slots := 0, locals := 0 })).room s m ([.ref (wq 0), .ref (nq 0), .int a_2] : List Value).toArray below meth c s.heap [] 0 0 Q (F0 m 0 ls []) := by rw [hHe]; exact fun _ h9 => h9
  refine hW0 _ ?_
  clear hW0 hHe
  generalize ([] : List Loc) = locs at hS ⊢
  refine lv_aload_n hx hb dX3_start_0 rfl (lv_at hl 0 rfl) ?_
  refine lv_iload_n hx hb dX3_start_1 rfl (lv_at hl 2 rfl) ?_
  refine va_put (D := g.1) (ci := 3) (v := .int a_2) (ty := .int) (C := RX3) (T := TX3) (N := 11) hx hb hts iX3 tyX3 tyX3_ok nmX3 hown hK.1 hP hD hS 0 rfl rfl 6 (by decide) (hts (.fieldLink RX3 61 "LightWheel$Sweep" "wantedSpeed" "I") (by decide +kernel)) (fun _ h9 => h9) rfl (by decide +kernel) rfl rfl (Nat.le_of_ble_eq_true rfl) dX3_start_2 (fun H locs hP hD hS => ?_)
  have hP : va_P g.1 vwCl (wW g wq w_wanted w_loadAt w_passedIn w_secondArm w_power w_limit a_2 w_angle w_speed w_load w_ticks ++ (wS g nq n_pictureCount n_angle n_speed n_ticks n_load n_secondArm n_settings n_working n_written n_writtenIn n_width n_first n_step n_kind n_columns)) H := hP
  have hD : va_D A (wW g wq w_wanted w_loadAt w_passedIn w_secondArm w_power w_limit a_2 w_angle w_speed w_load w_ticks ++ (wS g nq n_pictureCount n_angle n_speed n_ticks n_load n_secondArm n_settings n_working n_written n_writtenIn n_width n_first n_step n_kind n_columns)) := hD
  refine lv_aload_n hx hb dX3_start_5 rfl (lv_at hl 0 rfl) ?_
  refine lv_aload_n hx hb dX3_start_6 rfl (lv_at hl 1 rfl) ?_
  refine va_get (D := g.1) (ci := 2) (v := .int n_angle) (C := RX2) (T := TX2) (N := 11) hx hb hts iX2 hown hK.1 hP 4 rfl rfl 2 (by decide) (hts (.fieldLink RX3 64 "LightWheel$State" "angle" "I") (by decide +kernel)) (fun _ h9 => h9) rfl dX3_start_7 ?_
  refine va_put (D := g.1) (ci := 3) (v := .int n_angle) (ty := .int) (C := RX3) (T := TX3) (N := 11) hx hb hts iX3 tyX3 tyX3_ok nmX3 hown hK.1 hP hD hS 0 rfl rfl 7 (by decide) (hts (.fieldLink RX3 67 "LightWheel$Sweep" "angle" "I") (by decide +kernel)) (fun _ h9 => h9) rfl (by decide +kernel) rfl rfl (Nat.le_of_ble_eq_true rfl) dX3_start_10 (fun H locs hP hD hS => ?_)
  have hP : va_P g.1 vwCl (wW g wq w_wanted w_loadAt w_passedIn w_secondArm w_power w_limit a_2 n_angle w_speed w_load w_ticks ++ (wS g nq n_pictureCount n_angle n_speed n_ticks n_load n_secondArm n_settings n_working n_written n_writtenIn n_width n_first n_step n_kind n_columns)) H := hP
  have hD : va_D A (wW g wq w_wanted w_loadAt w_passedIn w_secondArm w_power w_limit a_2 n_angle w_speed w_load w_ticks ++ (wS g nq n_pictureCount n_angle n_speed n_ticks n_load n_secondArm n_settings n_working n_written n_writtenIn n_width n_first n_step n_kind n_columns)) := hD
  refine lv_aload_n hx hb dX3_start_13 rfl (lv_at hl 0 rfl) ?_
  refine lv_aload_n hx hb dX3_start_14 rfl (lv_at hl 1 rfl) ?_
  refine va_get (D := g.1) (ci := 2) (v := .int n_speed) (C := RX2) (T := TX2) (N := 11) hx hb hts iX2 hown hK.1 hP 4 rfl rfl 3 (by decide) (hts (.fieldLink RX3 68 "LightWheel$State" "speed" "I") (by decide +kernel)) (fun _ h9 => h9) rfl dX3_start_15 ?_
  refine va_put (D := g.1) (ci := 3) (v := .int n_speed) (ty := .int) (C := RX3) (T := TX3) (N := 11) hx hb hts iX3 tyX3 tyX3_ok nmX3 hown hK.1 hP hD hS 0 rfl rfl 8 (by decide) (hts (.fieldLink RX3 71 "LightWheel$Sweep" "speed" "I") (by decide +kernel)) (fun _ h9 => h9) rfl (by decide +kernel) rfl rfl (Nat.le_of_ble_eq_true rfl) dX3_start_18 (fun H locs hP hD hS => ?_)
  have hP : va_P g.1 vwCl (wW g wq w_wanted w_loadAt w_passedIn w_secondArm w_power w_limit a_2 n_angle n_speed w_load w_ticks ++ (wS g nq n_pictureCount n_angle n_speed n_ticks n_load n_secondArm n_settings n_working n_written n_writtenIn n_width n_first n_step n_kind n_columns)) H := hP
  have hD : va_D A (wW g wq w_wanted w_loadAt w_passedIn w_secondArm w_power w_limit a_2 n_angle n_speed w_load w_ticks ++ (wS g nq n_pictureCount n_angle n_speed n_ticks n_load n_secondArm n_settings n_working n_written n_writtenIn n_width n_first n_step n_kind n_columns)) := hD
  refine lv_aload_n hx hb dX3_start_21 rfl (lv_at hl 0 rfl) ?_
  refine lv_aload_n hx hb dX3_start_22 rfl (lv_at hl 1 rfl) ?_
  refine va_get (D := g.1) (ci := 2) (v := .int n_load) (C := RX2) (T := TX2) (N := 11) hx hb hts iX2 hown hK.1 hP 4 rfl rfl 5 (by decide) (hts (.fieldLink RX3 72 "LightWheel$State" "load" "I") (by decide +kernel)) (fun _ h9 => h9) rfl dX3_start_23 ?_
  refine va_put (D := g.1) (ci := 3) (v := .int n_load) (ty := .int) (C := RX3) (T := TX3) (N := 11) hx hb hts iX3 tyX3 tyX3_ok nmX3 hown hK.1 hP hD hS 0 rfl rfl 9 (by decide) (hts (.fieldLink RX3 75 "LightWheel$Sweep" "load" "I") (by decide +kernel)) (fun _ h9 => h9) rfl (by decide +kernel) rfl rfl (Nat.le_of_ble_eq_true rfl) dX3_start_26 (fun H locs hP hD hS => ?_)
  have hP : va_P g.1 vwCl (wW g wq w_wanted w_loadAt w_passedIn w_secondArm w_power w_limit a_2 n_angle n_speed n_load w_ticks ++ (wS g nq n_pictureCount n_angle n_speed n_ticks n_load n_secondArm n_settings n_working n_written n_writtenIn n_width n_first n_step n_kind n_columns)) H := hP
  have hD : va_D A (wW g wq w_wanted w_loadAt w_passedIn w_secondArm w_power w_limit a_2 n_angle n_speed n_load w_ticks ++ (wS g nq n_pictureCount n_angle n_speed n_ticks n_load n_secondArm n_settings n_working n_written n_writtenIn n_width n_first n_step n_kind n_columns)) := hD
  refine lv_aload_n hx hb dX3_start_29 rfl (lv_at hl 0 rfl) ?_
  refine lv_iconst (v := (0 : Int32)) hx hb dX3_start_30 (by decide) ?_
  refine va_put (D := g.1) (ci := 3) (v := .int (0 : Int32)) (ty := .int) (C := RX3) (T := TX3) (N := 11) hx hb hts iX3 tyX3 tyX3_ok nmX3 hown hK.1 hP hD hS 0 rfl rfl 10 (by decide) (hts (.fieldLink RX3 76 "LightWheel$Sweep" "ticks" "I") (by decide +kernel)) (fun _ h9 => h9) rfl (by decide +kernel) rfl rfl (Nat.le_of_ble_eq_true rfl) dX3_start_31 (fun H locs hP hD hS => ?_)
  have hP : va_P g.1 vwCl (wW g wq w_wanted w_loadAt w_passedIn w_secondArm w_power w_limit a_2 n_angle n_speed n_load (0 : Int32) ++ (wS g nq n_pictureCount n_angle n_speed n_ticks n_load n_secondArm n_settings n_working n_written n_writtenIn n_width n_first n_step n_kind n_columns)) H := hP
  have hD : va_D A (wW g wq w_wanted w_loadAt w_passedIn w_secondArm w_power w_limit a_2 n_angle n_speed n_load (0 : Int32) ++ (wS g nq n_pictureCount n_angle n_speed n_ticks n_load n_secondArm n_settings n_working n_written n_writtenIn n_width n_first n_step n_kind n_columns)) := hD
  refine lv_iconst (v := (0 : Int32)) hx hb dX3_start_34 (by decide) ?_
  refine lv_istore_n (lv' := [(3, .int (0 : Int32)), (0, .ref (wq 0)), (1, .ref (nq 0)), (2, .int a_2)]) hx hb dX3_start_35 rfl hl (by decide) rfl (fun ls hl => ?_)
  have loop_1 : ∀ (kx_1 : Int32 → (Nat → Int32) → Prop), (∀ (v3_1 : Int32) (w_passedIn_2 : Nat → Int32) (H : Heap) (locs : List Loc) (ls : Array Slot), kx_1 v3_1 w_passedIn_2 → va_P g.1 vwCl (wW g wq w_wanted w_loadAt w_passedIn_2 w_secondArm w_power w_limit a_2 n_angle n_speed n_load (0 : Int32) ++ (wS g nq n_pictureCount n_angle n_speed n_ticks n_load n_secondArm n_settings n_working n_written n_writtenIn n_width n_first n_step n_kind n_columns)) H → va_D A (wW g wq w_wanted w_loadAt w_passedIn_2 w_secondArm w_power w_limit a_2 n_angle n_speed n_load (0 : Int32) ++ (wS g nq n_pictureCount n_angle n_speed n_ticks n_load n_secondArm n_settings n_working n_written n_writtenIn n_width n_first n_step n_kind n_columns)) → va_S A s.heap H locs → lv_has ls 4 [(3, .int v3_1), (0, .ref (wq 0)), (1, .ref (nq 0)), (2, .int a_2)] → W p l e (headSpec wsX3_start ({ frames := 0, cells := 0, slots := 0, locals := 0 })).room s m ([.ref (wq 0), .ref (nq 0), .int a_2] : List Value).toArray below meth c H locs 0 0 (MQ below (va_Qv (fun u : (Nat → Int32) × Int32 × Int32 × Int32 × Int32 × Int32 => k u.1 u.2.1 u.2.2.1 u.2.2.2.1 u.2.2.2.2.1 u.2.2.2.2.2) (fun u t => PostB g A (wW g wq w_wanted w_loadAt u.1 w_secondArm w_power w_limit u.2.1 u.2.2.1 u.2.2.2.1 u.2.2.2.2.1 u.2.2.2.2.2 ++ (wS g nq n_pictureCount n_angle n_speed n_ticks n_load n_secondArm n_settings n_working n_written n_writtenIn n_width n_first n_step n_kind n_columns)) t) A) ([.ref (wq 0), .ref (nq 0), .int a_2] : List Value).toArray s 0 0 A) (F0 m 56 ls [])) → ∀ (n_1 : Nat) (v3_1 : Int32) (w_passedIn_2 : Nat → Int32) (H : Heap) (locs : List Loc) (ls : Array Slot), PX3_start_L1  kx_1 n_1 v3_1 w_passedIn_2 → va_P g.1 vwCl (wW g wq w_wanted w_loadAt w_passedIn_2 w_secondArm w_power w_limit a_2 n_angle n_speed n_load (0 : Int32) ++ (wS g nq n_pictureCount n_angle n_speed n_ticks n_load n_secondArm n_settings n_working n_written n_writtenIn n_width n_first n_step n_kind n_columns)) H → va_D A (wW g wq w_wanted w_loadAt w_passedIn_2 w_secondArm w_power w_limit a_2 n_angle n_speed n_load (0 : Int32) ++ (wS g nq n_pictureCount n_angle n_speed n_ticks n_load n_secondArm n_settings n_working n_written n_writtenIn n_width n_first n_step n_kind n_columns)) → va_S A s.heap H locs → lv_has ls 4 [(3, .int v3_1), (0, .ref (wq 0)), (1, .ref (nq 0)), (2, .int a_2)] → W p l e (headSpec wsX3_start ({ frames := 0, cells := 0, slots := 0, locals := 0 })).room s m ([.ref (wq 0), .ref (nq 0), .int a_2] : List Value).toArray below meth c H locs 0 0 (MQ below (va_Qv (fun u : (Nat → Int32) × Int32 × Int32 × Int32 × Int32 × Int32 => k u.1 u.2.1 u.2.2.1 u.2.2.2.1 u.2.2.2.2.1 u.2.2.2.2.2) (fun u t => PostB g A (wW g wq w_wanted w_loadAt u.1 w_secondArm w_power w_limit u.2.1 u.2.2.1 u.2.2.2.1 u.2.2.2.2.1 u.2.2.2.2.2 ++ (wS g nq n_pictureCount n_angle n_speed n_ticks n_load n_secondArm n_settings n_working n_written n_writtenIn n_width n_first n_step n_kind n_columns)) t) A) ([.ref (wq 0), .ref (nq 0), .int a_2] : List Value).toArray s 0 0 A) (F0 m 36 ls []) := by
    intro kx_1 hexit_1 n_1
    induction n_1 with
    | zero => exact fun _ _ _ _ _ h _ _ _ _ => (h : False).elim
    | succ n_1 ih_1 =>
      intro v3_1 w_passedIn_2 H locs ls h hP hD hS hl
      unfold PX3_start_L1 at h
      refine lv_iload_n hx hb dX3_start_36 rfl (lv_at hl 0 rfl) ?_
      refine lv_sipush (v := (720 : Int32)) hx hb dX3_start_37 (by decide) ?_
      refine lv_icmp_ge (tgt := 56) hx hb dX3_start_40 (by decide) (fun c_40_2 => ?_) (fun c_40_2 => ?_)
      · replace h := h.1 c_40_2
        exact hexit_1 v3_1 w_passedIn_2 H locs ls h hP hD hS (lv_sub hl [0, 1, 2, 3] rfl)
      · replace h := h.2 c_40_2
        refine lv_aload_n hx hb dX3_start_43 rfl (lv_at hl 1 rfl) ?_
        refine va_get (D := g.1) (ci := 3) (v := .ref (wq 3)) (C := RX3) (T := TX3) (N := 11) hx hb hts iX3 hown hK.1 hP 0 rfl rfl 2 (by decide) (hts (.fieldLink RX3 19 "LightWheel$Sweep" "passedIn" "[I") (by decide +kernel)) (fun _ h9 => h9) rfl dX3_start_44 ?_
        refine lv_iload_n hx hb dX3_start_47 rfl (lv_at hl 0 rfl) ?_
        refine lv_iconst (v := (0 : Int32)) hx hb dX3_start_48 (by decide) ?_
        have o_49_3 := h.1
        replace h := h.2
        refine xs_iast hx hb hK.1 hP hD hS 3 0 rfl rfl o_49_3 dX3_start_49 (fun w_passedIn_5 e_w_passedIn_5 H locs hP hD hS => ?_)
        replace h := h w_passedIn_5 e_w_passedIn_5
        have hP : va_P g.1 vwCl (wW g wq w_wanted w_loadAt w_passedIn_5 w_secondArm w_power w_limit a_2 n_angle n_speed n_load (0 : Int32) ++ (wS g nq n_pictureCount n_angle n_speed n_ticks n_load n_secondArm n_settings n_working n_written n_writtenIn n_width n_first n_step n_kind n_columns)) H := hP
        have hD : va_D A (wW g wq w_wanted w_loadAt w_passedIn_5 w_secondArm w_power w_limit a_2 n_angle n_speed n_load (0 : Int32) ++ (wS g nq n_pictureCount n_angle n_speed n_ticks n_load n_secondArm n_settings n_working n_written n_writtenIn n_width n_first n_step n_kind n_columns)) := hD
        obtain ⟨v3_6, e_v3_6⟩ : ∃ y : Int32, y = v3_1 + (1 : Int32) := ⟨_, rfl⟩
        replace h := h v3_6 e_v3_6
        refine lv_iinc (v := v3_6) (lv' := [(3, .int v3_6), (0, .ref (wq 0)), (1, .ref (nq 0)), (2, .int a_2)]) hx hb dX3_start_50 hl (k := 0) rfl (by rw [e_v3_6]; rfl) (by decide) rfl (fun ls hl => ?_)
        refine lv_goto (tgt := 36) hx hb dX3_start_53 (by decide) ?_
        exact ih_1 v3_6 w_passedIn_5 H locs ls h hP hD hS (lv_sub hl [0, 1, 2, 3] rfl)
  obtain ⟨n_1, h⟩ := h
  refine loop_1 _ ?_ n_1 (0 : Int32) w_passedIn _ _ ls h hP hD hS (lv_sub hl [0, 1, 2, 3] rfl)
  intro v3_1 w_passedIn_2 H locs ls h hP hD hS hl
  exact W.vret hx hb hr (fun t ht hW => ⟨⟨(w_passedIn_2, a_2, n_angle, n_speed, n_load, (0 : Int32)), rfl, h, by rw [ht]; exact hP, hD⟩, hS.F ht⟩) hS.2.2 dX3_start_56
theorem hdX3_changeSpeed : yX3_changeSpeed.cls = RX3 ∧ yX3_changeSpeed.cls ≠ "java/lang/invoke/MethodHandle" ∧ yX3_changeSpeed.cls ≠ "java/lang/invoke/VarHandle" ∧ (parseMethodDescriptor yX3_changeSpeed.desc).map (fun d => d.parameters.length) = some 0 := by decide +kernel
set_option maxHeartbeats 4000000 in
set_option maxRecDepth 100000 in
theorem kX3_changeSpeed (l : Launch) (g : GG) (wq : Nat → Nat) (sz : Nat) (w_wanted : Nat → Int64) (w_loadAt : Nat → Int32) (w_passedIn : Nat → Int32) (w_secondArm : Int32) (w_power : Int32) (w_limit : Int32) (w_wantedSpeed : Int32) (w_angle : Int32) (w_speed : Int32) (w_load : Int32) (w_ticks : Int32)  (k : Int32 → Prop) (h : PX3_changeSpeed w_power w_limit w_wantedSpeed w_speed w_load  k) : Met l yX3_changeSpeed wsX3_changeSpeed ({ frames := 1, cells := 0, slots := 0, locals := 21 }) (PreM g [.ref (wq 0)] (wW g wq w_wanted w_loadAt w_passedIn w_secondArm w_power w_limit w_wantedSpeed w_angle w_speed w_load w_ticks) sz) (va_Qv (fun u : Int32 => k u) (fun u t => PostB g (va_A (wW g wq w_wanted w_loadAt w_passedIn w_secondArm w_power w_limit w_wantedSpeed w_angle w_speed w_load w_ticks) sz) (wW g wq w_wanted w_loadAt w_passedIn w_secondArm w_power w_limit w_wantedSpeed w_angle u w_load w_ticks) t) (va_A (wW g wq w_wanted w_loadAt w_passedIn w_secondArm w_power w_limit w_wantedSpeed w_angle w_speed w_load w_ticks) sz)) 0 0 (va_A (wW g wq w_wanted w_loadAt w_passedIn w_secondArm w_power w_limit w_wantedSpeed w_angle w_speed w_load w_ticks) sz) := by
  refine Met.ofW (cc := cX3_changeSpeed) (maxL := 2) (ret := none) (by decide) rfl ?_
  intro p e s m args below meth c s₁ B hml hv
  obtain ⟨rfl, hsz, hP, hK, hD0⟩ := hv
  have hx := B.exec
  have hb := B.bytes
  have hr := B.returns
  have hts := atoms_spec (ws := wsX3_changeSpeed) B.pre
  have hown : s.vm.findClass RX3 = some m.cls := findClass_of_methodNamed B.named
  have hlocks := B.notSynchronized
  have iX3 : ∀ w ∈ wsX30, w ∈ wsX3_changeSpeed := by decide +kernel
  subst hsz
  have hD := hD0.self (sz := s.heap.size)
  generalize hAe : va_A (wW g wq w_wanted w_loadAt w_passedIn w_secondArm w_power w_limit w_wantedSpeed w_angle w_speed w_load w_ticks) s.heap.size = A at hD ⊢
  have hA : ∀ q : Nat, s.heap.size ≤ q → A q := fun q h => by rw [← hAe]; exact Or.inr h
  clear hAe hD0
  have hS : va_S A s.heap s.heap [] := va_S.rf
  have hl := lv_entry ([.ref (wq 0)]) (n := 2) (Nat.le_of_ble_eq_true rfl)
  rw [lg_entry_eq]
  generalize (lg_sl ([.ref (wq 0)]) ++ List.replicate (2 - (lg_sl ([.ref (wq 0)])).length) Slot.unset).toArray = ls at hl ⊢
  have hl : lv_has ls 2 [(0, .ref (wq 0))] := hl
  unfold PX3_changeSpeed at h
  obtain ⟨H, hHe⟩ : ∃ y, y = s.heap := ⟨_, rfl⟩
  rw [← hHe] at hP
  have hS : va_S A s.heap H [] := by rw [hHe]; exact hS
  have hW0 : ∀ (Q : State → Prop), W p l e (headSpec wsX3_changeSpeed ({ frames := 1, cells := 0, slots := 0, locals := 21 })).room s m ([.ref (wq 0)] : List Value).toArray below meth c H [] 0 0 Q (F0 m 0 ls []) → W p l e (headSpec wsX3_changeSpeed ({ frames := 1, cells := 0, slots := 0, locals := 21 })).room s m ([.ref (wq 0)] : List Value).toArray below meth c s.heap [] 0 0 Q (F0 m 0 ls []) := by rw [hHe]; exact fun _ h9 => h9
  refine hW0 _ ?_
  clear hW0 hHe
  generalize ([] : List Loc) = locs at hS ⊢
  refine lv_aload_n hx hb dX3_changeSpeed_0 rfl (lv_at hl 0 rfl) ?_
  refine va_get (D := g.1) (ci := 3) (v := .int w_load) (C := RX3) (T := TX3) (N := 11) hx hb hts iX3 hown hK.1 hP 0 rfl rfl 9 (by decide) (hts (.fieldLink RX3 75 "LightWheel$Sweep" "load" "I") (by decide +kernel)) (fun _ h9 => h9) rfl dX3_changeSpeed_1 ?_
  refine lv_aload_n hx hb dX3_changeSpeed_4 rfl (lv_at hl 0 rfl) ?_
  refine va_get (D := g.1) (ci := 3) (v := .int w_limit) (C := RX3) (T := TX3) (N := 11) hx hb hts iX3 hown hK.1 hP 0 rfl rfl 5 (by decide) (hts (.fieldLink RX3 37 "LightWheel$Sweep" "limit" "I") (by decide +kernel)) (fun _ h9 => h9) rfl dX3_changeSpeed_5 ?_
  refine lv_icmp_le (tgt := 20) hx hb dX3_changeSpeed_8 (by decide) (fun c_8_0 => ?_) (fun c_8_0 => ?_)
  · replace h := h.1 c_8_0
    refine lv_aload_n hx hb dX3_changeSpeed_20 rfl (lv_at hl 0 rfl) ?_
    refine va_get (D := g.1) (ci := 3) (v := .int w_power) (C := RX3) (T := TX3) (N := 11) hx hb hts iX3 hown hK.1 hP 0 rfl rfl 4 (by decide) (hts (.fieldLink RX3 34 "LightWheel$Sweep" "power" "I") (by decide +kernel)) (fun _ h9 => h9) rfl dX3_changeSpeed_21 ?_
    refine lv_istore_n (lv' := [(1, .int w_power), (0, .ref (wq 0))]) hx hb dX3_changeSpeed_24 rfl hl (by decide) rfl (fun ls hl => ?_)
    refine lv_aload_n hx hb dX3_changeSpeed_25 rfl (lv_at hl 1 rfl) ?_
    refine lv_dup hx hb dX3_changeSpeed_26 rfl ?_
    refine va_get (D := g.1) (ci := 3) (v := .int w_speed) (C := RX3) (T := TX3) (N := 11) hx hb hts iX3 hown hK.1 hP 0 rfl rfl 8 (by decide) (hts (.fieldLink RX3 71 "LightWheel$Sweep" "speed" "I") (by decide +kernel)) (fun _ h9 => h9) rfl dX3_changeSpeed_27 ?_
    refine lv_iload_n hx hb dX3_changeSpeed_30 rfl (lv_at hl 0 rfl) ?_
    refine lv_ineg hx hb dX3_changeSpeed_31 ?_
    refine lv_iload_n hx hb dX3_changeSpeed_32 rfl (lv_at hl 0 rfl) ?_
    refine lv_aload_n hx hb dX3_changeSpeed_33 rfl (lv_at hl 1 rfl) ?_
    refine va_get (D := g.1) (ci := 3) (v := .int w_wantedSpeed) (C := RX3) (T := TX3) (N := 11) hx hb hts iX3 hown hK.1 hP 0 rfl rfl 6 (by decide) (hts (.fieldLink RX3 61 "LightWheel$Sweep" "wantedSpeed" "I") (by decide +kernel)) (fun _ h9 => h9) rfl dX3_changeSpeed_34 ?_
    refine lv_aload_n hx hb dX3_changeSpeed_37 rfl (lv_at hl 1 rfl) ?_
    refine va_get (D := g.1) (ci := 3) (v := .int w_speed) (C := RX3) (T := TX3) (N := 11) hx hb hts iX3 hown hK.1 hP 0 rfl rfl 8 (by decide) (hts (.fieldLink RX3 71 "LightWheel$Sweep" "speed" "I") (by decide +kernel)) (fun _ h9 => h9) rfl dX3_changeSpeed_38 ?_
    refine lv_isub hx hb dX3_changeSpeed_41 ?_
    refine va_mmin hx hb (hml.trans hl.1.symm) hown (hts (.methodLink RX3 85 Lib.Math.min.name) (by decide +kernel)) (hts (.static Lib.Math.min.name) (by decide +kernel)) (hts (.initialized "java/lang/Math") (by decide +kernel)) (hts (.code Lib.Math.min.name Lib.Math.min.code 2 (some .int)) (by decide +kernel)) (Nat.le_of_ble_eq_true rfl) (Nat.le_of_ble_eq_true rfl) (Nat.zero_le _) (Nat.zero_le _) dX3_changeSpeed_42 ?_
    refine va_mmax hx hb (hml.trans hl.1.symm) hown (hts (.methodLink RX3 91 Lib.Math.max.name) (by decide +kernel)) (hts (.static Lib.Math.max.name) (by decide +kernel)) (hts (.initialized "java/lang/Math") (by decide +kernel)) (hts (.code Lib.Math.max.name Lib.Math.max.code 2 (some .int)) (by decide +kernel)) (Nat.le_of_ble_eq_true rfl) (Nat.le_of_ble_eq_true rfl) (Nat.zero_le _) (Nat.zero_le _) dX3_changeSpeed_45 ?_
    refine lv_iadd hx hb dX3_changeSpeed_48 ?_
    refine lv_topi (fun f_speed_2 e_f_speed_2 => ?_)
    replace h := h f_speed_2 e_f_speed_2
    refine va_put (D := g.1) (ci := 3) (v := .int f_speed_2) (ty := .int) (C := RX3) (T := TX3) (N := 11) hx hb hts iX3 tyX3 tyX3_ok nmX3 hown hK.1 hP hD hS 0 rfl rfl 8 (by decide) (hts (.fieldLink RX3 71 "LightWheel$Sweep" "speed" "I") (by decide +kernel)) (fun _ h9 => h9) rfl (by decide +kernel) rfl rfl (Nat.le_of_ble_eq_true rfl) dX3_changeSpeed_49 (fun H locs hP hD hS => ?_)
    have hP : va_P g.1 vwCl (wW g wq w_wanted w_loadAt w_passedIn w_secondArm w_power w_limit w_wantedSpeed w_angle f_speed_2 w_load w_ticks) H := hP
    have hD : va_D A (wW g wq w_wanted w_loadAt w_passedIn w_secondArm w_power w_limit w_wantedSpeed w_angle f_speed_2 w_load w_ticks) := hD
    exact W.vret hx hb hr (fun t ht hW => ⟨⟨f_speed_2, rfl, h, by rw [ht]; exact hP, hD⟩, hS.F ht⟩) hS.2.2 dX3_changeSpeed_52
  · replace h := h.2 c_8_0
    refine lv_aload_n hx hb dX3_changeSpeed_11 rfl (lv_at hl 0 rfl) ?_
    refine va_get (D := g.1) (ci := 3) (v := .int w_power) (C := RX3) (T := TX3) (N := 11) hx hb hts iX3 hown hK.1 hP 0 rfl rfl 4 (by decide) (hts (.fieldLink RX3 34 "LightWheel$Sweep" "power" "I") (by decide +kernel)) (fun _ h9 => h9) rfl dX3_changeSpeed_12 ?_
    refine lv_iconst (v := (2 : Int32)) hx hb dX3_changeSpeed_15 (by decide) ?_
    refine lv_idiv hx hb dX3_changeSpeed_16 (by decide) ?_
    refine lv_goto (tgt := 24) hx hb dX3_changeSpeed_17 (by decide) ?_
    refine lv_topi (fun v1_3 e_v1_3 => ?_)
    replace h := h v1_3 e_v1_3
    refine lv_istore_n (lv' := [(1, .int v1_3), (0, .ref (wq 0))]) hx hb dX3_changeSpeed_24 rfl hl (by decide) rfl (fun ls hl => ?_)
    refine lv_aload_n hx hb dX3_changeSpeed_25 rfl (lv_at hl 1 rfl) ?_
    refine lv_dup hx hb dX3_changeSpeed_26 rfl ?_
    refine va_get (D := g.1) (ci := 3) (v := .int w_speed) (C := RX3) (T := TX3) (N := 11) hx hb hts iX3 hown hK.1 hP 0 rfl rfl 8 (by decide) (hts (.fieldLink RX3 71 "LightWheel$Sweep" "speed" "I") (by decide +kernel)) (fun _ h9 => h9) rfl dX3_changeSpeed_27 ?_
    refine lv_iload_n hx hb dX3_changeSpeed_30 rfl (lv_at hl 0 rfl) ?_
    refine lv_ineg hx hb dX3_changeSpeed_31 ?_
    refine lv_iload_n hx hb dX3_changeSpeed_32 rfl (lv_at hl 0 rfl) ?_
    refine lv_aload_n hx hb dX3_changeSpeed_33 rfl (lv_at hl 1 rfl) ?_
    refine va_get (D := g.1) (ci := 3) (v := .int w_wantedSpeed) (C := RX3) (T := TX3) (N := 11) hx hb hts iX3 hown hK.1 hP 0 rfl rfl 6 (by decide) (hts (.fieldLink RX3 61 "LightWheel$Sweep" "wantedSpeed" "I") (by decide +kernel)) (fun _ h9 => h9) rfl dX3_changeSpeed_34 ?_
    refine lv_aload_n hx hb dX3_changeSpeed_37 rfl (lv_at hl 1 rfl) ?_
    refine va_get (D := g.1) (ci := 3) (v := .int w_speed) (C := RX3) (T := TX3) (N := 11) hx hb hts iX3 hown hK.1 hP 0 rfl rfl 8 (by decide) (hts (.fieldLink RX3 71 "LightWheel$Sweep" "speed" "I") (by decide +kernel)) (fun _ h9 => h9) rfl dX3_changeSpeed_38 ?_
    refine lv_isub hx hb dX3_changeSpeed_41 ?_
    refine va_mmin hx hb (hml.trans hl.1.symm) hown (hts (.methodLink RX3 85 Lib.Math.min.name) (by decide +kernel)) (hts (.static Lib.Math.min.name) (by decide +kernel)) (hts (.initialized "java/lang/Math") (by decide +kernel)) (hts (.code Lib.Math.min.name Lib.Math.min.code 2 (some .int)) (by decide +kernel)) (Nat.le_of_ble_eq_true rfl) (Nat.le_of_ble_eq_true rfl) (Nat.zero_le _) (Nat.zero_le _) dX3_changeSpeed_42 ?_
    refine va_mmax hx hb (hml.trans hl.1.symm) hown (hts (.methodLink RX3 91 Lib.Math.max.name) (by decide +kernel)) (hts (.static Lib.Math.max.name) (by decide +kernel)) (hts (.initialized "java/lang/Math") (by decide +kernel)) (hts (.code Lib.Math.max.name Lib.Math.max.code 2 (some .int)) (by decide +kernel)) (Nat.le_of_ble_eq_true rfl) (Nat.le_of_ble_eq_true rfl) (Nat.zero_le _) (Nat.zero_le _) dX3_changeSpeed_45 ?_
    refine lv_iadd hx hb dX3_changeSpeed_48 ?_
    refine lv_topi (fun f_speed_4 e_f_speed_4 => ?_)
    replace h := h f_speed_4 e_f_speed_4
    refine va_put (D := g.1) (ci := 3) (v := .int f_speed_4) (ty := .int) (C := RX3) (T := TX3) (N := 11) hx hb hts iX3 tyX3 tyX3_ok nmX3 hown hK.1 hP hD hS 0 rfl rfl 8 (by decide) (hts (.fieldLink RX3 71 "LightWheel$Sweep" "speed" "I") (by decide +kernel)) (fun _ h9 => h9) rfl (by decide +kernel) rfl rfl (Nat.le_of_ble_eq_true rfl) dX3_changeSpeed_49 (fun H locs hP hD hS => ?_)
    have hP : va_P g.1 vwCl (wW g wq w_wanted w_loadAt w_passedIn w_secondArm w_power w_limit w_wantedSpeed w_angle f_speed_4 w_load w_ticks) H := hP
    have hD : va_D A (wW g wq w_wanted w_loadAt w_passedIn w_secondArm w_power w_limit w_wantedSpeed w_angle f_speed_4 w_load w_ticks) := hD
    exact W.vret hx hb hr (fun t ht hW => ⟨⟨f_speed_4, rfl, h, by rw [ht]; exact hP, hD⟩, hS.F ht⟩) hS.2.2 dX3_changeSpeed_52
theorem hdX3_turn : yX3_turn.cls = RX3 ∧ yX3_turn.cls ≠ "java/lang/invoke/MethodHandle" ∧ yX3_turn.cls ≠ "java/lang/invoke/VarHandle" ∧ (parseMethodDescriptor yX3_turn.desc).map (fun d => d.parameters.length) = some 0 := by decide +kernel
set_option maxHeartbeats 4000000 in
set_option maxRecDepth 100000 in
theorem kX3_turn (l : Launch) (g : GG) (wq : Nat → Nat) (sz : Nat) (w_wanted : Nat → Int64) (w_loadAt : Nat → Int32) (w_passedIn : Nat → Int32) (w_secondArm : Int32) (w_power : Int32) (w_limit : Int32) (w_wantedSpeed : Int32) (w_angle : Int32) (w_speed : Int32) (w_load : Int32) (w_ticks : Int32)  (k : (Nat → Int32) → Int32 → Int32 → Prop) (h : PX3_turn w_loadAt w_passedIn w_angle w_speed w_load w_ticks  k) : Met l yX3_turn wsX3_turn ({ frames := 1, cells := 0, slots := 0, locals := 22 }) (PreM g [.ref (wq 0)] (wW g wq w_wanted w_loadAt w_passedIn w_secondArm w_power w_limit w_wantedSpeed w_angle w_speed w_load w_ticks) sz) (va_Qv (fun u : (Nat → Int32) × Int32 × Int32 => k u.1 u.2.1 u.2.2) (fun u t => PostB g (va_A (wW g wq w_wanted w_loadAt w_passedIn w_secondArm w_power w_limit w_wantedSpeed w_angle w_speed w_load w_ticks) sz) (wW g wq w_wanted w_loadAt u.1 w_secondArm w_power w_limit w_wantedSpeed u.2.1 w_speed u.2.2 w_ticks) t) (va_A (wW g wq w_wanted w_loadAt w_passedIn w_secondArm w_power w_limit w_wantedSpeed w_angle w_speed w_load w_ticks) sz)) 0 0 (va_A (wW g wq w_wanted w_loadAt w_passedIn w_secondArm w_power w_limit w_wantedSpeed w_angle w_speed w_load w_ticks) sz) := by
  refine Met.ofW (cc := cX3_turn) (maxL := 3) (ret := none) (by decide) rfl ?_
  intro p e s m args below meth c s₁ B hml hv
  obtain ⟨rfl, hsz, hP, hK, hD0⟩ := hv
  have hx := B.exec
  have hb := B.bytes
  have hr := B.returns
  have hts := atoms_spec (ws := wsX3_turn) B.pre
  have hown : s.vm.findClass RX3 = some m.cls := findClass_of_methodNamed B.named
  have hlocks := B.notSynchronized
  have iX3 : ∀ w ∈ wsX30, w ∈ wsX3_turn := by decide +kernel
  subst hsz
  have hD := hD0.self (sz := s.heap.size)
  generalize hAe : va_A (wW g wq w_wanted w_loadAt w_passedIn w_secondArm w_power w_limit w_wantedSpeed w_angle w_speed w_load w_ticks) s.heap.size = A at hD ⊢
  have hA : ∀ q : Nat, s.heap.size ≤ q → A q := fun q h => by rw [← hAe]; exact Or.inr h
  clear hAe hD0
  have hS : va_S A s.heap s.heap [] := va_S.rf
  have hl := lv_entry ([.ref (wq 0)]) (n := 3) (Nat.le_of_ble_eq_true rfl)
  rw [lg_entry_eq]
  generalize (lg_sl ([.ref (wq 0)]) ++ List.replicate (3 - (lg_sl ([.ref (wq 0)])).length) Slot.unset).toArray = ls at hl ⊢
  have hl : lv_has ls 3 [(0, .ref (wq 0))] := hl
  unfold PX3_turn at h
  obtain ⟨H, hHe⟩ : ∃ y, y = s.heap := ⟨_, rfl⟩
  rw [← hHe] at hP
  have hS : va_S A s.heap H [] := by rw [hHe]; exact hS
  have hW0 : ∀ (Q : State → Prop), W p l e (headSpec wsX3_turn ({ frames := 1, cells := 0, slots := 0, locals := 22 })).room s m ([.ref (wq 0)] : List Value).toArray below meth c H [] 0 0 Q (F0 m 0 ls []) → W p l e (headSpec wsX3_turn ({ frames := 1, cells := 0, slots := 0, locals := 22 })).room s m ([.ref (wq 0)] : List Value).toArray below meth c s.heap [] 0 0 Q (F0 m 0 ls []) := by rw [hHe]; exact fun _ h9 => h9
  refine hW0 _ ?_
  clear hW0 hHe
  generalize ([] : List Loc) = locs at hS ⊢
  refine lv_aload_n hx hb dX3_turn_0 rfl (lv_at hl 0 rfl) ?_
  refine va_get (D := g.1) (ci := 3) (v := .int w_speed) (C := RX3) (T := TX3) (N := 11) hx hb hts iX3 hown hK.1 hP 0 rfl rfl 8 (by decide) (hts (.fieldLink RX3 71 "LightWheel$Sweep" "speed" "I") (by decide +kernel)) (fun _ h9 => h9) rfl dX3_turn_1 ?_
  have tail_1 : ∀ (t_1 : Int32) (H : Heap) (locs : List Loc) (ls : Array Slot), PX3_turn_J1 w_loadAt w_passedIn w_angle w_speed w_ticks k t_1 → va_P g.1 vwCl (wW g wq w_wanted w_loadAt w_passedIn w_secondArm w_power w_limit w_wantedSpeed w_angle w_speed w_load w_ticks) H → va_D A (wW g wq w_wanted w_loadAt w_passedIn w_secondArm w_power w_limit w_wantedSpeed w_angle w_speed w_load w_ticks) → va_S A s.heap H locs → lv_has ls 3 [(0, .ref (wq 0))] → W p l e (headSpec wsX3_turn ({ frames := 1, cells := 0, slots := 0, locals := 22 })).room s m ([.ref (wq 0)] : List Value).toArray below meth c H locs 0 0 (MQ below (va_Qv (fun u : (Nat → Int32) × Int32 × Int32 => k u.1 u.2.1 u.2.2) (fun u t => PostB g A (wW g wq w_wanted w_loadAt u.1 w_secondArm w_power w_limit w_wantedSpeed u.2.1 w_speed u.2.2 w_ticks) t) A) ([.ref (wq 0)] : List Value).toArray s 0 0 A) (F0 m 12 ls [.int t_1]) := by
    intro t_1 H locs ls h hP hD hS hl
    unfold PX3_turn_J1 at h
    refine lv_istore_n (lv' := [(1, .int t_1), (0, .ref (wq 0))]) hx hb dX3_turn_12 rfl hl (by decide) rfl (fun ls hl => ?_)
    refine lv_aload_n hx hb dX3_turn_13 rfl (lv_at hl 1 rfl) ?_
    refine lv_iconst (v := (0 : Int32)) hx hb dX3_turn_14 (by decide) ?_
    refine va_put (D := g.1) (ci := 3) (v := .int (0 : Int32)) (ty := .int) (C := RX3) (T := TX3) (N := 11) hx hb hts iX3 tyX3 tyX3_ok nmX3 hown hK.1 hP hD hS 0 rfl rfl 9 (by decide) (hts (.fieldLink RX3 75 "LightWheel$Sweep" "load" "I") (by decide +kernel)) (fun _ h9 => h9) rfl (by decide +kernel) rfl rfl (Nat.le_of_ble_eq_true rfl) dX3_turn_15 (fun H locs hP hD hS => ?_)
    have hP : va_P g.1 vwCl (wW g wq w_wanted w_loadAt w_passedIn w_secondArm w_power w_limit w_wantedSpeed w_angle w_speed (0 : Int32) w_ticks) H := hP
    have hD : va_D A (wW g wq w_wanted w_loadAt w_passedIn w_secondArm w_power w_limit w_wantedSpeed w_angle w_speed (0 : Int32) w_ticks) := hD
    refine lv_aload_n hx hb dX3_turn_18 rfl (lv_at hl 1 rfl) ?_
    refine va_get (D := g.1) (ci := 3) (v := .int w_speed) (C := RX3) (T := TX3) (N := 11) hx hb hts iX3 hown hK.1 hP 0 rfl rfl 8 (by decide) (hts (.fieldLink RX3 71 "LightWheel$Sweep" "speed" "I") (by decide +kernel)) (fun _ h9 => h9) rfl dX3_turn_19 ?_
    refine va_mabs hx hb (hml.trans hl.1.symm) hown (hts (.methodLink RX3 94 Lib.Math.abs.name) (by decide +kernel)) (hts (.static Lib.Math.abs.name) (by decide +kernel)) (hts (.initialized "java/lang/Math") (by decide +kernel)) (hts (.code Lib.Math.abs.name Lib.Math.abs.code 1 (some .int)) (by decide +kernel)) (Nat.le_of_ble_eq_true rfl) (Nat.le_of_ble_eq_true rfl) (Nat.zero_le _) (Nat.zero_le _) dX3_turn_22 ?_
    refine lv_topi (fun v2_2 e_v2_2 => ?_)
    replace h := h v2_2 e_v2_2
    refine lv_istore_n (lv' := [(2, .int v2_2), (1, .int t_1), (0, .ref (wq 0))]) hx hb dX3_turn_25 rfl hl (by decide) rfl (fun ls hl => ?_)
    have loop_2 : ∀ (kx_2 : Int32 → (Nat → Int32) → Int32 → Int32 → Prop), (∀ (v2_3 : Int32) (w_passedIn_4 : Nat → Int32) (w_angle_5 : Int32) (w_load_6 : Int32) (H : Heap) (locs : List Loc) (ls : Array Slot), kx_2 v2_3 w_passedIn_4 w_angle_5 w_load_6 → va_P g.1 vwCl (wW g wq w_wanted w_loadAt w_passedIn_4 w_secondArm w_power w_limit w_wantedSpeed w_angle_5 w_speed w_load_6 w_ticks) H → va_D A (wW g wq w_wanted w_loadAt w_passedIn_4 w_secondArm w_power w_limit w_wantedSpeed w_angle_5 w_speed w_load_6 w_ticks) → va_S A s.heap H locs → lv_has ls 3 [(2, .int v2_3), (1, .int t_1), (0, .ref (wq 0))] → W p l e (headSpec wsX3_turn ({ frames := 1, cells := 0, slots := 0, locals := 22 })).room s m ([.ref (wq 0)] : List Value).toArray below meth c H locs 0 0 (MQ below (va_Qv (fun u : (Nat → Int32) × Int32 × Int32 => k u.1 u.2.1 u.2.2) (fun u t => PostB g A (wW g wq w_wanted w_loadAt u.1 w_secondArm w_power w_limit w_wantedSpeed u.2.1 w_speed u.2.2 w_ticks) t) A) ([.ref (wq 0)] : List Value).toArray s 0 0 A) (F0 m 83 ls [])) → ∀ (n_2 : Nat) (v2_3 : Int32) (w_passedIn_4 : Nat → Int32) (w_angle_5 : Int32) (w_load_6 : Int32) (H : Heap) (locs : List Loc) (ls : Array Slot), PX3_turn_L2 w_loadAt w_ticks t_1 kx_2 n_2 v2_3 w_passedIn_4 w_angle_5 w_load_6 → va_P g.1 vwCl (wW g wq w_wanted w_loadAt w_passedIn_4 w_secondArm w_power w_limit w_wantedSpeed w_angle_5 w_speed w_load_6 w_ticks) H → va_D A (wW g wq w_wanted w_loadAt w_passedIn_4 w_secondArm w_power w_limit w_wantedSpeed w_angle_5 w_speed w_load_6 w_ticks) → va_S A s.heap H locs → lv_has ls 3 [(2, .int v2_3), (1, .int t_1), (0, .ref (wq 0))] → W p l e (headSpec wsX3_turn ({ frames := 1, cells := 0, slots := 0, locals := 22 })).room s m ([.ref (wq 0)] : List Value).toArray below meth c H locs 0 0 (MQ below (va_Qv (fun u : (Nat → Int32) × Int32 × Int32 => k u.1 u.2.1 u.2.2) (fun u t => PostB g A (wW g wq w_wanted w_loadAt u.1 w_secondArm w_power w_limit w_wantedSpeed u.2.1 w_speed u.2.2 w_ticks) t) A) ([.ref (wq 0)] : List Value).toArray s 0 0 A) (F0 m 26 ls []) := by
      intro kx_2 hexit_2 n_2
      induction n_2 with
      | zero => exact fun _ _ _ _ _ _ _ h _ _ _ _ => (h : False).elim
      | succ n_2 ih_2 =>
        intro v2_3 w_passedIn_4 w_angle_5 w_load_6 H locs ls h hP hD hS hl
        unfold PX3_turn_L2 at h
        refine lv_iload_n hx hb dX3_turn_26 rfl (lv_at hl 0 rfl) ?_
        refine lv_if_le (tgt := 83) hx hb dX3_turn_27 (by decide) (fun c_27_6 => ?_) (fun c_27_6 => ?_)
        · replace h := h.1 c_27_6
          exact hexit_2 v2_3 w_passedIn_4 w_angle_5 w_load_6 H locs ls h hP hD hS (lv_sub hl [0, 1, 2] rfl)
        · replace h := h.2 c_27_6
          refine lv_aload_n hx hb dX3_turn_30 rfl (lv_at hl 2 rfl) ?_
          refine lv_aload_n hx hb dX3_turn_31 rfl (lv_at hl 2 rfl) ?_
          refine va_get (D := g.1) (ci := 3) (v := .int w_angle_5) (C := RX3) (T := TX3) (N := 11) hx hb hts iX3 hown hK.1 hP 0 rfl rfl 7 (by decide) (hts (.fieldLink RX3 67 "LightWheel$Sweep" "angle" "I") (by decide +kernel)) (fun _ h9 => h9) rfl dX3_turn_32 ?_
          refine lv_iload_n hx hb dX3_turn_35 rfl (lv_at hl 1 rfl) ?_
          refine lv_iadd hx hb dX3_turn_36 ?_
          refine lv_sipush (v := (720 : Int32)) hx hb dX3_turn_37 (by decide) ?_
          refine vp_callSi (W.runS (As := [.int (w_angle_5 + t_1), .int (720 : Int32)]) (rest := [.ref (wq 0)]) ⟨hx, hb, hml, hown, hts⟩ (kJ9_floorMod_7cf53 l g  (w_angle_5 + t_1) (720 : Int32) _ h) (va_cwS 2 hts gX3_turn_J9_floorMod_7cf53 rfl rfl rfl hdJ9_floorMod_7cf53.2 ⟨(Nat.le_of_ble_eq_true rfl), (Nat.le_of_ble_eq_true rfl)⟩) (preS_R hK (va_P_nil (D := g.1) (cl := vwCl))) rfl rfl hl.1 rfl (lv_room (Nat.le_of_ble_eq_true rfl)) dX3_turn_40 ⟨(Nat.le_of_ble_eq_true rfl), (Nat.le_of_ble_eq_true rfl)⟩) (fun r40_8 h => ?_)
          refine va_put (D := g.1) (ci := 3) (v := .int r40_8) (ty := .int) (C := RX3) (T := TX3) (N := 11) hx hb hts iX3 tyX3 tyX3_ok nmX3 hown hK.1 hP hD hS 0 rfl rfl 7 (by decide) (hts (.fieldLink RX3 67 "LightWheel$Sweep" "angle" "I") (by decide +kernel)) (fun _ h9 => h9) rfl (by decide +kernel) rfl rfl (Nat.le_of_ble_eq_true rfl) dX3_turn_43 (fun H locs hP hD hS => ?_)
          have hP : va_P g.1 vwCl (wW g wq w_wanted w_loadAt w_passedIn_4 w_secondArm w_power w_limit w_wantedSpeed r40_8 w_speed w_load_6 w_ticks) H := hP
          have hD : va_D A (wW g wq w_wanted w_loadAt w_passedIn_4 w_secondArm w_power w_limit w_wantedSpeed r40_8 w_speed w_load_6 w_ticks) := hD
          refine lv_aload_n hx hb dX3_turn_46 rfl (lv_at hl 2 rfl) ?_
          refine va_get (D := g.1) (ci := 3) (v := .ref (wq 3)) (C := RX3) (T := TX3) (N := 11) hx hb hts iX3 hown hK.1 hP 0 rfl rfl 2 (by decide) (hts (.fieldLink RX3 19 "LightWheel$Sweep" "passedIn" "[I") (by decide +kernel)) (fun _ h9 => h9) rfl dX3_turn_47 ?_
          refine lv_aload_n hx hb dX3_turn_50 rfl (lv_at hl 2 rfl) ?_
          refine va_get (D := g.1) (ci := 3) (v := .int r40_8) (C := RX3) (T := TX3) (N := 11) hx hb hts iX3 hown hK.1 hP 0 rfl rfl 7 (by decide) (hts (.fieldLink RX3 67 "LightWheel$Sweep" "angle" "I") (by decide +kernel)) (fun _ h9 => h9) rfl dX3_turn_51 ?_
          refine lv_aload_n hx hb dX3_turn_54 rfl (lv_at hl 2 rfl) ?_
          refine va_get (D := g.1) (ci := 3) (v := .int w_ticks) (C := RX3) (T := TX3) (N := 11) hx hb hts iX3 hown hK.1 hP 0 rfl rfl 10 (by decide) (hts (.fieldLink RX3 76 "LightWheel$Sweep" "ticks" "I") (by decide +kernel)) (fun _ h9 => h9) rfl dX3_turn_55 ?_
          have o_58_8 := h.1
          replace h := h.2
          refine xs_iast hx hb hK.1 hP hD hS 3 0 rfl rfl o_58_8 dX3_turn_58 (fun w_passedIn_10 e_w_passedIn_10 H locs hP hD hS => ?_)
          replace h := h w_passedIn_10 e_w_passedIn_10
          have hP : va_P g.1 vwCl (wW g wq w_wanted w_loadAt w_passedIn_10 w_secondArm w_power w_limit w_wantedSpeed r40_8 w_speed w_load_6 w_ticks) H := hP
          have hD : va_D A (wW g wq w_wanted w_loadAt w_passedIn_10 w_secondArm w_power w_limit w_wantedSpeed r40_8 w_speed w_load_6 w_ticks) := hD
          refine lv_aload_n hx hb dX3_turn_59 rfl (lv_at hl 2 rfl) ?_
          refine lv_dup hx hb dX3_turn_60 rfl ?_
          refine va_get (D := g.1) (ci := 3) (v := .int w_load_6) (C := RX3) (T := TX3) (N := 11) hx hb hts iX3 hown hK.1 hP 0 rfl rfl 9 (by decide) (hts (.fieldLink RX3 75 "LightWheel$Sweep" "load" "I") (by decide +kernel)) (fun _ h9 => h9) rfl dX3_turn_61 ?_
          refine lv_aload_n hx hb dX3_turn_64 rfl (lv_at hl 2 rfl) ?_
          refine va_get (D := g.1) (ci := 3) (v := .ref (wq 2)) (C := RX3) (T := TX3) (N := 11) hx hb hts iX3 hown hK.1 hP 0 rfl rfl 1 (by decide) (hts (.fieldLink RX3 15 "LightWheel$Sweep" "loadAt" "[I") (by decide +kernel)) (fun _ h9 => h9) rfl dX3_turn_65 ?_
          refine lv_aload_n hx hb dX3_turn_68 rfl (lv_at hl 2 rfl) ?_
          refine va_get (D := g.1) (ci := 3) (v := .int r40_8) (C := RX3) (T := TX3) (N := 11) hx hb hts iX3 hown hK.1 hP 0 rfl rfl 7 (by decide) (hts (.fieldLink RX3 67 "LightWheel$Sweep" "angle" "I") (by decide +kernel)) (fun _ h9 => h9) rfl dX3_turn_69 ?_
          have o_72_10 := h.1
          replace h := h.2
          refine va_iald hx hb hK.1 hP 2 0 rfl rfl o_72_10 dX3_turn_72 ?_
          refine lv_iadd hx hb dX3_turn_73 ?_
          refine lv_topi (fun f_load_12 e_f_load_12 => ?_)
          replace h := h f_load_12 e_f_load_12
          refine va_put (D := g.1) (ci := 3) (v := .int f_load_12) (ty := .int) (C := RX3) (T := TX3) (N := 11) hx hb hts iX3 tyX3 tyX3_ok nmX3 hown hK.1 hP hD hS 0 rfl rfl 9 (by decide) (hts (.fieldLink RX3 75 "LightWheel$Sweep" "load" "I") (by decide +kernel)) (fun _ h9 => h9) rfl (by decide +kernel) rfl rfl (Nat.le_of_ble_eq_true rfl) dX3_turn_74 (fun H locs hP hD hS => ?_)
          have hP : va_P g.1 vwCl (wW g wq w_wanted w_loadAt w_passedIn_10 w_secondArm w_power w_limit w_wantedSpeed r40_8 w_speed f_load_12 w_ticks) H := hP
          have hD : va_D A (wW g wq w_wanted w_loadAt w_passedIn_10 w_secondArm w_power w_limit w_wantedSpeed r40_8 w_speed f_load_12 w_ticks) := hD
          obtain ⟨v2_13, e_v2_13⟩ : ∃ y : Int32, y = v2_3 + (-1 : Int32) := ⟨_, rfl⟩
          replace h := h v2_13 e_v2_13
          refine lv_iinc (v := v2_13) (lv' := [(2, .int v2_13), (1, .int t_1), (0, .ref (wq 0))]) hx hb dX3_turn_77 hl (k := 0) rfl (by rw [e_v2_13]; rfl) (by decide) rfl (fun ls hl => ?_)
          refine lv_goto (tgt := 26) hx hb dX3_turn_80 (by decide) ?_
          exact ih_2 v2_13 w_passedIn_10 r40_8 f_load_12 H locs ls h hP hD hS (lv_sub hl [0, 1, 2] rfl)
    obtain ⟨n_2, h⟩ := h
    refine loop_2 _ ?_ n_2 v2_2 w_passedIn w_angle (0 : Int32) _ _ ls h hP hD hS (lv_sub hl [0, 1, 2] rfl)
    intro v2_3 w_passedIn_4 w_angle_5 w_load_6 H locs ls h hP hD hS hl
    exact W.vret hx hb hr (fun t ht hW => ⟨⟨(w_passedIn_4, w_angle_5, w_load_6), rfl, h, by rw [ht]; exact hP, hD⟩, hS.F ht⟩) hS.2.2 dX3_turn_83
  refine lv_if_le (tgt := 11) hx hb dX3_turn_4 (by decide) (fun c_4_13 => ?_) (fun c_4_13 => ?_)
  · replace h := h.1 c_4_13
    refine lv_iconst (v := (-1 : Int32)) hx hb dX3_turn_11 (by decide) ?_
    exact tail_1 (-1 : Int32) H locs ls h hP hD hS (lv_sub hl [0] rfl)
  · replace h := h.2 c_4_13
    refine lv_iconst (v := (1 : Int32)) hx hb dX3_turn_7 (by decide) ?_
    refine lv_goto (tgt := 12) hx hb dX3_turn_8 (by decide) ?_
    exact tail_1 (1 : Int32) H locs ls h hP hD hS (lv_sub hl [0] rfl)
theorem hdX3_goOn : yX3_goOn.cls = RX3 ∧ yX3_goOn.cls ≠ "java/lang/invoke/MethodHandle" ∧ yX3_goOn.cls ≠ "java/lang/invoke/VarHandle" ∧ (parseMethodDescriptor yX3_goOn.desc).map (fun d => d.parameters.length) = some 1 := by decide +kernel
set_option maxHeartbeats 4000000 in
set_option maxRecDepth 100000 in
theorem kX3_goOn (l : Launch) (g : GG) (wq : Nat → Nat) (sz : Nat) (w_wanted : Nat → Int64) (w_loadAt : Nat → Int32) (w_passedIn : Nat → Int32) (w_secondArm : Int32) (w_power : Int32) (w_limit : Int32) (w_wantedSpeed : Int32) (w_angle : Int32) (w_speed : Int32) (w_load : Int32) (w_ticks : Int32) (a_1 : Int32) (k : (Nat → Int32) → Int32 → Int32 → Int32 → Int32 → Prop) (h : PX3_goOn w_loadAt w_passedIn w_power w_limit w_wantedSpeed w_angle w_speed w_load w_ticks a_1 k) : Met l yX3_goOn wsX3_goOn ({ frames := 2, cells := 0, slots := 0, locals := 44 }) (PreM g [.ref (wq 0), .int a_1] (wW g wq w_wanted w_loadAt w_passedIn w_secondArm w_power w_limit w_wantedSpeed w_angle w_speed w_load w_ticks) sz) (va_Qv (fun u : (Nat → Int32) × Int32 × Int32 × Int32 × Int32 => k u.1 u.2.1 u.2.2.1 u.2.2.2.1 u.2.2.2.2) (fun u t => PostB g (va_A (wW g wq w_wanted w_loadAt w_passedIn w_secondArm w_power w_limit w_wantedSpeed w_angle w_speed w_load w_ticks) sz) (wW g wq w_wanted w_loadAt u.1 w_secondArm w_power w_limit w_wantedSpeed u.2.1 u.2.2.1 u.2.2.2.1 u.2.2.2.2) t) (va_A (wW g wq w_wanted w_loadAt w_passedIn w_secondArm w_power w_limit w_wantedSpeed w_angle w_speed w_load w_ticks) sz)) 0 0 (va_A (wW g wq w_wanted w_loadAt w_passedIn w_secondArm w_power w_limit w_wantedSpeed w_angle w_speed w_load w_ticks) sz) := by
  refine Met.ofW (cc := cX3_goOn) (maxL := 3) (ret := none) (by decide) rfl ?_
  intro p e s m args below meth c s₁ B hml hv
  obtain ⟨rfl, hsz, hP, hK, hD0⟩ := hv
  have hx := B.exec
  have hb := B.bytes
  have hr := B.returns
  have hts := atoms_spec (ws := wsX3_goOn) B.pre
  have hown : s.vm.findClass RX3 = some m.cls := findClass_of_methodNamed B.named
  have hlocks := B.notSynchronized
  have iX3 : ∀ w ∈ wsX30, w ∈ wsX3_goOn := by decide +kernel
  subst hsz
  have hD := hD0.self (sz := s.heap.size)
  generalize hAe : va_A (wW g wq w_wanted w_loadAt w_passedIn w_secondArm w_power w_limit w_wantedSpeed w_angle w_speed w_load w_ticks) s.heap.size = A at hD ⊢
  have hA : ∀ q : Nat, s.heap.size ≤ q → A q := fun q h => by rw [← hAe]; exact Or.inr h
  clear hAe hD0
  have hS : va_S A s.heap s.heap [] := va_S.rf
  have hl := lv_entry ([.ref (wq 0), .int a_1]) (n := 3) (Nat.le_of_ble_eq_true rfl)
  rw [lg_entry_eq]
  generalize (lg_sl ([.ref (wq 0), .int a_1]) ++ List.replicate (3 - (lg_sl ([.ref (wq 0), .int a_1])).length) Slot.unset).toArray = ls at hl ⊢
  have hl : lv_has ls 3 [(0, .ref (wq 0)), (1, .int a_1)] := hl
  unfold PX3_goOn at h
  obtain ⟨H, hHe⟩ : ∃ y, y = s.heap := ⟨_, rfl⟩
  rw [← hHe] at hP
  have hS : va_S A s.heap H [] := by rw [hHe]; exact hS
  have hW0 : ∀ (Q : State → Prop), W p l e (headSpec wsX3_goOn ({ frames := 2, cells := 0, slots := 0, locals := 44 })).room s m ([.ref (wq 0), .int a_1] : List Value).toArray below meth c H [] 0 0 Q (F0 m 0 ls []) → W p l e (headSpec wsX3_goOn ({ frames := 2, cells := 0, slots := 0, locals := 44 })).room s m ([.ref (wq 0), .int a_1] : List Value).toArray below meth c s.heap [] 0 0 Q (F0 m 0 ls []) := by rw [hHe]; exact fun _ h9 => h9
  refine hW0 _ ?_
  clear hW0 hHe
  generalize ([] : List Loc) = locs at hS ⊢
  refine lv_iconst (v := (0 : Int32)) hx hb dX3_goOn_0 (by decide) ?_
  refine lv_istore_n (lv' := [(2, .int (0 : Int32)), (0, .ref (wq 0)), (1, .int a_1)]) hx hb dX3_goOn_1 rfl hl (by decide) rfl (fun ls hl => ?_)
  have loop_1 : ∀ (kx_1 : Int32 → (Nat → Int32) → Int32 → Int32 → Int32 → Int32 → Prop), (∀ (v2_1 : Int32) (w_passedIn_2 : Nat → Int32) (w_angle_3 : Int32) (w_speed_4 : Int32) (w_load_5 : Int32) (w_ticks_6 : Int32) (H : Heap) (locs : List Loc) (ls : Array Slot), kx_1 v2_1 w_passedIn_2 w_angle_3 w_speed_4 w_load_5 w_ticks_6 → va_P g.1 vwCl (wW g wq w_wanted w_loadAt w_passedIn_2 w_secondArm w_power w_limit w_wantedSpeed w_angle_3 w_speed_4 w_load_5 w_ticks_6) H → va_D A (wW g wq w_wanted w_loadAt w_passedIn_2 w_secondArm w_power w_limit w_wantedSpeed w_angle_3 w_speed_4 w_load_5 w_ticks_6) → va_S A s.heap H locs → lv_has ls 3 [(2, .int v2_1), (0, .ref (wq 0)), (1, .int a_1)] → W p l e (headSpec wsX3_goOn ({ frames := 2, cells := 0, slots := 0, locals := 44 })).room s m ([.ref (wq 0), .int a_1] : List Value).toArray below meth c H locs 0 0 (MQ below (va_Qv (fun u : (Nat → Int32) × Int32 × Int32 × Int32 × Int32 => k u.1 u.2.1 u.2.2.1 u.2.2.2.1 u.2.2.2.2) (fun u t => PostB g A (wW g wq w_wanted w_loadAt u.1 w_secondArm w_power w_limit w_wantedSpeed u.2.1 u.2.2.1 u.2.2.2.1 u.2.2.2.2) t) A) ([.ref (wq 0), .int a_1] : List Value).toArray s 0 0 A) (F0 m 31 ls [])) → ∀ (n_1 : Nat) (v2_1 : Int32) (w_passedIn_2 : Nat → Int32) (w_angle_3 : Int32) (w_speed_4 : Int32) (w_load_5 : Int32) (w_ticks_6 : Int32) (H : Heap) (locs : List Loc) (ls : Array Slot), PX3_goOn_L1 w_loadAt w_power w_limit w_wantedSpeed a_1 kx_1 n_1 v2_1 w_passedIn_2 w_angle_3 w_speed_4 w_load_5 w_ticks_6 → va_P g.1 vwCl (wW g wq w_wanted w_loadAt w_passedIn_2 w_secondArm w_power w_limit w_wantedSpeed w_angle_3 w_speed_4 w_load_5 w_ticks_6) H → va_D A (wW g wq w_wanted w_loadAt w_passedIn_2 w_secondArm w_power w_limit w_wantedSpeed w_angle_3 w_speed_4 w_load_5 w_ticks_6) → va_S A s.heap H locs → lv_has ls 3 [(2, .int v2_1), (0, .ref (wq 0)), (1, .int a_1)] → W p l e (headSpec wsX3_goOn ({ frames := 2, cells := 0, slots := 0, locals := 44 })).room s m ([.ref (wq 0), .int a_1] : List Value).toArray below meth c H locs 0 0 (MQ below (va_Qv (fun u : (Nat → Int32) × Int32 × Int32 × Int32 × Int32 => k u.1 u.2.1 u.2.2.1 u.2.2.2.1 u.2.2.2.2) (fun u t => PostB g A (wW g wq w_wanted w_loadAt u.1 w_secondArm w_power w_limit w_wantedSpeed u.2.1 u.2.2.1 u.2.2.2.1 u.2.2.2.2) t) A) ([.ref (wq 0), .int a_1] : List Value).toArray s 0 0 A) (F0 m 2 ls []) := by
    intro kx_1 hexit_1 n_1
    induction n_1 with
    | zero => exact fun _ _ _ _ _ _ _ _ _ h _ _ _ _ => (h : False).elim
    | succ n_1 ih_1 =>
      intro v2_1 w_passedIn_2 w_angle_3 w_speed_4 w_load_5 w_ticks_6 H locs ls h hP hD hS hl
      unfold PX3_goOn_L1 at h
      refine lv_iload_n hx hb dX3_goOn_2 rfl (lv_at hl 0 rfl) ?_
      refine lv_iload_n hx hb dX3_goOn_3 rfl (lv_at hl 2 rfl) ?_
      refine lv_icmp_ge (tgt := 31) hx hb dX3_goOn_4 (by decide) (fun c_4_6 => ?_) (fun c_4_6 => ?_)
      · replace h := h.1 c_4_6
        exact hexit_1 v2_1 w_passedIn_2 w_angle_3 w_speed_4 w_load_5 w_ticks_6 H locs ls h hP hD hS (lv_sub hl [0, 1, 2] rfl)
      · replace h := h.2 c_4_6
        refine lv_aload_n hx hb dX3_goOn_7 rfl (lv_at hl 1 rfl) ?_
        refine lv_dup hx hb dX3_goOn_8 rfl ?_
        refine va_get (D := g.1) (ci := 3) (v := .int w_ticks_6) (C := RX3) (T := TX3) (N := 11) hx hb hts iX3 hown hK.1 hP 0 rfl rfl 10 (by decide) (hts (.fieldLink RX3 76 "LightWheel$Sweep" "ticks" "I") (by decide +kernel)) (fun _ h9 => h9) rfl dX3_goOn_9 ?_
        refine lv_iconst (v := (1 : Int32)) hx hb dX3_goOn_12 (by decide) ?_
        refine lv_iadd hx hb dX3_goOn_13 ?_
        refine lv_topi (fun f_ticks_8 e_f_ticks_8 => ?_)
        replace h := h f_ticks_8 e_f_ticks_8
        refine va_put (D := g.1) (ci := 3) (v := .int f_ticks_8) (ty := .int) (C := RX3) (T := TX3) (N := 11) hx hb hts iX3 tyX3 tyX3_ok nmX3 hown hK.1 hP hD hS 0 rfl rfl 10 (by decide) (hts (.fieldLink RX3 76 "LightWheel$Sweep" "ticks" "I") (by decide +kernel)) (fun _ h9 => h9) rfl (by decide +kernel) rfl rfl (Nat.le_of_ble_eq_true rfl) dX3_goOn_14 (fun H locs hP hD hS => ?_)
        have hP : va_P g.1 vwCl (wW g wq w_wanted w_loadAt w_passedIn_2 w_secondArm w_power w_limit w_wantedSpeed w_angle_3 w_speed_4 w_load_5 f_ticks_8) H := hP
        have hD : va_D A (wW g wq w_wanted w_loadAt w_passedIn_2 w_secondArm w_power w_limit w_wantedSpeed w_angle_3 w_speed_4 w_load_5 f_ticks_8) := hD
        refine lv_aload_n hx hb dX3_goOn_17 rfl (lv_at hl 1 rfl) ?_
        have hFc := va_freeA hD hS hA
        refine va_callv (va_runV (As := []) (rest := []) ⟨hx, hb, hml, hown, hts⟩ (kX3_changeSpeed l g wq H.size w_wanted w_loadAt w_passedIn_2 w_secondArm w_power w_limit w_wantedSpeed w_angle_3 w_speed_4 w_load_5 f_ticks_8 _ h) (cwV 0 hts gX3_goOn_X3_changeSpeed rfl rfl rfl hdX3_changeSpeed ⟨(Nat.le_of_ble_eq_true rfl), (Nat.le_of_ble_eq_true rfl)⟩) (preV_M (r := (RX3, TX3, 11)) hK hP hD (ci := 3) (q0 := 0) rfl rfl) rfl rfl hl.1 rfl (lv_room (Nat.le_of_ble_eq_true rfl)) dX3_goOn_18 ⟨(Nat.le_of_ble_eq_true rfl), (Nat.le_of_ble_eq_true rfl)⟩) hS (fun q _ h9 => hFc q h9) hFc (fun u t H1 locs ht hvm hw hB hz1 hk1 hS => ?_)
        obtain ⟨w_speed_9, ez9⟩ : ∃ y, y = u := ⟨_, rfl⟩
        subst ez9
        replace h := hw
        try dsimp only at h
        obtain ⟨hP, hD⟩ := jn0 (wf := (wW g wq w_wanted w_loadAt w_passedIn_2 w_secondArm w_power w_limit w_wantedSpeed w_angle_3 w_speed_9 w_load_5 f_ticks_8)) hB ht hFc
        have hP : va_P g.1 vwCl (wW g wq w_wanted w_loadAt w_passedIn_2 w_secondArm w_power w_limit w_wantedSpeed w_angle_3 w_speed_9 w_load_5 f_ticks_8) H1 := hP
        have hD : va_D A (wW g wq w_wanted w_loadAt w_passedIn_2 w_secondArm w_power w_limit w_wantedSpeed w_angle_3 w_speed_9 w_load_5 f_ticks_8) := hD
        clear hk1 hz1 hB ht hw hFc
        generalize H1 = H at hP hS ⊢
        refine lv_aload_n hx hb dX3_goOn_21 rfl (lv_at hl 1 rfl) ?_
        have hFc := va_freeA hD hS hA
        refine va_callv (va_runV (As := []) (rest := []) ⟨hx, hb, hml, hown, hts⟩ (kX3_turn l g wq H.size w_wanted w_loadAt w_passedIn_2 w_secondArm w_power w_limit w_wantedSpeed w_angle_3 w_speed_9 w_load_5 f_ticks_8 _ h) (cwV 0 hts gX3_goOn_X3_turn rfl rfl rfl hdX3_turn ⟨(Nat.le_of_ble_eq_true rfl), (Nat.le_of_ble_eq_true rfl)⟩) (preV_M (r := (RX3, TX3, 11)) hK hP hD (ci := 3) (q0 := 0) rfl rfl) rfl rfl hl.1 rfl (lv_room (Nat.le_of_ble_eq_true rfl)) dX3_goOn_22 ⟨(Nat.le_of_ble_eq_true rfl), (Nat.le_of_ble_eq_true rfl)⟩) hS (fun q _ h9 => hFc q h9) hFc (fun u t H1 locs ht hvm hw hB hz1 hk1 hS => ?_)
        obtain ⟨w_passedIn_10, w_angle_11, w_load_12⟩ := u
        replace h := hw
        try dsimp only at h
        obtain ⟨hP, hD⟩ := jn0 (wf := (wW g wq w_wanted w_loadAt w_passedIn_10 w_secondArm w_power w_limit w_wantedSpeed w_angle_11 w_speed_9 w_load_12 f_ticks_8)) hB ht hFc
        have hP : va_P g.1 vwCl (wW g wq w_wanted w_loadAt w_passedIn_10 w_secondArm w_power w_limit w_wantedSpeed w_angle_11 w_speed_9 w_load_12 f_ticks_8) H1 := hP
        have hD : va_D A (wW g wq w_wanted w_loadAt w_passedIn_10 w_secondArm w_power w_limit w_wantedSpeed w_angle_11 w_speed_9 w_load_12 f_ticks_8) := hD
        clear hk1 hz1 hB ht hw hFc
        generalize H1 = H at hP hS ⊢
        obtain ⟨v2_13, e_v2_13⟩ : ∃ y : Int32, y = v2_1 + (1 : Int32) := ⟨_, rfl⟩
        replace h := h v2_13 e_v2_13
        refine lv_iinc (v := v2_13) (lv' := [(2, .int v2_13), (0, .ref (wq 0)), (1, .int a_1)]) hx hb dX3_goOn_25 hl (k := 0) rfl (by rw [e_v2_13]; rfl) (by decide) rfl (fun ls hl => ?_)
        refine lv_goto (tgt := 2) hx hb dX3_goOn_28 (by decide) ?_
        exact ih_1 v2_13 w_passedIn_10 w_angle_11 w_speed_9 w_load_12 f_ticks_8 H locs ls h hP hD hS (lv_sub hl [0, 1, 2] rfl)
  obtain ⟨n_1, h⟩ := h
  refine loop_1 _ ?_ n_1 (0 : Int32) w_passedIn w_angle w_speed w_load w_ticks _ _ ls h hP hD hS (lv_sub hl [0, 1, 2] rfl)
  intro v2_1 w_passedIn_2 w_angle_3 w_speed_4 w_load_5 w_ticks_6 H locs ls h hP hD hS hl
  exact W.vret hx hb hr (fun t ht hW => ⟨⟨(w_passedIn_2, w_angle_3, w_speed_4, w_load_5, w_ticks_6), rfl, h, by rw [ht]; exact hP, hD⟩, hS.F ht⟩) hS.2.2 dX3_goOn_31
