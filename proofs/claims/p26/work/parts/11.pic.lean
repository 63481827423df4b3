def PX0_coveredAngles (p_width : Int32) (p_step : Int32)  (k : Int32 → Prop) : Prop := (k (if (p_width * p_step) < (720 : Int32) then (p_width * p_step) else (720 : Int32)))
def PX0_covers (p_width : Int32) (p_first : Int32) (p_step : Int32) (a_1 : Int32) (k : Int32 → Prop) : Prop := PJ9_floorMod_7cf53 (a_1 - p_first) (720 : Int32) (fun r9_1 => PX0_coveredAngles p_width p_step (fun r13_2 => ((r13_2 ≤ r9_1 → (k (0 : Int32))) ∧ (¬ r13_2 ≤ r9_1 → (k (1 : Int32))))))
def PX0_columnOf (p_width : Int32) (p_first : Int32) (p_step : Int32) (p_kind : Int32) (a_1 : Int32) (k : Int32 → Prop) : Prop := PJ9_floorMod_7cf53 (a_1 - p_first) (720 : Int32) (fun r9_1 => (¬ p_step = 0 ∧ (∀ v2_3 : Int32, v2_3 = (r9_1 / p_step) → ((¬ p_kind = (1 : Int32) → (k v2_3)) ∧ (p_kind = (1 : Int32) → (k ((p_width - (1 : Int32)) - v2_3)))))))
def PX0_wantedAt (p_width : Int32) (p_first : Int32) (p_step : Int32) (p_kind : Int32) (p_columns : Nat → Int64) (a_1 : Int32) (k : Int64 → Prop) : Prop := ((p_kind = (2 : Int32) → (k (0 : Int64))) ∧ (¬ p_kind = (2 : Int32) → PX0_covers p_width p_first p_step a_1 (fun r10_2 => ((r10_2 = 0 → (k (0 : Int64))) ∧ (¬ r10_2 = 0 → PX0_columnOf p_width p_first p_step p_kind a_1 (fun r22_4 => (vp_in r22_4 40 ∧ (k (p_columns (Int32.toNatClampNeg r22_4))))))))))
def PX0_countNotDark_L1 (p_width : Int32) (p_columns : Nat → Int64) (kx_1 : Int32 → Int32 → Prop) : Nat → Int32 → Int32 → Prop
  | 0, _, _ => False
  | n_1 + 1, v1_1, v2_2 => ((p_width ≤ v2_2 → kx_1 v1_1 v2_2) ∧ (¬ p_width ≤ v2_2 → (vp_in v2_2 40 ∧ PX4_notDark (p_columns (Int32.toNatClampNeg v2_2)) (fun r19_5 => PJ13_bitCount_95d88 r19_5 (fun r22_6 => (∀ v1_7 : Int32, v1_7 = (v1_1 + r22_6) → (∀ v2_8 : Int32, v2_8 = v2_2 + (1 : Int32) → PX0_countNotDark_L1 p_width p_columns kx_1 n_1 v1_7 v2_8)))))))
def PX0_countNotDark (p_width : Int32) (p_columns : Nat → Int64)  (k : Int32 → Prop) : Prop := (∃ n_1, PX0_countNotDark_L1 p_width p_columns (fun v1_1 v2_2 => (k v1_1)) n_1 (0 : Int32) (0 : Int32))
def PX0_copyFrom (p_width : Int32) (p_first : Int32) (p_step : Int32) (p_kind : Int32) (p_columns : Nat → Int64) (u_width : Int32) (u_first : Int32) (u_step : Int32) (u_kind : Int32) (u_columns : Nat → Int64)  (k : Int32 → Int32 → Int32 → Int32 → (Nat → Int64) → Prop) : Prop := (∀ p_columns_1 : Nat → Int64, p_columns_1 = va_cpy u_columns p_columns 0 0 40 → (k u_width u_first u_step u_kind p_columns_1))
theorem hdX0_coveredAngles : yX0_coveredAngles.cls = RX0 ∧ yX0_coveredAngles.cls ≠ "java/lang/invoke/MethodHandle" ∧ yX0_coveredAngles.cls ≠ "java/lang/invoke/VarHandle" ∧ (parseMethodDescriptor yX0_coveredAngles.desc).map (fun d => d.parameters.length) = some 0 := by decide +kernel
set_option maxHeartbeats 4000000 in
set_option maxRecDepth 100000 in
theorem kX0_coveredAngles (l : Launch) (g : GG) (q : Nat → Nat) (p_width : Int32) (p_first : Int32) (p_step : Int32) (p_kind : Int32) (p_columns : Nat → Int64)  (k : Int32 → Prop) (h : PX0_coveredAngles p_width p_step  k) : Met l yX0_coveredAngles wsX0_coveredAngles ({ frames := 1, cells := 0, slots := 0, locals := 21 }) (PreR g [.ref (q 0)] (wP g q p_width p_first p_step p_kind p_columns)) (vp_Si k) 0 0 (fun _ => False) := by
  refine Met.ofW (cc := cX0_coveredAngles) (maxL := 1) (ret := (some .int)) (by decide) rfl ?_
  intro p e s m args below meth c s₁ B hml hv
  obtain ⟨rfl, hP, hK⟩ := hv
  have hx := B.exec
  have hb := B.bytes
  have hr := B.returns
  have hts := atoms_spec (ws := wsX0_coveredAngles) B.pre
  have hown : s.vm.findClass RX0 = some m.cls := findClass_of_methodNamed B.named
  have hlocks := B.notSynchronized
  have iX0 : ∀ w ∈ wsX00, w ∈ wsX0_coveredAngles := by decide +kernel
  have hl := lv_entry ([.ref (q 0)]) (n := 1) (Nat.le_of_ble_eq_true rfl)
  rw [lg_entry_eq]
  generalize (lg_sl ([.ref (q 0)]) ++ List.replicate (1 - (lg_sl ([.ref (q 0)])).length) Slot.unset).toArray = ls at hl ⊢
  have hl : lv_has ls 1 [(0, .ref (q 0))] := hl
  unfold PX0_coveredAngles at h
  refine lv_sipush (v := (720 : Int32)) hx hb dX0_coveredAngles_0 (by decide) ?_
  refine lv_aload_n hx hb dX0_coveredAngles_3 rfl (lv_at hl 0 rfl) ?_
  refine va_get (D := g.1) (ci := 0) (v := .int p_width) (C := RX0) (T := TX0) (N := 5) hx hb hts iX0 hown hK.1 hP 0 rfl rfl 0 (by decide) (hts (.fieldLink RX0 9 "LightWheel$Picture" "width" "I") (by decide +kernel)) (fun _ h9 => h9) rfl dX0_coveredAngles_4 ?_
  refine lv_aload_n hx hb dX0_coveredAngles_7 rfl (lv_at hl 0 rfl) ?_
  refine va_get (D := g.1) (ci := 0) (v := .int p_step) (C := RX0) (T := TX0) (N := 5) hx hb hts iX0 hown hK.1 hP 0 rfl rfl 2 (by decide) (hts (.fieldLink RX0 18 "LightWheel$Picture" "step" "I") (by decide +kernel)) (fun _ h9 => h9) rfl dX0_coveredAngles_8 ?_
  refine lv_imul hx hb dX0_coveredAngles_11 ?_
  refine va_mmin hx hb (hml.trans hl.1.symm) hown (hts (.methodLink RX0 34 Lib.Math.min.name) (by decide +kernel)) (hts (.static Lib.Math.min.name) (by decide +kernel)) (hts (.initialized "java/lang/Math") (by decide +kernel)) (hts (.code Lib.Math.min.name Lib.Math.min.code 2 (some .int)) (by decide +kernel)) (Nat.le_of_ble_eq_true rfl) (Nat.le_of_ble_eq_true rfl) (Nat.zero_le _) (Nat.zero_le _) dX0_coveredAngles_12 ?_
  exact W.iret hx hb hr (fun t ht hW => ⟨(if (p_width * p_step) < (720 : Int32) then (p_width * p_step) else (720 : Int32)), rfl, h, ht⟩) (fun _ h9 => by cases h9) dX0_coveredAngles_15
theorem hdX0_covers : yX0_covers.cls = RX0 ∧ yX0_covers.cls ≠ "java/lang/invoke/MethodHandle" ∧ yX0_covers.cls ≠ "java/lang/invoke/VarHandle" ∧ (parseMethodDescriptor yX0_covers.desc).map (fun d => d.parameters.length) = some 1 := by decide +kernel
set_option maxHeartbeats 4000000 in
set_option maxRecDepth 100000 in
theorem kX0_covers (l : Launch) (g : GG) (q : Nat → Nat) (p_width : Int32) (p_first : Int32) (p_step : Int32) (p_kind : Int32) (p_columns : Nat → Int64) (a_1 : Int32) (k : Int32 → Prop) (h : PX0_covers p_width p_first p_step a_1 k) : Met l yX0_covers wsX0_covers ({ frames := 2, cells := 0, slots := 0, locals := 41 }) (PreR g [.ref (q 0), .int a_1] (wP g q p_width p_first p_step p_kind p_columns)) (vp_Si k) 0 0 (fun _ => False) := by
  refine Met.ofW (cc := cX0_covers) (maxL := 2) (ret := (some .boolean)) (by decide) rfl ?_
  intro p e s m args below meth c s₁ B hml hv
  obtain ⟨rfl, hP, hK⟩ := hv
  have hx := B.exec
  have hb := B.bytes
  have hr := B.returns
  have hts := atoms_spec (ws := wsX0_covers) B.pre
  have hown : s.vm.findClass RX0 = some m.cls := findClass_of_methodNamed B.named
  have hlocks := B.notSynchronized
  have iX0 : ∀ w ∈ wsX00, w ∈ wsX0_covers := by decide +kernel
  have hl := lv_entry ([.ref (q 0), .int a_1]) (n := 2) (Nat.le_of_ble_eq_true rfl)
  rw [lg_entry_eq]
  generalize (lg_sl ([.ref (q 0), .int a_1]) ++ List.replicate (2 - (lg_sl ([.ref (q 0), .int a_1])).length) Slot.unset).toArray = ls at hl ⊢
  have hl : lv_has ls 2 [(0, .ref (q 0)), (1, .int a_1)] := hl
  unfold PX0_covers at h
  refine lv_iload_n hx hb dX0_covers_0 rfl (lv_at hl 1 rfl) ?_
  refine lv_aload_n hx hb dX0_covers_1 rfl (lv_at hl 0 rfl) ?_
  refine va_get (D := g.1) (ci := 0) (v := .int p_first) (C := RX0) (T := TX0) (N := 5) hx hb hts iX0 hown hK.1 hP 0 rfl rfl 1 (by decide) (hts (.fieldLink RX0 15 "LightWheel$Picture" "first" "I") (by decide +kernel)) (fun _ h9 => h9) rfl dX0_covers_2 ?_
  refine lv_isub hx hb dX0_covers_5 ?_
  refine lv_sipush (v := (720 : Int32)) hx hb dX0_covers_6 (by decide) ?_
  refine vp_callSi (W.runS (As := [.int (a_1 - p_first), .int (720 : Int32)]) (rest := []) ⟨hx, hb, hml, hown, hts⟩ (kJ9_floorMod_7cf53 l g  (a_1 - p_first) (720 : Int32) _ h) (va_cwS 2 hts gX0_covers_J9_floorMod_7cf53 rfl rfl rfl hdJ9_floorMod_7cf53.2 ⟨(Nat.le_of_ble_eq_true rfl), (Nat.le_of_ble_eq_true rfl)⟩) (preS_R hK (va_P_nil (D := g.1) (cl := vwCl))) rfl rfl hl.1 rfl (lv_room (Nat.le_of_ble_eq_true rfl)) dX0_covers_9 ⟨(Nat.le_of_ble_eq_true rfl), (Nat.le_of_ble_eq_true rfl)⟩) (fun r9_1 h => ?_)
  refine lv_aload_n hx hb dX0_covers_12 rfl (lv_at hl 0 rfl) ?_
  refine vp_callSi (W.runV (As := []) (rest := [.int r9_1]) ⟨hx, hb, hml, hown, hts⟩ (kX0_coveredAngles l g q p_width p_first p_step p_kind p_columns _ h) (cwV 0 hts gX0_covers_X0_coveredAngles rfl rfl rfl hdX0_coveredAngles ⟨(Nat.le_of_ble_eq_true rfl), (Nat.le_of_ble_eq_true rfl)⟩) (preV_R (r := (RX0, TX0, 5)) hK hP (ci := 0) (q0 := 0) rfl rfl) rfl rfl hl.1 rfl (lv_room (Nat.le_of_ble_eq_true rfl)) dX0_covers_13 ⟨(Nat.le_of_ble_eq_true rfl), (Nat.le_of_ble_eq_true rfl)⟩) (fun r13_2 h => ?_)
  refine lv_icmp_ge (tgt := 23) hx hb dX0_covers_16 (by decide) (fun c_16_2 => ?_) (fun c_16_2 => ?_)
  · replace h := h.1 c_16_2
    refine lv_iconst (v := (0 : Int32)) hx hb dX0_covers_23 (by decide) ?_
    exact W.zret (v := (0 : Int32)) hx hb hr rfl (fun t ht hW => ⟨(0 : Int32), rfl, h, ht⟩) (fun _ h9 => by cases h9) dX0_covers_24
  · replace h := h.2 c_16_2
    refine lv_iconst (v := (1 : Int32)) hx hb dX0_covers_19 (by decide) ?_
    refine lv_goto (tgt := 24) hx hb dX0_covers_20 (by decide) ?_
    exact W.zret (v := (1 : Int32)) hx hb hr rfl (fun t ht hW => ⟨(1 : Int32), rfl, h, ht⟩) (fun _ h9 => by cases h9) dX0_covers_24
theorem hdX0_columnOf : yX0_columnOf.cls = RX0 ∧ yX0_columnOf.cls ≠ "java/lang/invoke/MethodHandle" ∧ yX0_columnOf.cls ≠ "java/lang/invoke/VarHandle" ∧ (parseMethodDescriptor yX0_columnOf.desc).map (fun d => d.parameters.length) = some 1 := by decide +kernel
set_option maxHeartbeats 4000000 in
set_option maxRecDepth 100000 in
theorem kX0_columnOf (l : Launch) (g : GG) (q : Nat → Nat) (p_width : Int32) (p_first : Int32) (p_step : Int32) (p_kind : Int32) (p_columns : Nat → Int64) (a_1 : Int32) (k : Int32 → Prop) (h : PX0_columnOf p_width p_first p_step p_kind a_1 k) : Met l yX0_columnOf wsX0_columnOf ({ frames := 1, cells := 0, slots := 0, locals := 22 }) (PreR g [.ref (q 0), .int a_1] (wP g q p_width p_first p_step p_kind p_columns)) (vp_Si k) 0 0 (fun _ => False) := by
  refine Met.ofW (cc := cX0_columnOf) (maxL := 3) (ret := (some .int)) (by decide) rfl ?_
  intro p e s m args below meth c s₁ B hml hv
  obtain ⟨rfl, hP, hK⟩ := hv
  have hx := B.exec
  have hb := B.bytes
  have hr := B.returns
  have hts := atoms_spec (ws := wsX0_columnOf) B.pre
  have hown : s.vm.findClass RX0 = some m.cls := findClass_of_methodNamed B.named
  have hlocks := B.notSynchronized
  have iX0 : ∀ w ∈ wsX00, w ∈ wsX0_columnOf := by decide +kernel
  have hl := lv_entry ([.ref (q 0), .int a_1]) (n := 3) (Nat.le_of_ble_eq_true rfl)
  rw [lg_entry_eq]
  generalize (lg_sl ([.ref (q 0), .int a_1]) ++ List.replicate (3 - (lg_sl ([.ref (q 0), .int a_1])).length) Slot.unset).toArray = ls at hl ⊢
  have hl : lv_has ls 3 [(0, .ref (q 0)), (1, .int a_1)] := hl
  unfold PX0_columnOf at h
  refine lv_iload_n hx hb dX0_columnOf_0 rfl (lv_at hl 1 rfl) ?_
  refine lv_aload_n hx hb dX0_columnOf_1 rfl (lv_at hl 0 rfl) ?_
  refine va_get (D := g.1) (ci := 0) (v := .int p_first) (C := RX0) (T := TX0) (N := 5) hx hb hts iX0 hown hK.1 hP 0 rfl rfl 1 (by decide) (hts (.fieldLink RX0 15 "LightWheel$Picture" "first" "I") (by decide +kernel)) (fun _ h9 => h9) rfl dX0_columnOf_2 ?_
  refine lv_isub hx hb dX0_columnOf_5 ?_
  refine lv_sipush (v := (720 : Int32)) hx hb dX0_columnOf_6 (by decide) ?_
  refine vp_callSi (W.runS (As := [.int (a_1 - p_first), .int (720 : Int32)]) (rest := []) ⟨hx, hb, hml, hown, hts⟩ (kJ9_floorMod_7cf53 l g  (a_1 - p_first) (720 : Int32) _ h) (va_cwS 2 hts gX0_columnOf_J9_floorMod_7cf53 rfl rfl rfl hdJ9_floorMod_7cf53.2 ⟨(Nat.le_of_ble_eq_true rfl), (Nat.le_of_ble_eq_true rfl)⟩) (preS_R hK (va_P_nil (D := g.1) (cl := vwCl))) rfl rfl hl.1 rfl (lv_room (Nat.le_of_ble_eq_true rfl)) dX0_columnOf_9 ⟨(Nat.le_of_ble_eq_true rfl), (Nat.le_of_ble_eq_true rfl)⟩) (fun r9_1 h => ?_)
  refine lv_aload_n hx hb dX0_columnOf_12 rfl (lv_at hl 0 rfl) ?_
  refine va_get (D := g.1) (ci := 0) (v := .int p_step) (C := RX0) (T := TX0) (N := 5) hx hb hts iX0 hown hK.1 hP 0 rfl rfl 2 (by decide) (hts (.fieldLink RX0 18 "LightWheel$Picture" "step" "I") (by decide +kernel)) (fun _ h9 => h9) rfl dX0_columnOf_13 ?_
  have o_16_1 := h.1
  replace h := h.2
  refine lv_idiv hx hb dX0_columnOf_16 o_16_1 ?_
  refine lv_topi (fun v2_3 e_v2_3 => ?_)
  replace h := h v2_3 e_v2_3
  refine lv_istore_n (lv' := [(2, .int v2_3), (0, .ref (q 0)), (1, .int a_1)]) hx hb dX0_columnOf_17 rfl hl (by decide) rfl (fun ls hl => ?_)
  refine lv_aload_n hx hb dX0_columnOf_18 rfl (lv_at hl 1 rfl) ?_
  refine va_get (D := g.1) (ci := 0) (v := .int p_kind) (C := RX0) (T := TX0) (N := 5) hx hb hts iX0 hown hK.1 hP 0 rfl rfl 3 (by decide) (hts (.fieldLink RX0 21 "LightWheel$Picture" "kind" "I") (by decide +kernel)) (fun _ h9 => h9) rfl dX0_columnOf_19 ?_
  refine lv_iconst (v := (1 : Int32)) hx hb dX0_columnOf_22 (by decide) ?_
  refine lv_icmp_ne (tgt := 37) hx hb dX0_columnOf_23 (by decide) (fun c_23_3 => ?_) (fun c_23_3 => ?_)
  · replace h := h.1 c_23_3
    refine lv_iload_n hx hb dX0_columnOf_37 rfl (lv_at hl 0 rfl) ?_
    exact W.iret hx hb hr (fun t ht hW => ⟨v2_3, rfl, h, ht⟩) (fun _ h9 => by cases h9) dX0_columnOf_38
  · replace h := h.2 c_23_3
    refine lv_aload_n hx hb dX0_columnOf_26 rfl (lv_at hl 1 rfl) ?_
    refine va_get (D := g.1) (ci := 0) (v := .int p_width) (C := RX0) (T := TX0) (N := 5) hx hb hts iX0 hown hK.1 hP 0 rfl rfl 0 (by decide) (hts (.fieldLink RX0 9 "LightWheel$Picture" "width" "I") (by decide +kernel)) (fun _ h9 => h9) rfl dX0_columnOf_27 ?_
    refine lv_iconst (v := (1 : Int32)) hx hb dX0_columnOf_30 (by decide) ?_
    refine lv_isub hx hb dX0_columnOf_31 ?_
    refine lv_iload_n hx hb dX0_columnOf_32 rfl (lv_at hl 0 rfl) ?_
    refine lv_isub hx hb dX0_columnOf_33 ?_
    refine lv_goto (tgt := 38) hx hb dX0_columnOf_34 (by decide) ?_
    exact W.iret hx hb hr (fun t ht hW => ⟨((p_width - (1 : Int32)) - v2_3), rfl, h, ht⟩) (fun _ h9 => by cases h9) dX0_columnOf_38
theorem hdX0_wantedAt : yX0_wantedAt.cls = RX0 ∧ yX0_wantedAt.cls ≠ "java/lang/invoke/MethodHandle" ∧ yX0_wantedAt.cls ≠ "java/lang/invoke/VarHandle" ∧ (parseMethodDescriptor yX0_wantedAt.desc).map (fun d => d.parameters.length) = some 1 := by decide +kernel
set_option maxHeartbeats 4000000 in
set_option maxRecDepth 100000 in
theorem kX0_wantedAt (l : Launch) (g : GG) (q : Nat → Nat) (p_width : Int32) (p_first : Int32) (p_step : Int32) (p_kind : Int32) (p_columns : Nat → Int64) (a_1 : Int32) (k : Int64 → Prop) (h : PX0_wantedAt p_width p_first p_step p_kind p_columns a_1 k) : Met l yX0_wantedAt wsX0_wantedAt ({ frames := 3, cells := 0, slots := 0, locals := 62 }) (PreR g [.ref (q 0), .int a_1] (wP g q p_width p_first p_step p_kind p_columns)) (vp_Sl k) 0 0 (fun _ => False) := by
  refine Met.ofW (cc := cX0_wantedAt) (maxL := 2) (ret := (some .long)) (by decide) rfl ?_
  intro p e s m args below meth c s₁ B hml hv
  obtain ⟨rfl, hP, hK⟩ := hv
  have hx := B.exec
  have hb := B.bytes
  have hr := B.returns
  have hts := atoms_spec (ws := wsX0_wantedAt) B.pre
  have hown : s.vm.findClass RX0 = some m.cls := findClass_of_methodNamed B.named
  have hlocks := B.notSynchronized
  have iX0 : ∀ w ∈ wsX00, w ∈ wsX0_wantedAt := by decide +kernel
  have hl := lv_entry ([.ref (q 0), .int a_1]) (n := 2) (Nat.le_of_ble_eq_true rfl)
  rw [lg_entry_eq]
  generalize (lg_sl ([.ref (q 0), .int a_1]) ++ List.replicate (2 - (lg_sl ([.ref (q 0), .int a_1])).length) Slot.unset).toArray = ls at hl ⊢
  have hl : lv_has ls 2 [(0, .ref (q 0)), (1, .int a_1)] := hl
  unfold PX0_wantedAt at h
  refine lv_aload_n hx hb dX0_wantedAt_0 rfl (lv_at hl 0 rfl) ?_
  refine va_get (D := g.1) (ci := 0) (v := .int p_kind) (C := RX0) (T := TX0) (N := 5) hx hb hts iX0 hown hK.1 hP 0 rfl rfl 3 (by decide) (hts (.fieldLink RX0 21 "LightWheel$Picture" "kind" "I") (by decide +kernel)) (fun _ h9 => h9) rfl dX0_wantedAt_1 ?_
  refine lv_iconst (v := (2 : Int32)) hx hb dX0_wantedAt_4 (by decide) ?_
  refine lv_icmp_eq (tgt := 29) hx hb dX0_wantedAt_5 (by decide) (fun c_5_0 => ?_) (fun c_5_0 => ?_)
  · replace h := h.1 c_5_0
    refine lv_lconst (v := (0 : Int64)) hx hb dX0_wantedAt_29 (by decide) ?_
    exact W.lret hx hb hr (fun t ht hW => ⟨(0 : Int64), rfl, h, ht⟩) (fun _ h9 => by cases h9) dX0_wantedAt_30
  · replace h := h.2 c_5_0
    refine lv_aload_n hx hb dX0_wantedAt_8 rfl (lv_at hl 0 rfl) ?_
    refine lv_iload_n hx hb dX0_wantedAt_9 rfl (lv_at hl 1 rfl) ?_
    refine vp_callSi (W.runV (As := [.int a_1]) (rest := []) ⟨hx, hb, hml, hown, hts⟩ (kX0_covers l g q p_width p_first p_step p_kind p_columns a_1 _ h) (cwV 1 hts gX0_wantedAt_X0_covers rfl rfl rfl hdX0_covers ⟨(Nat.le_of_ble_eq_true rfl), (Nat.le_of_ble_eq_true rfl)⟩) (preV_R (r := (RX0, TX0, 5)) hK hP (ci := 0) (q0 := 0) rfl rfl) rfl rfl hl.1 rfl (lv_room (Nat.le_of_ble_eq_true rfl)) dX0_wantedAt_10 ⟨(Nat.le_of_ble_eq_true rfl), (Nat.le_of_ble_eq_true rfl)⟩) (fun r10_2 h => ?_)
    refine lv_if_eq (tgt := 29) hx hb dX0_wantedAt_13 (by decide) (fun c_13_2 => ?_) (fun c_13_2 => ?_)
    · replace h := h.1 c_13_2
      refine lv_lconst (v := (0 : Int64)) hx hb dX0_wantedAt_29 (by decide) ?_
      exact W.lret hx hb hr (fun t ht hW => ⟨(0 : Int64), rfl, h, ht⟩) (fun _ h9 => by cases h9) dX0_wantedAt_30
    · replace h := h.2 c_13_2
      refine lv_aload_n hx hb dX0_wantedAt_16 rfl (lv_at hl 0 rfl) ?_
      refine va_get (D := g.1) (ci := 0) (v := .ref (q 1)) (C := RX0) (T := TX0) (N := 5) hx hb hts iX0 hown hK.1 hP 0 rfl rfl 4 (by decide) (hts (.fieldLink RX0 24 "LightWheel$Picture" "columns" "[J") (by decide +kernel)) (fun _ h9 => h9) rfl dX0_wantedAt_17 ?_
      refine lv_aload_n hx hb dX0_wantedAt_20 rfl (lv_at hl 0 rfl) ?_
      refine lv_iload_n hx hb dX0_wantedAt_21 rfl (lv_at hl 1 rfl) ?_
      refine vp_callSi (W.runV (As := [.int a_1]) (rest := [.ref (q 1)]) ⟨hx, hb, hml, hown, hts⟩ (kX0_columnOf l g q p_width p_first p_step p_kind p_columns a_1 _ h) (cwV 1 hts gX0_wantedAt_X0_columnOf rfl rfl rfl hdX0_columnOf ⟨(Nat.le_of_ble_eq_true rfl), (Nat.le_of_ble_eq_true rfl)⟩) (preV_R (r := (RX0, TX0, 5)) hK hP (ci := 0) (q0 := 0) rfl rfl) rfl rfl hl.1 rfl (lv_room (Nat.le_of_ble_eq_true rfl)) dX0_wantedAt_22 ⟨(Nat.le_of_ble_eq_true rfl), (Nat.le_of_ble_eq_true rfl)⟩) (fun r22_4 h => ?_)
      have o_25_4 := h.1
      replace h := h.2
      refine va_lald hx hb hK.1 hP 1 1 rfl rfl o_25_4 dX0_wantedAt_25 ?_
      refine lv_goto (tgt := 30) hx hb dX0_wantedAt_26 (by decide) ?_
      exact W.lret hx hb hr (fun t ht hW => ⟨(p_columns (Int32.toNatClampNeg r22_4)), rfl, h, ht⟩) (fun _ h9 => by cases h9) dX0_wantedAt_30
theorem hdX0_countNotDark : yX0_countNotDark.cls = RX0 ∧ yX0_countNotDark.cls ≠ "java/lang/invoke/MethodHandle" ∧ yX0_countNotDark.cls ≠ "java/lang/invoke/VarHandle" ∧ (parseMethodDescriptor yX0_countNotDark.desc).map (fun d => d.parameters.length) = some 0 := by decide +kernel
set_option maxHeartbeats 4000000 in
set_option maxRecDepth 100000 in
theorem kX0_countNotDark (l : Launch) (g : GG) (q : Nat → Nat) (p_width : Int32) (p_first : Int32) (p_step : Int32) (p_kind : Int32) (p_columns : Nat → Int64)  (k : Int32 → Prop) (h : PX0_countNotDark p_width p_columns  k) : Met l yX0_countNotDark wsX0_countNotDark ({ frames := 1, cells := 0, slots := 0, locals := 21 }) (PreR g [.ref (q 0)] (wP g q p_width p_first p_step p_kind p_columns)) (vp_Si k) 0 0 (fun _ => False) := by
  refine Met.ofW (cc := cX0_countNotDark) (maxL := 3) (ret := (some .int)) (by decide) rfl ?_
  intro p e s m args below meth c s₁ B hml hv
  obtain ⟨rfl, hP, hK⟩ := hv
  have hx := B.exec
  have hb := B.bytes
  have hr := B.returns
  have hts := atoms_spec (ws := wsX0_countNotDark) B.pre
  have hown : s.vm.findClass RX0 = some m.cls := findClass_of_methodNamed B.named
  have hlocks := B.notSynchronized
  have iX0 : ∀ w ∈ wsX00, w ∈ wsX0_countNotDark := by decide +kernel
  have hl := lv_entry ([.ref (q 0)]) (n := 3) (Nat.le_of_ble_eq_true rfl)
  rw [lg_entry_eq]
  generalize (lg_sl ([.ref (q 0)]) ++ List.replicate (3 - (lg_sl ([.ref (q 0)])).length) Slot.unset).toArray = ls at hl ⊢
  have hl : lv_has ls 3 [(0, .ref (q 0))] := hl
  unfold PX0_countNotDark at h
  refine lv_iconst (v := (0 : Int32)) hx hb dX0_countNotDark_0 (by decide) ?_
  refine lv_istore_n (lv' := [(1, .int (0 : Int32)), (0, .ref (q 0))]) hx hb dX0_countNotDark_1 rfl hl (by decide) rfl (fun ls hl => ?_)
  refine lv_iconst (v := (0 : Int32)) hx hb dX0_countNotDark_2 (by decide) ?_
  refine lv_istore_n (lv' := [(2, .int (0 : Int32)), (1, .int (0 : Int32)), (0, .ref (q 0))]) hx hb dX0_countNotDark_3 rfl hl (by decide) rfl (fun ls hl => ?_)
  have loop_1 : ∀ (kx_1 : Int32 → Int32 → Prop), (∀ (v1_1 : Int32) (v2_2 : Int32) (ls : Array Slot), kx_1 v1_1 v2_2 → lv_has ls 3 [(2, .int v2_2), (1, .int v1_1), (0, .ref (q 0))] → W p l e (headSpec wsX0_countNotDark ({ frames := 1, cells := 0, slots := 0, locals := 21 })).room s m ([.ref (q 0)] : List Value).toArray below meth c s.heap [] 0 0 (MQ below (vp_Si k) ([.ref (q 0)] : List Value).toArray s 0 0 (fun _ => False)) (F0 m 33 ls [])) → ∀ (n_1 : Nat) (v1_1 : Int32) (v2_2 : Int32) (ls : Array Slot), PX0_countNotDark_L1 p_width p_columns kx_1 n_1 v1_1 v2_2 → lv_has ls 3 [(2, .int v2_2), (1, .int v1_1), (0, .ref (q 0))] → W p l e (headSpec wsX0_countNotDark ({ frames := 1, cells := 0, slots := 0, locals := 21 })).room s m ([.ref (q 0)] : List Value).toArray below meth c s.heap [] 0 0 (MQ below (vp_Si k) ([.ref (q 0)] : List Value).toArray s 0 0 (fun _ => False)) (F0 m 4 ls []) := by
    intro kx_1 hexit_1 n_1
    induction n_1 with
    | zero => exact fun _ _ _ h _ => (h : False).elim
    | succ n_1 ih_1 =>
      intro v1_1 v2_2 ls h hl
      unfold PX0_countNotDark_L1 at h
      refine lv_iload_n hx hb dX0_countNotDark_4 rfl (lv_at hl 0 rfl) ?_
      refine lv_aload_n hx hb dX0_countNotDark_5 rfl (lv_at hl 2 rfl) ?_
      refine va_get (D := g.1) (ci := 0) (v := .int p_width) (C := RX0) (T := TX0) (N := 5) hx hb hts iX0 hown hK.1 hP 0 rfl rfl 0 (by decide) (hts (.fieldLink RX0 9 "LightWheel$Picture" "width" "I") (by decide +kernel)) (fun _ h9 => h9) rfl dX0_countNotDark_6 ?_
      refine lv_icmp_ge (tgt := 33) hx hb dX0_countNotDark_9 (by decide) (fun c_9_2 => ?_) (fun c_9_2 => ?_)
      · replace h := h.1 c_9_2
        exact hexit_1 v1_1 v2_2 ls h (lv_sub hl [0, 1, 2] rfl)
      · replace h := h.2 c_9_2
        refine lv_iload_n hx hb dX0_countNotDark_12 rfl (lv_at hl 1 rfl) ?_
        refine lv_aload_n hx hb dX0_countNotDark_13 rfl (lv_at hl 2 rfl) ?_
        refine va_get (D := g.1) (ci := 0) (v := .ref (q 1)) (C := RX0) (T := TX0) (N := 5) hx hb hts iX0 hown hK.1 hP 0 rfl rfl 4 (by decide) (hts (.fieldLink RX0 24 "LightWheel$Picture" "columns" "[J") (by decide +kernel)) (fun _ h9 => h9) rfl dX0_countNotDark_14 ?_
        refine lv_iload_n hx hb dX0_countNotDark_17 rfl (lv_at hl 0 rfl) ?_
        have o_18_3 := h.1
        replace h := h.2
        refine va_lald hx hb hK.1 hP 1 1 rfl rfl o_18_3 dX0_countNotDark_18 ?_
        refine vp_callSl (va_Run.run (va_runSN (As := [.long (p_columns (Int32.toNatClampNeg v2_2))]) (rest := [.int v1_1]) ⟨hx, hb, hml, hown, hts⟩ (kX4_notDark l g  (p_columns (Int32.toNatClampNeg v2_2)) _ h) ⟨va_cnB 1 hts gX0_countNotDark_X4_notDark_n55 rfl rfl rfl hK.2.1 (hts (.initialized RX4) (by decide +kernel)) hdX4_notDark.2 ⟨(Nat.le_of_ble_eq_true rfl), (Nat.le_of_ble_eq_true rfl)⟩, hts (.static yX4_notDark) (by decide +kernel), trivial⟩ (preS_R hK (va_P_nil (D := g.1) (cl := vwCl))) rfl rfl hl.1 rfl (lv_room (Nat.le_of_ble_eq_true rfl)) dX0_countNotDark_19 ⟨(Nat.le_of_ble_eq_true rfl), (Nat.le_of_ble_eq_true rfl)⟩)) (fun r19_5 h => ?_)
        refine vp_callSi (W.runS (As := [.long r19_5]) (rest := [.int v1_1]) ⟨hx, hb, hml, hown, hts⟩ (kJ13_bitCount_95d88 l g  r19_5 _ h) (va_cwS 1 hts gX0_countNotDark_J13_bitCount_95d88 rfl rfl rfl hdJ13_bitCount_95d88.2 ⟨(Nat.le_of_ble_eq_true rfl), (Nat.le_of_ble_eq_true rfl)⟩) (preS_R hK (va_P_nil (D := g.1) (cl := vwCl))) rfl rfl hl.1 rfl (lv_room (Nat.le_of_ble_eq_true rfl)) dX0_countNotDark_22 ⟨(Nat.le_of_ble_eq_true rfl), (Nat.le_of_ble_eq_true rfl)⟩) (fun r22_6 h => ?_)
        refine lv_iadd hx hb dX0_countNotDark_25 ?_
        refine lv_topi (fun v1_7 e_v1_7 => ?_)
        replace h := h v1_7 e_v1_7
        refine lv_istore_n (lv' := [(1, .int v1_7), (2, .int v2_2), (0, .ref (q 0))]) hx hb dX0_countNotDark_26 rfl hl (by decide) rfl (fun ls hl => ?_)
        obtain ⟨v2_8, e_v2_8⟩ : ∃ y : Int32, y = v2_2 + (1 : Int32) := ⟨_, rfl⟩
        replace h := h v2_8 e_v2_8
        refine lv_iinc (v := v2_8) (lv' := [(2, .int v2_8), (1, .int v1_7), (0, .ref (q 0))]) hx hb dX0_countNotDark_27 hl (k := 1) rfl (by rw [e_v2_8]; rfl) (by decide) rfl (fun ls hl => ?_)
        refine lv_goto (tgt := 4) hx hb dX0_countNotDark_30 (by decide) ?_
        exact ih_1 v1_7 v2_8 ls h (lv_sub hl [0, 1, 2] rfl)
  obtain ⟨n_1, h⟩ := h
  refine loop_1 _ ?_ n_1 (0 : Int32) (0 : Int32) ls h (lv_sub hl [0, 1, 2] rfl)
  intro v1_1 v2_2 ls h hl
  refine lv_iload_n hx hb dX0_countNotDark_33 rfl (lv_at hl 1 rfl) ?_
  exact W.iret hx hb hr (fun t ht hW => ⟨v1_1, rfl, h, ht⟩) (fun _ h9 => by cases h9) dX0_countNotDark_34
theorem hdX0_copyFrom : yX0_copyFrom.cls = RX0 ∧ yX0_copyFrom.cls ≠ "java/lang/invoke/MethodHandle" ∧ yX0_copyFrom.cls ≠ "java/lang/invoke/VarHandle" ∧ (parseMethodDescriptor yX0_copyFrom.desc).map (fun d => d.parameters.length) = some 1 := by decide +kernel
set_option maxHeartbeats 4000000 in
set_option maxRecDepth 100000 in
theorem kX0_copyFrom (l : Launch) (g : GG) (q uq : Nat → Nat) (sz : Nat) (p_width : Int32) (p_first : Int32) (p_step : Int32) (p_kind : Int32) (p_columns : Nat → Int64) (u_width : Int32) (u_first : Int32) (u_step : Int32) (u_kind : Int32) (u_columns : Nat → Int64)  (k : Int32 → Int32 → Int32 → Int32 → (Nat → Int64) → Prop) (h : PX0_copyFrom p_width p_first p_step p_kind p_columns u_width u_first u_step u_kind u_columns  k) : Met l yX0_copyFrom wsX0_copyFrom ({ frames := 1, cells := 0, slots := 0, locals := 40 }) (PreM g [.ref (q 0), .ref (uq 0)] (wP g q p_width p_first p_step p_kind p_columns ++ (wP g uq u_width u_first u_step u_kind u_columns)) sz) (va_Qv (fun u : Int32 × Int32 × Int32 × Int32 × (Nat → Int64) => k u.1 u.2.1 u.2.2.1 u.2.2.2.1 u.2.2.2.2) (fun u t => PostB g (va_A (wP g q p_width p_first p_step p_kind p_columns ++ (wP g uq u_width u_first u_step u_kind u_columns)) sz) (wP g q u.1 u.2.1 u.2.2.1 u.2.2.2.1 u.2.2.2.2 ++ (wP g uq u_width u_first u_step u_kind u_columns)) t) (va_A (wP g q p_width p_first p_step p_kind p_columns ++ (wP g uq u_width u_first u_step u_kind u_columns)) sz)) 0 0 (va_A (wP g q p_width p_first p_step p_kind p_columns ++ (wP g uq u_width u_first u_step u_kind u_columns)) sz) := by
  refine Met.ofW (cc := cX0_copyFrom) (maxL := 2) (ret := none) (by decide) rfl ?_
  intro p e s m args below meth c s₁ B hml hv
  obtain ⟨rfl, hsz, hP, hK, hD0⟩ := hv
  have hx := B.exec
  have hb := B.bytes
  have hr := B.returns
  have hts := atoms_spec (ws := wsX0_copyFrom) B.pre
  have hown : s.vm.findClass RX0 = some m.cls := findClass_of_methodNamed B.named
  have hlocks := B.notSynchronized
  have iX0 : ∀ w ∈ wsX00, w ∈ wsX0_copyFrom := by decide +kernel
  subst hsz
  have hD := hD0.self (sz := s.heap.size)
  generalize hAe : va_A (wP g q p_width p_first p_step p_kind p_columns ++ (wP g uq u_width u_first u_step u_kind u_columns)) s.heap.size = A at hD ⊢
  have hA : ∀ q : Nat, s.heap.size ≤ q → A q := fun q h => by rw [← hAe]; exact Or.inr h
  clear hAe hD0
  have hS : va_S A s.heap s.heap [] := va_S.rf
  have hl := lv_entry ([.ref (q 0), .ref (uq 0)]) (n := 2) (Nat.le_of_ble_eq_true rfl)
  rw [lg_entry_eq]
  generalize (lg_sl ([.ref (q 0), .ref (uq 0)]) ++ List.replicate (2 - (lg_sl ([.ref (q 0), .ref (uq 0)])).length) Slot.unset).toArray = ls at hl ⊢
  have hl : lv_has ls 2 [(0, .ref (q 0)), (1, .ref (uq 0))] := hl
  unfold PX0_copyFrom at h
  obtain ⟨H, hHe⟩ : ∃ y, y = s.heap := ⟨_, rfl⟩
  rw [← hHe] at hP
  have hS : va_S A s.heap H [] := by rw [hHe]; exact hS
  have hW0 : ∀ (Q : State → Prop), W p l e (headSpec wsX0_copyFrom ({ frames := 1, cells := 0, slots := 0, locals := 40 })).room s m ([.ref (q 0), .ref (uq 0)] : List Value).toArray below meth c H [] 0 0 Q (F0 m 0 ls []) → W p l e (headSpec wsX0_copyFrom ({ frames := 1, cells := 0, slots := 0, locals := 40 })).room s m ([.ref (q 0), .ref (uq 0)] : List Value).toArray below meth c s.heap [] 0 0 Q (F0 m 0 ls []) := by rw [hHe]; exact fun _ h9 => h9
  refine hW0 _ ?_
  clear hW0 hHe
  generalize ([] : List Loc) = locs at hS ⊢
  refine lv_aload_n hx hb dX0_copyFrom_0 rfl (lv_at hl 0 rfl) ?_
  refine lv_aload_n hx hb dX0_copyFrom_1 rfl (lv_at hl 1 rfl) ?_
  refine va_get (D := g.1) (ci := 0) (v := .int u_width) (C := RX0) (T := TX0) (N := 5) hx hb hts iX0 hown hK.1 hP 2 rfl rfl 0 (by decide) (hts (.fieldLink RX0 9 "LightWheel$Picture" "width" "I") (by decide +kernel)) (fun _ h9 => h9) rfl dX0_copyFrom_2 ?_
  refine va_put (D := g.1) (ci := 0) (v := .int u_width) (ty := .int) (C := RX0) (T := TX0) (N := 5) hx hb hts iX0 tyX0 tyX0_ok nmX0 hown hK.1 hP hD hS 0 rfl rfl 0 (by decide) (hts (.fieldLink RX0 9 "LightWheel$Picture" "width" "I") (by decide +kernel)) (fun _ h9 => h9) rfl (by decide +kernel) rfl rfl (Nat.le_of_ble_eq_true rfl) dX0_copyFrom_5 (fun H locs hP hD hS => ?_)
  have hP : va_P g.1 vwCl (wP g q u_width p_first p_step p_kind p_columns ++ (wP g uq u_width u_first u_step u_kind u_columns)) H := hP
  have hD : va_D A (wP g q u_width p_first p_step p_kind p_columns ++ (wP g uq u_width u_first u_step u_kind u_columns)) := hD
  refine lv_aload_n hx hb dX0_copyFrom_8 rfl (lv_at hl 0 rfl) ?_
  refine lv_aload_n hx hb dX0_copyFrom_9 rfl (lv_at hl 1 rfl) ?_
  refine va_get (D := g.1) (ci := 0) (v := .int u_first) (C := RX0) (T := TX0) (N := 5) hx hb hts iX0 hown hK.1 hP 2 rfl rfl 1 (by decide) (hts (.fieldLink RX0 15 "LightWheel$Picture" "first" "I") (by decide +kernel)) (fun _ h9 => h9) rfl dX0_copyFrom_10 ?_
  refine va_put (D := g.1) (ci := 0) (v := .int u_first) (ty := .int) (C := RX0) (T := TX0) (N := 5) hx hb hts iX0 tyX0 tyX0_ok nmX0 hown hK.1 hP hD hS 0 rfl rfl 1 (by decide) (hts (.fieldLink RX0 15 "LightWheel$Picture" "first" "I") (by decide +kernel)) (fun _ h9 => h9) rfl (by decide +kernel) rfl rfl (Nat.le_of_ble_eq_true rfl) dX0_copyFrom_13 (fun H locs hP hD hS => ?_)
  have hP : va_P g.1 vwCl (wP g q u_width u_first p_step p_kind p_columns ++ (wP g uq u_width u_first u_step u_kind u_columns)) H := hP
  have hD : va_D A (wP g q u_width u_first p_step p_kind p_columns ++ (wP g uq u_width u_first u_step u_kind u_columns)) := hD
  refine lv_aload_n hx hb dX0_copyFrom_16 rfl (lv_at hl 0 rfl) ?_
  refine lv_aload_n hx hb dX0_copyFrom_17 rfl (lv_at hl 1 rfl) ?_
  refine va_get (D := g.1) (ci := 0) (v := .int u_step) (C := RX0) (T := TX0) (N := 5) hx hb hts iX0 hown hK.1 hP 2 rfl rfl 2 (by decide) (hts (.fieldLink RX0 18 "LightWheel$Picture" "step" "I") (by decide +kernel)) (fun _ h9 => h9) rfl dX0_copyFrom_18 ?_
  refine va_put (D := g.1) (ci := 0) (v := .int u_step) (ty := .int) (C := RX0) (T := TX0) (N := 5) hx hb hts iX0 tyX0 tyX0_ok nmX0 hown hK.1 hP hD hS 0 rfl rfl 2 (by decide) (hts (.fieldLink RX0 18 "LightWheel$Picture" "step" "I") (by decide +kernel)) (fun _ h9 => h9) rfl (by decide +kernel) rfl rfl (Nat.le_of_ble_eq_true rfl) dX0_copyFrom_21 (fun H locs hP hD hS => ?_)
  have hP : va_P g.1 vwCl (wP g q u_width u_first u_step p_kind p_columns ++ (wP g uq u_width u_first u_step u_kind u_columns)) H := hP
  have hD : va_D A (wP g q u_width u_first u_step p_kind p_columns ++ (wP g uq u_width u_first u_step u_kind u_columns)) := hD
  refine lv_aload_n hx hb dX0_copyFrom_24 rfl (lv_at hl 0 rfl) ?_
  refine lv_aload_n hx hb dX0_copyFrom_25 rfl (lv_at hl 1 rfl) ?_
  refine va_get (D := g.1) (ci := 0) (v := .int u_kind) (C := RX0) (T := TX0) (N := 5) hx hb hts iX0 hown hK.1 hP 2 rfl rfl 3 (by decide) (hts (.fieldLink RX0 21 "LightWheel$Picture" "kind" "I") (by decide +kernel)) (fun _ h9 => h9) rfl dX0_copyFrom_26 ?_
  refine va_put (D := g.1) (ci := 0) (v := .int u_kind) (ty := .int) (C := RX0) (T := TX0) (N := 5) hx hb hts iX0 tyX0 tyX0_ok nmX0 hown hK.1 hP hD hS 0 rfl rfl 3 (by decide) (hts (.fieldLink RX0 21 "LightWheel$Picture" "kind" "I") (by decide +kernel)) (fun _ h9 => h9) rfl (by decide +kernel) rfl rfl (Nat.le_of_ble_eq_true rfl) dX0_copyFrom_29 (fun H locs hP hD hS => ?_)
  have hP : va_P g.1 vwCl (wP g q u_width u_first u_step u_kind p_columns ++ (wP g uq u_width u_first u_step u_kind u_columns)) H := hP
  have hD : va_D A (wP g q u_width u_first u_step u_kind p_columns ++ (wP g uq u_width u_first u_step u_kind u_columns)) := hD
  refine lv_aload_n hx hb dX0_copyFrom_32 rfl (lv_at hl 1 rfl) ?_
  refine va_get (D := g.1) (ci := 0) (v := .ref (uq 1)) (C := RX0) (T := TX0) (N := 5) hx hb hts iX0 hown hK.1 hP 2 rfl rfl 4 (by decide) (hts (.fieldLink RX0 24 "LightWheel$Picture" "columns" "[J") (by decide +kernel)) (fun _ h9 => h9) rfl dX0_copyFrom_33 ?_
  refine lv_iconst (v := (0 : Int32)) hx hb dX0_copyFrom_36 (by decide) ?_
  refine lv_aload_n hx hb dX0_copyFrom_37 rfl (lv_at hl 0 rfl) ?_
  refine va_get (D := g.1) (ci := 0) (v := .ref (q 1)) (C := RX0) (T := TX0) (N := 5) hx hb hts iX0 hown hK.1 hP 0 rfl rfl 4 (by decide) (hts (.fieldLink RX0 24 "LightWheel$Picture" "columns" "[J") (by decide +kernel)) (fun _ h9 => h9) rfl dX0_copyFrom_38 ?_
  refine lv_iconst (v := (0 : Int32)) hx hb dX0_copyFrom_41 (by decide) ?_
  refine lv_bipush (v := (40 : Int32)) hx hb dX0_copyFrom_42 (by decide) ?_
  refine xs_copyl hx hb (hml.trans hl.1.symm) hown (hts (.methodLink RX0 28 arraycopyName) (by decide +kernel)) (hts (.native arraycopyName) (by decide +kernel)) (hts (.static arraycopyName) (by decide +kernel)) (hts (.initialized "java/lang/System") (by decide +kernel)) hK.1 hP hD hS 3 1 1 1 rfl rfl rfl rfl 40 rfl (Nat.le_of_ble_eq_true rfl) (Nat.le_of_ble_eq_true rfl) (Nat.le_of_ble_eq_true rfl) (Nat.le_of_ble_eq_true rfl) (Nat.le_of_ble_eq_true rfl) dX0_copyFrom_44 (fun p_columns_1 e_p_columns_1 H locs hP hD hS => ?_)
  replace h := h p_columns_1 e_p_columns_1
  have hP : va_P g.1 vwCl (wP g q u_width u_first u_step u_kind p_columns_1 ++ (wP g uq u_width u_first u_step u_kind u_columns)) H := hP
  have hD : va_D A (wP g q u_width u_first u_step u_kind p_columns_1 ++ (wP g uq u_width u_first u_step u_kind u_columns)) := hD
  exact W.vret hx hb hr (fun t ht hW => ⟨⟨(u_width, u_first, u_step, u_kind, p_columns_1), rfl, h, by rw [ht]; exact hP, hD⟩, hS.F ht⟩) hS.2.2 dX0_copyFrom_47
