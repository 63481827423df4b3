def PX5_in  (a_1 : Int32) (a_2 : Int32) (a_3 : Int32) (k : Int32 → Prop) : Prop := ((a_1 < a_2 → (k (0 : Int32))) ∧ (¬ a_1 < a_2 → ((a_3 < a_1 → (k (0 : Int32))) ∧ (¬ a_3 < a_1 → (k (1 : Int32))))))
def PX5_size  (a_1 : Int32) (k : Int32 → Prop) : Prop := ((0 ≤ a_1 → (k a_1)) ∧ (¬ 0 ≤ a_1 → (k (-a_1))))
def PX5_lesser  (a_1 : Int32) (a_2 : Int32) (k : Int32 → Prop) : Prop := ((a_2 ≤ a_1 → (k a_2)) ∧ (¬ a_2 ≤ a_1 → (k a_1)))
def PX5_around  (a_1 : Int32) (k : Int32 → Prop) : Prop := (k ((a_1 + (720 : Int32)) - (a_1 + (720 : Int32)) / (720 : Int32) * (720 : Int32)))
def PX5_past (b_states : Nat → Int32) (b_fifth : Nat → Int32) (a_1 : Int32) (a_2 : Int32) (k : Int32 → Prop) : Prop := (((4 : Int32) ≤ a_1 → (vp_in a_2 4668 ∧ (k (b_fifth (Int32.toNatClampNeg a_2))))) ∧ (¬ (4 : Int32) ≤ a_1 → (vp_in (((4668 : Int32) * a_1) + a_2) 18672 ∧ (k (b_states (Int32.toNatClampNeg (((4668 : Int32) * a_1) + a_2)))))))
def PX5_isPicture (b_m : Nat → Int32) (a_1 : Int32) (k : Int32 → Prop) : Prop := PX5_in a_1 (0 : Int32) ((b_m 11) - (1 : Int32)) (fun r11_1 => ((r11_1 = 0 ∨ r11_1 = 1) ∧ k r11_1))
def PX5_of (b_m : Nat → Int32) (a_1 : Int32) (a_2 : Int32) (k : Int32 → Prop) : Prop := (vp_in (((12 : Int32) + ((4 : Int32) * a_1)) + a_2) 348 ∧ (k (b_m (Int32.toNatClampNeg (((12 : Int32) + ((4 : Int32) * a_1)) + a_2)))))
def PX5_isLight  (a_1 : Int32) (k : Int32 → Prop) : Prop := PX5_in a_1 (0 : Int32) (11 : Int32) (fun r4_1 => ((r4_1 = 0 ∨ r4_1 = 1) ∧ k r4_1))
def PX5_cellOf  (a_1 : Int32) (a_2 : Int32) (a_3 : Int32) (k : Int32 → Prop) : Prop := (k ((((28 : Int32) + ((80 : Int32) * a_1)) + ((2 : Int32) * a_2)) + (a_3 / (6 : Int32))))
def PX5_colorOf (b_m : Nat → Int32) (a_1 : Int32) (a_2 : Int32) (a_3 : Int32) (k : Int32 → Prop) : Prop := PX5_cellOf a_1 a_2 a_3 (fun r7_1 => (vp_in r7_1 348 ∧ (k (((b_m (Int32.toNatClampNeg r7_1)) >>> (((3 : Int32) * (a_3 - a_3 / (6 : Int32) * (6 : Int32))) &&& 31)) &&& (7 : Int32)))))
def PX5_covered (b_m : Nat → Int32) (a_1 : Int32) (k : Int32 → Prop) : Prop := PX5_of b_m a_1 (0 : Int32) (fun r3_1 => PX5_of b_m a_1 (2 : Int32) (fun r9_2 => PX5_lesser (r3_1 * r9_2) (720 : Int32) (fun r16_3 => (k r16_3))))
def PX5_columnOf (b_m : Nat → Int32) (a_1 : Int32) (a_2 : Int32) (k : Int32 → Prop) : Prop := PX5_of b_m a_1 (1 : Int32) (fun r4_1 => PX5_around (a_2 - r4_1) (fun r8_2 => PX5_covered b_m a_1 (fun r15_3 => ((r8_2 < r15_3 → PX5_of b_m a_1 (2 : Int32) (fun r28_5 => (¬ r28_5 = 0 ∧ (∀ v4_7 : Int32, v4_7 = (r8_2 / r28_5) → PX5_of b_m a_1 (3 : Int32) (fun r37_8 => ((¬ r37_8 = (1 : Int32) → (k v4_7)) ∧ (r37_8 = (1 : Int32) → PX5_of b_m a_1 (0 : Int32) (fun r47_10 => (k ((r47_10 - (1 : Int32)) - v4_7)))))))))) ∧ (¬ r8_2 < r15_3 → (k (-109 : Int32)))))))
def PX5_wanted_L1 (b_m : Nat → Int32) (a_1 : Int32) (a_2 : Int32) (kx_1 : Int32 → Int32 → Prop) : Nat → Int32 → Int32 → Prop
  | 0, _, _ => False
  | n_1 + 1, v3_1, v4_2 => (((b_m 11) ≤ v4_2 → kx_1 v3_1 v4_2) ∧ (¬ (b_m 11) ≤ v4_2 → PX5_of b_m v4_2 (3 : Int32) (fun r21_4 => ((¬ r21_4 = (2 : Int32) → PX5_columnOf b_m v4_2 a_1 (fun r37_6 => ((¬ r37_6 = (-109 : Int32) → PX5_colorOf b_m v4_2 r37_6 a_2 (fun r60_8 => (∀ v3_9 : Int32, v3_9 = (v3_1 ||| r60_8) → (∀ v4_10 : Int32, v4_10 = v4_2 + (1 : Int32) → PX5_wanted_L1 b_m a_1 a_2 kx_1 n_1 v3_9 v4_10)))) ∧ (r37_6 = (-109 : Int32) → (∀ v3_11 : Int32, v3_11 = (v3_1 ||| (0 : Int32)) → (∀ v4_12 : Int32, v4_12 = v4_2 + (1 : Int32) → PX5_wanted_L1 b_m a_1 a_2 kx_1 n_1 v3_11 v4_12)))))) ∧ (r21_4 = (2 : Int32) → (∀ v3_14 : Int32, v3_14 = (v3_1 ||| (0 : Int32)) → (∀ v4_15 : Int32, v4_15 = v4_2 + (1 : Int32) → PX5_wanted_L1 b_m a_1 a_2 kx_1 n_1 v3_14 v4_15)))))))
def PX5_wanted (b_m : Nat → Int32) (a_1 : Int32) (a_2 : Int32) (k : Int32 → Prop) : Prop := (∃ n_1, PX5_wanted_L1 b_m a_1 a_2 (fun v3_1 v4_2 => (k v3_1)) n_1 (0 : Int32) (0 : Int32))
theorem hdX5_in : yX5_in.cls = RX5 ∧ yX5_in.cls ≠ "java/lang/invoke/MethodHandle" ∧ yX5_in.cls ≠ "java/lang/invoke/VarHandle" ∧ (parseMethodDescriptor yX5_in.desc).map (fun d => d.parameters.length) = some 3 := by decide +kernel
set_option maxHeartbeats 4000000 in
set_option maxRecDepth 100000 in
theorem kX5_in (l : Launch) (g : GG)  (a_1 : Int32) (a_2 : Int32) (a_3 : Int32) (k : Int32 → Prop) (h : PX5_in  a_1 a_2 a_3 k) : Met l yX5_in wsX5_in ({ frames := 0, cells := 0, slots := 0, locals := 0 }) (PreR g [.int a_1, .int a_2, .int a_3] []) (vp_Si k) 0 0 (fun _ => False) := by
  refine Met.ofW (cc := cX5_in) (maxL := 3) (ret := (some .boolean)) (by decide) rfl ?_
  intro p e s m args below meth c s₁ B hml hv
  obtain ⟨rfl, hP, hK⟩ := hv
  have hx := B.exec
  have hb := B.bytes
  have hr := B.returns
  have hts := atoms_spec (ws := wsX5_in) B.pre
  have hown : s.vm.findClass RX5 = some m.cls := findClass_of_methodNamed B.named
  have hlocks := B.notSynchronized
  have hl := lv_entry ([.int a_1, .int a_2, .int a_3]) (n := 3) (Nat.le_of_ble_eq_true rfl)
  rw [lg_entry_eq]
  generalize (lg_sl ([.int a_1, .int a_2, .int a_3]) ++ List.replicate (3 - (lg_sl ([.int a_1, .int a_2, .int a_3])).length) Slot.unset).toArray = ls at hl ⊢
  have hl : lv_has ls 3 [(0, .int a_1), (1, .int a_2), (2, .int a_3)] := hl
  unfold PX5_in at h
  refine lv_iload_n hx hb dX5_in_0 rfl (lv_at hl 0 rfl) ?_
  refine lv_iload_n hx hb dX5_in_1 rfl (lv_at hl 1 rfl) ?_
  refine lv_icmp_lt (tgt := 14) hx hb dX5_in_2 (by decide) (fun c_2_0 => ?_) (fun c_2_0 => ?_)
  · replace h := h.1 c_2_0
    refine lv_iconst (v := (0 : Int32)) hx hb dX5_in_14 (by decide) ?_
    exact W.zret (v := (0 : Int32)) hx hb hr rfl (fun t ht hW => ⟨(0 : Int32), rfl, h, ht⟩) (fun _ h9 => by cases h9) dX5_in_15
  · replace h := h.2 c_2_0
    refine lv_iload_n hx hb dX5_in_5 rfl (lv_at hl 0 rfl) ?_
    refine lv_iload_n hx hb dX5_in_6 rfl (lv_at hl 2 rfl) ?_
    refine lv_icmp_gt (tgt := 14) hx hb dX5_in_7 (by decide) (fun c_7_1 => ?_) (fun c_7_1 => ?_)
    · replace h := h.1 c_7_1
      refine lv_iconst (v := (0 : Int32)) hx hb dX5_in_14 (by decide) ?_
      exact W.zret (v := (0 : Int32)) hx hb hr rfl (fun t ht hW => ⟨(0 : Int32), rfl, h, ht⟩) (fun _ h9 => by cases h9) dX5_in_15
    · replace h := h.2 c_7_1
      refine lv_iconst (v := (1 : Int32)) hx hb dX5_in_10 (by decide) ?_
      refine lv_goto (tgt := 15) hx hb dX5_in_11 (by decide) ?_
      exact W.zret (v := (1 : Int32)) hx hb hr rfl (fun t ht hW => ⟨(1 : Int32), rfl, h, ht⟩) (fun _ h9 => by cases h9) dX5_in_15
theorem hdX5_size : yX5_size.cls = RX5 ∧ yX5_size.cls ≠ "java/lang/invoke/MethodHandle" ∧ yX5_size.cls ≠ "java/lang/invoke/VarHandle" ∧ (parseMethodDescriptor yX5_size.desc).map (fun d => d.parameters.length) = some 1 := by decide +kernel
set_option maxHeartbeats 4000000 in
set_option maxRecDepth 100000 in
theorem kX5_size (l : Launch) (g : GG)  (a_1 : Int32) (k : Int32 → Prop) (h : PX5_size  a_1 k) : Met l yX5_size wsX5_size ({ frames := 0, cells := 0, slots := 0, locals := 0 }) (PreR g [.int a_1] []) (vp_Si k) 0 0 (fun _ => False) := by
  refine Met.ofW (cc := cX5_size) (maxL := 1) (ret := (some .int)) (by decide) rfl ?_
  intro p e s m args below meth c s₁ B hml hv
  obtain ⟨rfl, hP, hK⟩ := hv
  have hx := B.exec
  have hb := B.bytes
  have hr := B.returns
  have hts := atoms_spec (ws := wsX5_size) B.pre
  have hown : s.vm.findClass RX5 = some m.cls := findClass_of_methodNamed B.named
  have hlocks := B.notSynchronized
  have hl := lv_entry ([.int a_1]) (n := 1) (Nat.le_of_ble_eq_true rfl)
  rw [lg_entry_eq]
  generalize (lg_sl ([.int a_1]) ++ List.replicate (1 - (lg_sl ([.int a_1])).length) Slot.unset).toArray = ls at hl ⊢
  have hl : lv_has ls 1 [(0, .int a_1)] := hl
  unfold PX5_size at h
  refine lv_iload_n hx hb dX5_size_0 rfl (lv_at hl 0 rfl) ?_
  refine lv_if_ge (tgt := 9) hx hb dX5_size_1 (by decide) (fun c_1_0 => ?_) (fun c_1_0 => ?_)
  · replace h := h.1 c_1_0
    refine lv_iload_n hx hb dX5_size_9 rfl (lv_at hl 0 rfl) ?_
    exact W.iret hx hb hr (fun t ht hW => ⟨a_1, rfl, h, ht⟩) (fun _ h9 => by cases h9) dX5_size_10
  · replace h := h.2 c_1_0
    refine lv_iload_n hx hb dX5_size_4 rfl (lv_at hl 0 rfl) ?_
    refine lv_ineg hx hb dX5_size_5 ?_
    refine lv_goto (tgt := 10) hx hb dX5_size_6 (by decide) ?_
    exact W.iret hx hb hr (fun t ht hW => ⟨(-a_1), rfl, h, ht⟩) (fun _ h9 => by cases h9) dX5_size_10
theorem hdX5_lesser : yX5_lesser.cls = RX5 ∧ yX5_lesser.cls ≠ "java/lang/invoke/MethodHandle" ∧ yX5_lesser.cls ≠ "java/lang/invoke/VarHandle" ∧ (parseMethodDescriptor yX5_lesser.desc).map (fun d => d.parameters.length) = some 2 := by decide +kernel
set_option maxHeartbeats 4000000 in
set_option maxRecDepth 100000 in
theorem kX5_lesser (l : Launch) (g : GG)  (a_1 : Int32) (a_2 : Int32) (k : Int32 → Prop) (h : PX5_lesser  a_1 a_2 k) : Met l yX5_lesser wsX5_lesser ({ frames := 0, cells := 0, slots := 0, locals := 0 }) (PreR g [.int a_1, .int a_2] []) (vp_Si k) 0 0 (fun _ => False) := by
  refine Met.ofW (cc := cX5_lesser) (maxL := 2) (ret := (some .int)) (by decide) rfl ?_
  intro p e s m args below meth c s₁ B hml hv
  obtain ⟨rfl, hP, hK⟩ := hv
  have hx := B.exec
  have hb := B.bytes
  have hr := B.returns
  have hts := atoms_spec (ws := wsX5_lesser) B.pre
  have hown : s.vm.findClass RX5 = some m.cls := findClass_of_methodNamed B.named
  have hlocks := B.notSynchronized
  have hl := lv_entry ([.int a_1, .int a_2]) (n := 2) (Nat.le_of_ble_eq_true rfl)
  rw [lg_entry_eq]
  generalize (lg_sl ([.int a_1, .int a_2]) ++ List.replicate (2 - (lg_sl ([.int a_1, .int a_2])).length) Slot.unset).toArray = ls at hl ⊢
  have hl : lv_has ls 2 [(0, .int a_1), (1, .int a_2)] := hl
  unfold PX5_lesser at h
  refine lv_iload_n hx hb dX5_lesser_0 rfl (lv_at hl 0 rfl) ?_
  refine lv_iload_n hx hb dX5_lesser_1 rfl (lv_at hl 1 rfl) ?_
  refine lv_icmp_ge (tgt := 9) hx hb dX5_lesser_2 (by decide) (fun c_2_0 => ?_) (fun c_2_0 => ?_)
  · replace h := h.1 c_2_0
    refine lv_iload_n hx hb dX5_lesser_9 rfl (lv_at hl 1 rfl) ?_
    exact W.iret hx hb hr (fun t ht hW => ⟨a_2, rfl, h, ht⟩) (fun _ h9 => by cases h9) dX5_lesser_10
  · replace h := h.2 c_2_0
    refine lv_iload_n hx hb dX5_lesser_5 rfl (lv_at hl 0 rfl) ?_
    refine lv_goto (tgt := 10) hx hb dX5_lesser_6 (by decide) ?_
    exact W.iret hx hb hr (fun t ht hW => ⟨a_1, rfl, h, ht⟩) (fun _ h9 => by cases h9) dX5_lesser_10
theorem hdX5_around : yX5_around.cls = RX5 ∧ yX5_around.cls ≠ "java/lang/invoke/MethodHandle" ∧ yX5_around.cls ≠ "java/lang/invoke/VarHandle" ∧ (parseMethodDescriptor yX5_around.desc).map (fun d => d.parameters.length) = some 1 := by decide +kernel
set_option maxHeartbeats 4000000 in
set_option maxRecDepth 100000 in
theorem kX5_around (l : Launch) (g : GG)  (a_1 : Int32) (k : Int32 → Prop) (h : PX5_around  a_1 k) : Met l yX5_around wsX5_around ({ frames := 0, cells := 0, slots := 0, locals := 0 }) (PreR g [.int a_1] []) (vp_Si k) 0 0 (fun _ => False) := by
  refine Met.ofW (cc := cX5_around) (maxL := 1) (ret := (some .int)) (by decide) rfl ?_
  intro p e s m args below meth c s₁ B hml hv
  obtain ⟨rfl, hP, hK⟩ := hv
  have hx := B.exec
  have hb := B.bytes
  have hr := B.returns
  have hts := atoms_spec (ws := wsX5_around) B.pre
  have hown : s.vm.findClass RX5 = some m.cls := findClass_of_methodNamed B.named
  have hlocks := B.notSynchronized
  have hl := lv_entry ([.int a_1]) (n := 1) (Nat.le_of_ble_eq_true rfl)
  rw [lg_entry_eq]
  generalize (lg_sl ([.int a_1]) ++ List.replicate (1 - (lg_sl ([.int a_1])).length) Slot.unset).toArray = ls at hl ⊢
  have hl : lv_has ls 1 [(0, .int a_1)] := hl
  unfold PX5_around at h
  refine lv_iload_n hx hb dX5_around_0 rfl (lv_at hl 0 rfl) ?_
  refine lv_sipush (v := (720 : Int32)) hx hb dX5_around_1 (by decide) ?_
  refine lv_iadd hx hb dX5_around_4 ?_
  refine lv_sipush (v := (720 : Int32)) hx hb dX5_around_5 (by decide) ?_
  refine lv_irem hx hb dX5_around_8 (by decide) ?_
  exact W.iret hx hb hr (fun t ht hW => ⟨((a_1 + (720 : Int32)) - (a_1 + (720 : Int32)) / (720 : Int32) * (720 : Int32)), rfl, h, ht⟩) (fun _ h9 => by cases h9) dX5_around_9
theorem hdX5_past : yX5_past.cls = RX5 ∧ yX5_past.cls ≠ "java/lang/invoke/MethodHandle" ∧ yX5_past.cls ≠ "java/lang/invoke/VarHandle" ∧ (parseMethodDescriptor yX5_past.desc).map (fun d => d.parameters.length) = some 2 := by decide +kernel
set_option maxHeartbeats 4000000 in
set_option maxRecDepth 100000 in
theorem kX5_past (l : Launch) (g : GG) (q : Nat → Nat) (b_m : Nat → Int32) (b_written : Nat → Int32) (b_spare : Nat → Int32) (b_spareWritten : Nat → Int32) (b_states : Nat → Int32) (b_fifth : Nat → Int32) (b_oldest : Int32) (b_stateCount : Int32) (b_text : Nat → Int32) (b_textLength : Int32) (b_at : Int32) (b_read : Nat → Int32) (b_columns : Int32) (b_told : Int32) (b_wants : Nat → Int32) (b_comes : Nat → Int32) (a_1 : Int32) (a_2 : Int32) (k : Int32 → Prop) (h : PX5_past b_states b_fifth a_1 a_2 k) : Met l yX5_past wsX5_past ({ frames := 0, cells := 0, slots := 0, locals := 0 }) (PreR g [.ref (q 0), .int a_1, .int a_2] (wM g q b_m b_written b_spare b_spareWritten b_states b_fifth b_oldest b_stateCount b_text b_textLength b_at b_read b_columns b_told b_wants b_comes)) (vp_Si k) 0 0 (fun _ => False) := by
  refine Met.ofW (cc := cX5_past) (maxL := 3) (ret := (some .int)) (by decide) rfl ?_
  intro p e s m args below meth c s₁ B hml hv
  obtain ⟨rfl, hP, hK⟩ := hv
  have hx := B.exec
  have hb := B.bytes
  have hr := B.returns
  have hts := atoms_spec (ws := wsX5_past) B.pre
  have hown : s.vm.findClass RX5 = some m.cls := findClass_of_methodNamed B.named
  have hlocks := B.notSynchronized
  have iX5 : ∀ w ∈ wsX50, w ∈ wsX5_past := by decide +kernel
  have hl := lv_entry ([.ref (q 0), .int a_1, .int a_2]) (n := 3) (Nat.le_of_ble_eq_true rfl)
  rw [lg_entry_eq]
  generalize (lg_sl ([.ref (q 0), .int a_1, .int a_2]) ++ List.replicate (3 - (lg_sl ([.ref (q 0), .int a_1, .int a_2])).length) Slot.unset).toArray = ls at hl ⊢
  have hl : lv_has ls 3 [(0, .ref (q 0)), (1, .int a_1), (2, .int a_2)] := hl
  unfold PX5_past at h
  refine lv_iload_n hx hb dX5_past_0 rfl (lv_at hl 1 rfl) ?_
  refine lv_iconst (v := (4 : Int32)) hx hb dX5_past_1 (by decide) ?_
  refine lv_icmp_ge (tgt := 20) hx hb dX5_past_2 (by decide) (fun c_2_0 => ?_) (fun c_2_0 => ?_)
  · replace h := h.1 c_2_0
    refine lv_aload_n hx hb dX5_past_20 rfl (lv_at hl 0 rfl) ?_
    refine va_get (D := g.1) (ci := 5) (v := .ref (q 6)) (C := RX5) (T := TX5) (N := 16) hx hb hts iX5 hown hK.1 hP 0 rfl rfl 5 (by decide) (hts (.fieldLink RX5 25 "LightWheelModel" "fifth" "[I") (by decide +kernel)) (fun _ h9 => h9) rfl dX5_past_21 ?_
    refine lv_iload_n hx hb dX5_past_24 rfl (lv_at hl 2 rfl) ?_
    have o_25_1 := h.1
    replace h := h.2
    refine va_iald hx hb hK.1 hP 6 0 rfl rfl o_25_1 dX5_past_25 ?_
    exact W.iret hx hb hr (fun t ht hW => ⟨(b_fifth (Int32.toNatClampNeg a_2)), rfl, h, ht⟩) (fun _ h9 => by cases h9) dX5_past_26
  · replace h := h.2 c_2_0
    refine lv_aload_n hx hb dX5_past_5 rfl (lv_at hl 0 rfl) ?_
    refine va_get (D := g.1) (ci := 5) (v := .ref (q 5)) (C := RX5) (T := TX5) (N := 16) hx hb hts iX5 hown hK.1 hP 0 rfl rfl 4 (by decide) (hts (.fieldLink RX5 22 "LightWheelModel" "states" "[I") (by decide +kernel)) (fun _ h9 => h9) rfl dX5_past_6 ?_
    refine lv_sipush (v := (4668 : Int32)) hx hb dX5_past_9 (by decide) ?_
    refine lv_iload_n hx hb dX5_past_12 rfl (lv_at hl 1 rfl) ?_
    refine lv_imul hx hb dX5_past_13 ?_
    refine lv_iload_n hx hb dX5_past_14 rfl (lv_at hl 2 rfl) ?_
    refine lv_iadd hx hb dX5_past_15 ?_
    have o_16_2 := h.1
    replace h := h.2
    refine va_iald hx hb hK.1 hP 5 0 rfl rfl o_16_2 dX5_past_16 ?_
    refine lv_goto (tgt := 26) hx hb dX5_past_17 (by decide) ?_
    exact W.iret hx hb hr (fun t ht hW => ⟨(b_states (Int32.toNatClampNeg (((4668 : Int32) * a_1) + a_2))), rfl, h, ht⟩) (fun _ h9 => by cases h9) dX5_past_26
theorem hdX5_isPicture : yX5_isPicture.cls = RX5 ∧ yX5_isPicture.cls ≠ "java/lang/invoke/MethodHandle" ∧ yX5_isPicture.cls ≠ "java/lang/invoke/VarHandle" ∧ (parseMethodDescriptor yX5_isPicture.desc).map (fun d => d.parameters.length) = some 1 := by decide +kernel
set_option maxHeartbeats 4000000 in
set_option maxRecDepth 100000 in
theorem kX5_isPicture (l : Launch) (g : GG) (q : Nat → Nat) (b_m : Nat → Int32) (b_written : Nat → Int32) (b_spare : Nat → Int32) (b_spareWritten : Nat → Int32) (b_states : Nat → Int32) (b_fifth : Nat → Int32) (b_oldest : Int32) (b_stateCount : Int32) (b_text : Nat → Int32) (b_textLength : Int32) (b_at : Int32) (b_read : Nat → Int32) (b_columns : Int32) (b_told : Int32) (b_wants : Nat → Int32) (b_comes : Nat → Int32) (a_1 : Int32) (k : Int32 → Prop) (h : PX5_isPicture b_m a_1 k) : Met l yX5_isPicture wsX5_isPicture ({ frames := 1, cells := 0, slots := 0, locals := 22 }) (PreR g [.ref (q 0), .int a_1] (wM g q b_m b_written b_spare b_spareWritten b_states b_fifth b_oldest b_stateCount b_text b_textLength b_at b_read b_columns b_told b_wants b_comes)) (vp_Si k) 0 0 (fun _ => False) := by
  refine Met.ofW (cc := cX5_isPicture) (maxL := 2) (ret := (some .boolean)) (by decide) rfl ?_
  intro p e s m args below meth c s₁ B hml hv
  obtain ⟨rfl, hP, hK⟩ := hv
  have hx := B.exec
  have hb := B.bytes
  have hr := B.returns
  have hts := atoms_spec (ws := wsX5_isPicture) B.pre
  have hown : s.vm.findClass RX5 = some m.cls := findClass_of_methodNamed B.named
  have hlocks := B.notSynchronized
  have iX5 : ∀ w ∈ wsX50, w ∈ wsX5_isPicture := by decide +kernel
  have hl := lv_entry ([.ref (q 0), .int a_1]) (n := 2) (Nat.le_of_ble_eq_true rfl)
  rw [lg_entry_eq]
  generalize (lg_sl ([.ref (q 0), .int a_1]) ++ List.replicate (2 - (lg_sl ([.ref (q 0), .int a_1])).length) Slot.unset).toArray = ls at hl ⊢
  have hl : lv_has ls 2 [(0, .ref (q 0)), (1, .int a_1)] := hl
  unfold PX5_isPicture at h
  refine lv_iload_n hx hb dX5_isPicture_0 rfl (lv_at hl 1 rfl) ?_
  refine lv_iconst (v := (0 : Int32)) hx hb dX5_isPicture_1 (by decide) ?_
  refine lv_aload_n hx hb dX5_isPicture_2 rfl (lv_at hl 0 rfl) ?_
  refine va_get (D := g.1) (ci := 5) (v := .ref (q 1)) (C := RX5) (T := TX5) (N := 16) hx hb hts iX5 hown hK.1 hP 0 rfl rfl 0 (by decide) (hts (.fieldLink RX5 7 "LightWheelModel" "m" "[I") (by decide +kernel)) (fun _ h9 => h9) rfl dX5_isPicture_3 ?_
  refine lv_bipush (v := (11 : Int32)) hx hb dX5_isPicture_6 (by decide) ?_
  refine xr_iald hx hb hK.1 hP 1 0 rfl rfl 11 rfl (Nat.le_of_ble_eq_true rfl) (Nat.le_of_ble_eq_true rfl) dX5_isPicture_8 ?_
  refine lv_iconst (v := (1 : Int32)) hx hb dX5_isPicture_9 (by decide) ?_
  refine lv_isub hx hb dX5_isPicture_10 ?_
  refine vp_callSi (W.runS (As := [.int a_1, .int (0 : Int32), .int ((b_m 11) - (1 : Int32))]) (rest := []) ⟨hx, hb, hml, hown, hts⟩ (kX5_in l g  a_1 (0 : Int32) ((b_m 11) - (1 : Int32)) _ h) (va_cwS 3 hts gX5_isPicture_X5_in rfl rfl rfl hdX5_in.2 ⟨(Nat.le_of_ble_eq_true rfl), (Nat.le_of_ble_eq_true rfl)⟩) (preS_R hK (va_P_nil (D := g.1) (cl := vwCl))) rfl rfl hl.1 rfl (lv_room (Nat.le_of_ble_eq_true rfl)) dX5_isPicture_11 ⟨(Nat.le_of_ble_eq_true rfl), (Nat.le_of_ble_eq_true rfl)⟩) (fun r11_1 h => ?_)
  have hbz := h.1
  replace h := h.2
  exact W.zret (v := r11_1) hx hb hr (by rcases hbz with e9 | e9 <;> rw [e9] <;> rfl) (fun t ht hW => ⟨r11_1, rfl, h, ht⟩) (fun _ h9 => by cases h9) dX5_isPicture_14
theorem hdX5_of : yX5_of.cls = RX5 ∧ yX5_of.cls ≠ "java/lang/invoke/MethodHandle" ∧ yX5_of.cls ≠ "java/lang/invoke/VarHandle" ∧ (parseMethodDescriptor yX5_of.desc).map (fun d => d.parameters.length) = some 2 := by decide +kernel
set_option maxHeartbeats 4000000 in
set_option maxRecDepth 100000 in
theorem kX5_of (l : Launch) (g : GG) (q : Nat → Nat) (b_m : Nat → Int32) (b_written : Nat → Int32) (b_spare : Nat → Int32) (b_spareWritten : Nat → Int32) (b_states : Nat → Int32) (b_fifth : Nat → Int32) (b_oldest : Int32) (b_stateCount : Int32) (b_text : Nat → Int32) (b_textLength : Int32) (b_at : Int32) (b_read : Nat → Int32) (b_columns : Int32) (b_told : Int32) (b_wants : Nat → Int32) (b_comes : Nat → Int32) (a_1 : Int32) (a_2 : Int32) (k : Int32 → Prop) (h : PX5_of b_m a_1 a_2 k) : Met l yX5_of wsX5_of ({ frames := 0, cells := 0, slots := 0, locals := 0 }) (PreR g [.ref (q 0), .int a_1, .int a_2] (wM g q b_m b_written b_spare b_spareWritten b_states b_fifth b_oldest b_stateCount b_text b_textLength b_at b_read b_columns b_told b_wants b_comes)) (vp_Si k) 0 0 (fun _ => False) := by
  refine Met.ofW (cc := cX5_of) (maxL := 3) (ret := (some .int)) (by decide) rfl ?_
  intro p e s m args below meth c s₁ B hml hv
  obtain ⟨rfl, hP, hK⟩ := hv
  have hx := B.exec
  have hb := B.bytes
  have hr := B.returns
  have hts := atoms_spec (ws := wsX5_of) B.pre
  have hown : s.vm.findClass RX5 = some m.cls := findClass_of_methodNamed B.named
  have hlocks := B.notSynchronized
  have iX5 : ∀ w ∈ wsX50, w ∈ wsX5_of := by decide +kernel
  have hl := lv_entry ([.ref (q 0), .int a_1, .int a_2]) (n := 3) (Nat.le_of_ble_eq_true rfl)
  rw [lg_entry_eq]
  generalize (lg_sl ([.ref (q 0), .int a_1, .int a_2]) ++ List.replicate (3 - (lg_sl ([.ref (q 0), .int a_1, .int a_2])).length) Slot.unset).toArray = ls at hl ⊢
  have hl : lv_has ls 3 [(0, .ref (q 0)), (1, .int a_1), (2, .int a_2)] := hl
  unfold PX5_of at h
  refine lv_aload_n hx hb dX5_of_0 rfl (lv_at hl 0 rfl) ?_
  refine va_get (D := g.1) (ci := 5) (v := .ref (q 1)) (C := RX5) (T := TX5) (N := 16) hx hb hts iX5 hown hK.1 hP 0 rfl rfl 0 (by decide) (hts (.fieldLink RX5 7 "LightWheelModel" "m" "[I") (by decide +kernel)) (fun _ h9 => h9) rfl dX5_of_1 ?_
  refine lv_bipush (v := (12 : Int32)) hx hb dX5_of_4 (by decide) ?_
  refine lv_iconst (v := (4 : Int32)) hx hb dX5_of_6 (by decide) ?_
  refine lv_iload_n hx hb dX5_of_7 rfl (lv_at hl 1 rfl) ?_
  refine lv_imul hx hb dX5_of_8 ?_
  refine lv_iadd hx hb dX5_of_9 ?_
  refine lv_iload_n hx hb dX5_of_10 rfl (lv_at hl 2 rfl) ?_
  refine lv_iadd hx hb dX5_of_11 ?_
  have o_12_0 := h.1
  replace h := h.2
  refine va_iald hx hb hK.1 hP 1 0 rfl rfl o_12_0 dX5_of_12 ?_
  exact W.iret hx hb hr (fun t ht hW => ⟨(b_m (Int32.toNatClampNeg (((12 : Int32) + ((4 : Int32) * a_1)) + a_2))), rfl, h, ht⟩) (fun _ h9 => by cases h9) dX5_of_13
theorem hdX5_isLight : yX5_isLight.cls = RX5 ∧ yX5_isLight.cls ≠ "java/lang/invoke/MethodHandle" ∧ yX5_isLight.cls ≠ "java/lang/invoke/VarHandle" ∧ (parseMethodDescriptor yX5_isLight.desc).map (fun d => d.parameters.length) = some 1 := by decide +kernel
set_option maxHeartbeats 4000000 in
set_option maxRecDepth 100000 in
theorem kX5_isLight (l : Launch) (g : GG)  (a_1 : Int32) (k : Int32 → Prop) (h : PX5_isLight  a_1 k) : Met l yX5_isLight wsX5_isLight ({ frames := 1, cells := 0, slots := 0, locals := 22 }) (PreR g [.int a_1] []) (vp_Si k) 0 0 (fun _ => False) := by
  refine Met.ofW (cc := cX5_isLight) (maxL := 1) (ret := (some .boolean)) (by decide) rfl ?_
  intro p e s m args below meth c s₁ B hml hv
  obtain ⟨rfl, hP, hK⟩ := hv
  have hx := B.exec
  have hb := B.bytes
  have hr := B.returns
  have hts := atoms_spec (ws := wsX5_isLight) B.pre
  have hown : s.vm.findClass RX5 = some m.cls := findClass_of_methodNamed B.named
  have hlocks := B.notSynchronized
  have hl := lv_entry ([.int a_1]) (n := 1) (Nat.le_of_ble_eq_true rfl)
  rw [lg_entry_eq]
  generalize (lg_sl ([.int a_1]) ++ List.replicate (1 - (lg_sl ([.int a_1])).length) Slot.unset).toArray = ls at hl ⊢
  have hl : lv_has ls 1 [(0, .int a_1)] := hl
  unfold PX5_isLight at h
  refine lv_iload_n hx hb dX5_isLight_0 rfl (lv_at hl 0 rfl) ?_
  refine lv_iconst (v := (0 : Int32)) hx hb dX5_isLight_1 (by decide) ?_
  refine lv_bipush (v := (11 : Int32)) hx hb dX5_isLight_2 (by decide) ?_
  refine vp_callSi (W.runS (As := [.int a_1, .int (0 : Int32), .int (11 : Int32)]) (rest := []) ⟨hx, hb, hml, hown, hts⟩ (kX5_in l g  a_1 (0 : Int32) (11 : Int32) _ h) (va_cwS 3 hts gX5_isLight_X5_in rfl rfl rfl hdX5_in.2 ⟨(Nat.le_of_ble_eq_true rfl), (Nat.le_of_ble_eq_true rfl)⟩) (preS_R hK (va_P_nil (D := g.1) (cl := vwCl))) rfl rfl hl.1 rfl (lv_room (Nat.le_of_ble_eq_true rfl)) dX5_isLight_4 ⟨(Nat.le_of_ble_eq_true rfl), (Nat.le_of_ble_eq_true rfl)⟩) (fun r4_1 h => ?_)
  have hbz := h.1
  replace h := h.2
  exact W.zret (v := r4_1) hx hb hr (by rcases hbz with e9 | e9 <;> rw [e9] <;> rfl) (fun t ht hW => ⟨r4_1, rfl, h, ht⟩) (fun _ h9 => by cases h9) dX5_isLight_7
theorem hdX5_cellOf : yX5_cellOf.cls = RX5 ∧ yX5_cellOf.cls ≠ "java/lang/invoke/MethodHandle" ∧ yX5_cellOf.cls ≠ "java/lang/invoke/VarHandle" ∧ (parseMethodDescriptor yX5_cellOf.desc).map (fun d => d.parameters.length) = some 3 := by decide +kernel
set_option maxHeartbeats 4000000 in
set_option maxRecDepth 100000 in
theorem kX5_cellOf (l : Launch) (g : GG)  (a_1 : Int32) (a_2 : Int32) (a_3 : Int32) (k : Int32 → Prop) (h : PX5_cellOf  a_1 a_2 a_3 k) : Met l yX5_cellOf wsX5_cellOf ({ frames := 0, cells := 0, slots := 0, locals := 0 }) (PreR g [.int a_1, .int a_2, .int a_3] []) (vp_Si k) 0 0 (fun _ => False) := by
  refine Met.ofW (cc := cX5_cellOf) (maxL := 3) (ret := (some .int)) (by decide) rfl ?_
  intro p e s m args below meth c s₁ B hml hv
  obtain ⟨rfl, hP, hK⟩ := hv
  have hx := B.exec
  have hb := B.bytes
  have hr := B.returns
  have hts := atoms_spec (ws := wsX5_cellOf) B.pre
  have hown : s.vm.findClass RX5 = some m.cls := findClass_of_methodNamed B.named
  have hlocks := B.notSynchronized
  have hl := lv_entry ([.int a_1, .int a_2, .int a_3]) (n := 3) (Nat.le_of_ble_eq_true rfl)
  rw [lg_entry_eq]
  generalize (lg_sl ([.int a_1, .int a_2, .int a_3]) ++ List.replicate (3 - (lg_sl ([.int a_1, .int a_2, .int a_3])).length) Slot.unset).toArray = ls at hl ⊢
  have hl : lv_has ls 3 [(0, .int a_1), (1, .int a_2), (2, .int a_3)] := hl
  unfold PX5_cellOf at h
  refine lv_bipush (v := (28 : Int32)) hx hb dX5_cellOf_0 (by decide) ?_
  refine lv_bipush (v := (80 : Int32)) hx hb dX5_cellOf_2 (by decide) ?_
  refine lv_iload_n hx hb dX5_cellOf_4 rfl (lv_at hl 0 rfl) ?_
  refine lv_imul hx hb dX5_cellOf_5 ?_
  refine lv_iadd hx hb dX5_cellOf_6 ?_
  refine lv_iconst (v := (2 : Int32)) hx hb dX5_cellOf_7 (by decide) ?_
  refine lv_iload_n hx hb dX5_cellOf_8 rfl (lv_at hl 1 rfl) ?_
  refine lv_imul hx hb dX5_cellOf_9 ?_
  refine lv_iadd hx hb dX5_cellOf_10 ?_
  refine lv_iload_n hx hb dX5_cellOf_11 rfl (lv_at hl 2 rfl) ?_
  refine lv_bipush (v := (6 : Int32)) hx hb dX5_cellOf_12 (by decide) ?_
  refine lv_idiv hx hb dX5_cellOf_14 (by decide) ?_
  refine lv_iadd hx hb dX5_cellOf_15 ?_
  exact W.iret hx hb hr (fun t ht hW => ⟨((((28 : Int32) + ((80 : Int32) * a_1)) + ((2 : Int32) * a_2)) + (a_3 / (6 : Int32))), rfl, h, ht⟩) (fun _ h9 => by cases h9) dX5_cellOf_16
theorem hdX5_colorOf : yX5_colorOf.cls = RX5 ∧ yX5_colorOf.cls ≠ "java/lang/invoke/MethodHandle" ∧ yX5_colorOf.cls ≠ "java/lang/invoke/VarHandle" ∧ (parseMethodDescriptor yX5_colorOf.desc).map (fun d => d.parameters.length) = some 3 := by decide +kernel
set_option maxHeartbeats 4000000 in
set_option maxRecDepth 100000 in
theorem kX5_colorOf (l : Launch) (g : GG) (q : Nat → Nat) (b_m : Nat → Int32) (b_written : Nat → Int32) (b_spare : Nat → Int32) (b_spareWritten : Nat → Int32) (b_states : Nat → Int32) (b_fifth : Nat → Int32) (b_oldest : Int32) (b_stateCount : Int32) (b_text : Nat → Int32) (b_textLength : Int32) (b_at : Int32) (b_read : Nat → Int32) (b_columns : Int32) (b_told : Int32) (b_wants : Nat → Int32) (b_comes : Nat → Int32) (a_1 : Int32) (a_2 : Int32) (a_3 : Int32) (k : Int32 → Prop) (h : PX5_colorOf b_m a_1 a_2 a_3 k) : Met l yX5_colorOf wsX5_colorOf ({ frames := 1, cells := 0, slots := 0, locals := 22 }) (PreR g [.ref (q 0), .int a_1, .int a_2, .int a_3] (wM g q b_m b_written b_spare b_spareWritten b_states b_fifth b_oldest b_stateCount b_text b_textLength b_at b_read b_columns b_told b_wants b_comes)) (vp_Si k) 0 0 (fun _ => False) := by
  refine Met.ofW (cc := cX5_colorOf) (maxL := 4) (ret := (some .int)) (by decide) rfl ?_
  intro p e s m args below meth c s₁ B hml hv
  obtain ⟨rfl, hP, hK⟩ := hv
  have hx := B.exec
  have hb := B.bytes
  have hr := B.returns
  have hts := atoms_spec (ws := wsX5_colorOf) B.pre
  have hown : s.vm.findClass RX5 = some m.cls := findClass_of_methodNamed B.named
  have hlocks := B.notSynchronized
  have iX5 : ∀ w ∈ wsX50, w ∈ wsX5_colorOf := by decide +kernel
  have hl := lv_entry ([.ref (q 0), .int a_1, .int a_2, .int a_3]) (n := 4) (Nat.le_of_ble_eq_true rfl)
  rw [lg_entry_eq]
  generalize (lg_sl ([.ref (q 0), .int a_1, .int a_2, .int a_3]) ++ List.replicate (4 - (lg_sl ([.ref (q 0), .int a_1, .int a_2, .int a_3])).length) Slot.unset).toArray = ls at hl ⊢
  have hl : lv_has ls 4 [(0, .ref (q 0)), (1, .int a_1), (2, .int a_2), (3, .int a_3)] := hl
  unfold PX5_colorOf at h
  refine lv_aload_n hx hb dX5_colorOf_0 rfl (lv_at hl 0 rfl) ?_
  refine va_get (D := g.1) (ci := 5) (v := .ref (q 1)) (C := RX5) (T := TX5) (N := 16) hx hb hts iX5 hown hK.1 hP 0 rfl rfl 0 (by decide) (hts (.fieldLink RX5 7 "LightWheelModel" "m" "[I") (by decide +kernel)) (fun _ h9 => h9) rfl dX5_colorOf_1 ?_
  refine lv_iload_n hx hb dX5_colorOf_4 rfl (lv_at hl 1 rfl) ?_
  refine lv_iload_n hx hb dX5_colorOf_5 rfl (lv_at hl 2 rfl) ?_
  refine lv_iload_n hx hb dX5_colorOf_6 rfl (lv_at hl 3 rfl) ?_
  refine vp_callSi (W.runS (As := [.int a_1, .int a_2, .int a_3]) (rest := [.ref (q 1)]) ⟨hx, hb, hml, hown, hts⟩ (kX5_cellOf l g  a_1 a_2 a_3 _ h) (va_cwS 3 hts gX5_colorOf_X5_cellOf rfl rfl rfl hdX5_cellOf.2 ⟨(Nat.le_of_ble_eq_true rfl), (Nat.le_of_ble_eq_true rfl)⟩) (preS_R hK (va_P_nil (D := g.1) (cl := vwCl))) rfl rfl hl.1 rfl (lv_room (Nat.le_of_ble_eq_true rfl)) dX5_colorOf_7 ⟨(Nat.le_of_ble_eq_true rfl), (Nat.le_of_ble_eq_true rfl)⟩) (fun r7_1 h => ?_)
  have o_10_1 := h.1
  replace h := h.2
  refine va_iald hx hb hK.1 hP 1 0 rfl rfl o_10_1 dX5_colorOf_10 ?_
  refine lv_iconst (v := (3 : Int32)) hx hb dX5_colorOf_11 (by decide) ?_
  refine lv_iload_n hx hb dX5_colorOf_12 rfl (lv_at hl 3 rfl) ?_
  refine lv_bipush (v := (6 : Int32)) hx hb dX5_colorOf_13 (by decide) ?_
  refine lv_irem hx hb dX5_colorOf_15 (by decide) ?_
  refine lv_imul hx hb dX5_colorOf_16 ?_
  refine lv_ishr hx hb dX5_colorOf_17 ?_
  refine lv_bipush (v := (7 : Int32)) hx hb dX5_colorOf_18 (by decide) ?_
  refine lv_iand hx hb dX5_colorOf_20 ?_
  exact W.iret hx hb hr (fun t ht hW => ⟨(((b_m (Int32.toNatClampNeg r7_1)) >>> (((3 : Int32) * (a_3 - a_3 / (6 : Int32) * (6 : Int32))) &&& 31)) &&& (7 : Int32)), rfl, h, ht⟩) (fun _ h9 => by cases h9) dX5_colorOf_21
theorem hdX5_covered : yX5_covered.cls = RX5 ∧ yX5_covered.cls ≠ "java/lang/invoke/MethodHandle" ∧ yX5_covered.cls ≠ "java/lang/invoke/VarHandle" ∧ (parseMethodDescriptor yX5_covered.desc).map (fun d => d.parameters.length) = some 1 := by decide +kernel
set_option maxHeartbeats 4000000 in
set_option maxRecDepth 100000 in
theorem kX5_covered (l : Launch) (g : GG) (q : Nat → Nat) (b_m : Nat → Int32) (b_written : Nat → Int32) (b_spare : Nat → Int32) (b_spareWritten : Nat → Int32) (b_states : Nat → Int32) (b_fifth : Nat → Int32) (b_oldest : Int32) (b_stateCount : Int32) (b_text : Nat → Int32) (b_textLength : Int32) (b_at : Int32) (b_read : Nat → Int32) (b_columns : Int32) (b_told : Int32) (b_wants : Nat → Int32) (b_comes : Nat → Int32) (a_1 : Int32) (k : Int32 → Prop) (h : PX5_covered b_m a_1 k) : Met l yX5_covered wsX5_covered ({ frames := 1, cells := 0, slots := 0, locals := 22 }) (PreR g [.ref (q 0), .int a_1] (wM g q b_m b_written b_spare b_spareWritten b_states b_fifth b_oldest b_stateCount b_text b_textLength b_at b_read b_columns b_told b_wants b_comes)) (vp_Si k) 0 0 (fun _ => False) := by
  refine Met.ofW (cc := cX5_covered) (maxL := 2) (ret := (some .int)) (by decide) rfl ?_
  intro p e s m args below meth c s₁ B hml hv
  obtain ⟨rfl, hP, hK⟩ := hv
  have hx := B.exec
  have hb := B.bytes
  have hr := B.returns
  have hts := atoms_spec (ws := wsX5_covered) B.pre
  have hown : s.vm.findClass RX5 = some m.cls := findClass_of_methodNamed B.named
  have hlocks := B.notSynchronized
  have hl := lv_entry ([.ref (q 0), .int a_1]) (n := 2) (Nat.le_of_ble_eq_true rfl)
  rw [lg_entry_eq]
  generalize (lg_sl ([.ref (q 0), .int a_1]) ++ List.replicate (2 - (lg_sl ([.ref (q 0), .int a_1])).length) Slot.unset).toArray = ls at hl ⊢
  have hl : lv_has ls 2 [(0, .ref (q 0)), (1, .int a_1)] := hl
  unfold PX5_covered at h
  refine lv_aload_n hx hb dX5_covered_0 rfl (lv_at hl 0 rfl) ?_
  refine lv_iload_n hx hb dX5_covered_1 rfl (lv_at hl 1 rfl) ?_
  refine lv_iconst (v := (0 : Int32)) hx hb dX5_covered_2 (by decide) ?_
  refine vp_callSi (W.runV (As := [.int a_1, .int (0 : Int32)]) (rest := []) ⟨hx, hb, hml, hown, hts⟩ (kX5_of l g q b_m b_written b_spare b_spareWritten b_states b_fifth b_oldest b_stateCount b_text b_textLength b_at b_read b_columns b_told b_wants b_comes a_1 (0 : Int32) _ h) (cwV 2 hts gX5_covered_X5_of rfl rfl rfl hdX5_of ⟨(Nat.le_of_ble_eq_true rfl), (Nat.le_of_ble_eq_true rfl)⟩) (preV_R (r := (RX5, TX5, 16)) hK hP (ci := 5) (q0 := 0) rfl rfl) rfl rfl hl.1 rfl (lv_room (Nat.le_of_ble_eq_true rfl)) dX5_covered_3 ⟨(Nat.le_of_ble_eq_true rfl), (Nat.le_of_ble_eq_true rfl)⟩) (fun r3_1 h => ?_)
  refine lv_aload_n hx hb dX5_covered_6 rfl (lv_at hl 0 rfl) ?_
  refine lv_iload_n hx hb dX5_covered_7 rfl (lv_at hl 1 rfl) ?_
  refine lv_iconst (v := (2 : Int32)) hx hb dX5_covered_8 (by decide) ?_
  refine vp_callSi (W.runV (As := [.int a_1, .int (2 : Int32)]) (rest := [.int r3_1]) ⟨hx, hb, hml, hown, hts⟩ (kX5_of l g q b_m b_written b_spare b_spareWritten b_states b_fifth b_oldest b_stateCount b_text b_textLength b_at b_read b_columns b_told b_wants b_comes a_1 (2 : Int32) _ h) (cwV 2 hts gX5_covered_X5_of rfl rfl rfl hdX5_of ⟨(Nat.le_of_ble_eq_true rfl), (Nat.le_of_ble_eq_true rfl)⟩) (preV_R (r := (RX5, TX5, 16)) hK hP (ci := 5) (q0 := 0) rfl rfl) rfl rfl hl.1 rfl (lv_room (Nat.le_of_ble_eq_true rfl)) dX5_covered_9 ⟨(Nat.le_of_ble_eq_true rfl), (Nat.le_of_ble_eq_true rfl)⟩) (fun r9_2 h => ?_)
  refine lv_imul hx hb dX5_covered_12 ?_
  refine lv_sipush (v := (720 : Int32)) hx hb dX5_covered_13 (by decide) ?_
  refine vp_callSi (W.runS (As := [.int (r3_1 * r9_2), .int (720 : Int32)]) (rest := []) ⟨hx, hb, hml, hown, hts⟩ (kX5_lesser l g  (r3_1 * r9_2) (720 : Int32) _ h) (va_cwS 2 hts gX5_covered_X5_lesser rfl rfl rfl hdX5_lesser.2 ⟨(Nat.le_of_ble_eq_true rfl), (Nat.le_of_ble_eq_true rfl)⟩) (preS_R hK (va_P_nil (D := g.1) (cl := vwCl))) rfl rfl hl.1 rfl (lv_room (Nat.le_of_ble_eq_true rfl)) dX5_covered_16 ⟨(Nat.le_of_ble_eq_true rfl), (Nat.le_of_ble_eq_true rfl)⟩) (fun r16_3 h => ?_)
  exact W.iret hx hb hr (fun t ht hW => ⟨r16_3, rfl, h, ht⟩) (fun _ h9 => by cases h9) dX5_covered_19
theorem hdX5_columnOf : yX5_columnOf.cls = RX5 ∧ yX5_columnOf.cls ≠ "java/lang/invoke/MethodHandle" ∧ yX5_columnOf.cls ≠ "java/lang/invoke/VarHandle" ∧ (parseMethodDescriptor yX5_columnOf.desc).map (fun d => d.parameters.length) = some 2 := by decide +kernel
set_option maxHeartbeats 4000000 in
set_option maxRecDepth 100000 in
theorem kX5_columnOf (l : Launch) (g : GG) (q : Nat → Nat) (b_m : Nat → Int32) (b_written : Nat → Int32) (b_spare : Nat → Int32) (b_spareWritten : Nat → Int32) (b_states : Nat → Int32) (b_fifth : Nat → Int32) (b_oldest : Int32) (b_stateCount : Int32) (b_text : Nat → Int32) (b_textLength : Int32) (b_at : Int32) (b_read : Nat → Int32) (b_columns : Int32) (b_told : Int32) (b_wants : Nat → Int32) (b_comes : Nat → Int32) (a_1 : Int32) (a_2 : Int32) (k : Int32 → Prop) (h : PX5_columnOf b_m a_1 a_2 k) : Met l yX5_columnOf wsX5_columnOf ({ frames := 2, cells := 0, slots := 0, locals := 43 }) (PreR g [.ref (q 0), .int a_1, .int a_2] (wM g q b_m b_written b_spare b_spareWritten b_states b_fifth b_oldest b_stateCount b_text b_textLength b_at b_read b_columns b_told b_wants b_comes)) (vp_Si k) 0 0 (fun _ => False) := by
  refine Met.ofW (cc := cX5_columnOf) (maxL := 5) (ret := (some .int)) (by decide) rfl ?_
  intro p e s m args below meth c s₁ B hml hv
  obtain ⟨rfl, hP, hK⟩ := hv
  have hx := B.exec
  have hb := B.bytes
  have hr := B.returns
  have hts := atoms_spec (ws := wsX5_columnOf) B.pre
  have hown : s.vm.findClass RX5 = some m.cls := findClass_of_methodNamed B.named
  have hlocks := B.notSynchronized
  have hl := lv_entry ([.ref (q 0), .int a_1, .int a_2]) (n := 5) (Nat.le_of_ble_eq_true rfl)
  rw [lg_entry_eq]
  generalize (lg_sl ([.ref (q 0), .int a_1, .int a_2]) ++ List.replicate (5 - (lg_sl ([.ref (q 0), .int a_1, .int a_2])).length) Slot.unset).toArray = ls at hl ⊢
  have hl : lv_has ls 5 [(0, .ref (q 0)), (1, .int a_1), (2, .int a_2)] := hl
  unfold PX5_columnOf at h
  refine lv_iload_n hx hb dX5_columnOf_0 rfl (lv_at hl 2 rfl) ?_
  refine lv_aload_n hx hb dX5_columnOf_1 rfl (lv_at hl 0 rfl) ?_
  refine lv_iload_n hx hb dX5_columnOf_2 rfl (lv_at hl 1 rfl) ?_
  refine lv_iconst (v := (1 : Int32)) hx hb dX5_columnOf_3 (by decide) ?_
  refine vp_callSi (W.runV (As := [.int a_1, .int (1 : Int32)]) (rest := [.int a_2]) ⟨hx, hb, hml, hown, hts⟩ (kX5_of l g q b_m b_written b_spare b_spareWritten b_states b_fifth b_oldest b_stateCount b_text b_textLength b_at b_read b_columns b_told b_wants b_comes a_1 (1 : Int32) _ h) (cwV 2 hts gX5_columnOf_X5_of rfl rfl rfl hdX5_of ⟨(Nat.le_of_ble_eq_true rfl), (Nat.le_of_ble_eq_true rfl)⟩) (preV_R (r := (RX5, TX5, 16)) hK hP (ci := 5) (q0 := 0) rfl rfl) rfl rfl hl.1 rfl (lv_room (Nat.le_of_ble_eq_true rfl)) dX5_columnOf_4 ⟨(Nat.le_of_ble_eq_true rfl), (Nat.le_of_ble_eq_true rfl)⟩) (fun r4_1 h => ?_)
  refine lv_isub hx hb dX5_columnOf_7 ?_
  refine vp_callSi (W.runS (As := [.int (a_2 - r4_1)]) (rest := []) ⟨hx, hb, hml, hown, hts⟩ (kX5_around l g  (a_2 - r4_1) _ h) (va_cwS 1 hts gX5_columnOf_X5_around rfl rfl rfl hdX5_around.2 ⟨(Nat.le_of_ble_eq_true rfl), (Nat.le_of_ble_eq_true rfl)⟩) (preS_R hK (va_P_nil (D := g.1) (cl := vwCl))) rfl rfl hl.1 rfl (lv_room (Nat.le_of_ble_eq_true rfl)) dX5_columnOf_8 ⟨(Nat.le_of_ble_eq_true rfl), (Nat.le_of_ble_eq_true rfl)⟩) (fun r8_2 h => ?_)
  refine lv_istore_n (lv' := [(3, .int r8_2), (0, .ref (q 0)), (1, .int a_1), (2, .int a_2)]) hx hb dX5_columnOf_11 rfl hl (by decide) rfl (fun ls hl => ?_)
  refine lv_iload_n hx hb dX5_columnOf_12 rfl (lv_at hl 0 rfl) ?_
  refine lv_aload_n hx hb dX5_columnOf_13 rfl (lv_at hl 1 rfl) ?_
  refine lv_iload_n hx hb dX5_columnOf_14 rfl (lv_at hl 2 rfl) ?_
  refine vp_callSi (W.runV (As := [.int a_1]) (rest := [.int r8_2]) ⟨hx, hb, hml, hown, hts⟩ (kX5_covered l g q b_m b_written b_spare b_spareWritten b_states b_fifth b_oldest b_stateCount b_text b_textLength b_at b_read b_columns b_told b_wants b_comes a_1 _ h) (cwV 1 hts gX5_columnOf_X5_covered rfl rfl rfl hdX5_covered ⟨(Nat.le_of_ble_eq_true rfl), (Nat.le_of_ble_eq_true rfl)⟩) (preV_R (r := (RX5, TX5, 16)) hK hP (ci := 5) (q0 := 0) rfl rfl) rfl rfl hl.1 rfl (lv_room (Nat.le_of_ble_eq_true rfl)) dX5_columnOf_15 ⟨(Nat.le_of_ble_eq_true rfl), (Nat.le_of_ble_eq_true rfl)⟩) (fun r15_3 h => ?_)
  refine lv_icmp_lt (tgt := 24) hx hb dX5_columnOf_18 (by decide) (fun c_18_3 => ?_) (fun c_18_3 => ?_)
  · replace h := h.1 c_18_3
    refine lv_iload_n hx hb dX5_columnOf_24 rfl (lv_at hl 0 rfl) ?_
    refine lv_aload_n hx hb dX5_columnOf_25 rfl (lv_at hl 1 rfl) ?_
    refine lv_iload_n hx hb dX5_columnOf_26 rfl (lv_at hl 2 rfl) ?_
    refine lv_iconst (v := (2 : Int32)) hx hb dX5_columnOf_27 (by decide) ?_
    refine vp_callSi (W.runV (As := [.int a_1, .int (2 : Int32)]) (rest := [.int r8_2]) ⟨hx, hb, hml, hown, hts⟩ (kX5_of l g q b_m b_written b_spare b_spareWritten b_states b_fifth b_oldest b_stateCount b_text b_textLength b_at b_read b_columns b_told b_wants b_comes a_1 (2 : Int32) _ h) (cwV 2 hts gX5_columnOf_X5_of rfl rfl rfl hdX5_of ⟨(Nat.le_of_ble_eq_true rfl), (Nat.le_of_ble_eq_true rfl)⟩) (preV_R (r := (RX5, TX5, 16)) hK hP (ci := 5) (q0 := 0) rfl rfl) rfl rfl hl.1 rfl (lv_room (Nat.le_of_ble_eq_true rfl)) dX5_columnOf_28 ⟨(Nat.le_of_ble_eq_true rfl), (Nat.le_of_ble_eq_true rfl)⟩) (fun r28_5 h => ?_)
    have o_31_5 := h.1
    replace h := h.2
    refine lv_idiv hx hb dX5_columnOf_31 o_31_5 ?_
    refine lv_topi (fun v4_7 e_v4_7 => ?_)
    replace h := h v4_7 e_v4_7
    refine lv_istore (lv' := [(4, .int v4_7), (3, .int r8_2), (0, .ref (q 0)), (1, .int a_1), (2, .int a_2)]) hx hb dX5_columnOf_32 hl (by decide) rfl (fun ls hl => ?_)
    refine lv_aload_n hx hb dX5_columnOf_34 rfl (lv_at hl 2 rfl) ?_
    refine lv_iload_n hx hb dX5_columnOf_35 rfl (lv_at hl 3 rfl) ?_
    refine lv_iconst (v := (3 : Int32)) hx hb dX5_columnOf_36 (by decide) ?_
    refine vp_callSi (W.runV (As := [.int a_1, .int (3 : Int32)]) (rest := []) ⟨hx, hb, hml, hown, hts⟩ (kX5_of l g q b_m b_written b_spare b_spareWritten b_states b_fifth b_oldest b_stateCount b_text b_textLength b_at b_read b_columns b_told b_wants b_comes a_1 (3 : Int32) _ h) (cwV 2 hts gX5_columnOf_X5_of rfl rfl rfl hdX5_of ⟨(Nat.le_of_ble_eq_true rfl), (Nat.le_of_ble_eq_true rfl)⟩) (preV_R (r := (RX5, TX5, 16)) hK hP (ci := 5) (q0 := 0) rfl rfl) rfl rfl hl.1 rfl (lv_room (Nat.le_of_ble_eq_true rfl)) dX5_columnOf_37 ⟨(Nat.le_of_ble_eq_true rfl), (Nat.le_of_ble_eq_true rfl)⟩) (fun r37_8 h => ?_)
    refine lv_iconst (v := (1 : Int32)) hx hb dX5_columnOf_40 (by decide) ?_
    refine lv_icmp_ne (tgt := 58) hx hb dX5_columnOf_41 (by decide) (fun c_41_8 => ?_) (fun c_41_8 => ?_)
    · replace h := h.1 c_41_8
      refine lv_iload hx hb dX5_columnOf_58 (lv_at hl 0 rfl) ?_
      exact W.iret hx hb hr (fun t ht hW => ⟨v4_7, rfl, h, ht⟩) (fun _ h9 => by cases h9) dX5_columnOf_60
    · replace h := h.2 c_41_8
      refine lv_aload_n hx hb dX5_columnOf_44 rfl (lv_at hl 2 rfl) ?_
      refine lv_iload_n hx hb dX5_columnOf_45 rfl (lv_at hl 3 rfl) ?_
      refine lv_iconst (v := (0 : Int32)) hx hb dX5_columnOf_46 (by decide) ?_
      refine vp_callSi (W.runV (As := [.int a_1, .int (0 : Int32)]) (rest := []) ⟨hx, hb, hml, hown, hts⟩ (kX5_of l g q b_m b_written b_spare b_spareWritten b_states b_fifth b_oldest b_stateCount b_text b_textLength b_at b_read b_columns b_told b_wants b_comes a_1 (0 : Int32) _ h) (cwV 2 hts gX5_columnOf_X5_of rfl rfl rfl hdX5_of ⟨(Nat.le_of_ble_eq_true rfl), (Nat.le_of_ble_eq_true rfl)⟩) (preV_R (r := (RX5, TX5, 16)) hK hP (ci := 5) (q0 := 0) rfl rfl) rfl rfl hl.1 rfl (lv_room (Nat.le_of_ble_eq_true rfl)) dX5_columnOf_47 ⟨(Nat.le_of_ble_eq_true rfl), (Nat.le_of_ble_eq_true rfl)⟩) (fun r47_10 h => ?_)
      refine lv_iconst (v := (1 : Int32)) hx hb dX5_columnOf_50 (by decide) ?_
      refine lv_isub hx hb dX5_columnOf_51 ?_
      refine lv_iload hx hb dX5_columnOf_52 (lv_at hl 0 rfl) ?_
      refine lv_isub hx hb dX5_columnOf_54 ?_
      refine lv_goto (tgt := 60) hx hb dX5_columnOf_55 (by decide) ?_
      exact W.iret hx hb hr (fun t ht hW => ⟨((r47_10 - (1 : Int32)) - v4_7), rfl, h, ht⟩) (fun _ h9 => by cases h9) dX5_columnOf_60
  · replace h := h.2 c_18_3
    refine lv_bipush (v := (-109 : Int32)) hx hb dX5_columnOf_21 (by decide) ?_
    exact W.iret hx hb hr (fun t ht hW => ⟨(-109 : Int32), rfl, h, ht⟩) (fun _ h9 => by cases h9) dX5_columnOf_23
theorem hdX5_wanted : yX5_wanted.cls = RX5 ∧ yX5_wanted.cls ≠ "java/lang/invoke/MethodHandle" ∧ yX5_wanted.cls ≠ "java/lang/invoke/VarHandle" ∧ (parseMethodDescriptor yX5_wanted.desc).map (fun d => d.parameters.length) = some 2 := by decide +kernel
set_option maxHeartbeats 4000000 in
set_option maxRecDepth 100000 in
theorem kX5_wanted (l : Launch) (g : GG) (q : Nat → Nat) (b_m : Nat → Int32) (b_written : Nat → Int32) (b_spare : Nat → Int32) (b_spareWritten : Nat → Int32) (b_states : Nat → Int32) (b_fifth : Nat → Int32) (b_oldest : Int32) (b_stateCount : Int32) (b_text : Nat → Int32) (b_textLength : Int32) (b_at : Int32) (b_read : Nat → Int32) (b_columns : Int32) (b_told : Int32) (b_wants : Nat → Int32) (b_comes : Nat → Int32) (a_1 : Int32) (a_2 : Int32) (k : Int32 → Prop) (h : PX5_wanted b_m a_1 a_2 k) : Met l yX5_wanted wsX5_wanted ({ frames := 3, cells := 0, slots := 0, locals := 67 }) (PreR g [.ref (q 0), .int a_1, .int a_2] (wM g q b_m b_written b_spare b_spareWritten b_states b_fifth b_oldest b_stateCount b_text b_textLength b_at b_read b_columns b_told b_wants b_comes)) (vp_Si k) 0 0 (fun _ => False) := by
  refine Met.ofW (cc := cX5_wanted) (maxL := 6) (ret := (some .int)) (by decide) rfl ?_
  intro p e s m args below meth c s₁ B hml hv
  obtain ⟨rfl, hP, hK⟩ := hv
  have hx := B.exec
  have hb := B.bytes
  have hr := B.returns
  have hts := atoms_spec (ws := wsX5_wanted) B.pre
  have hown : s.vm.findClass RX5 = some m.cls := findClass_of_methodNamed B.named
  have hlocks := B.notSynchronized
  have iX5 : ∀ w ∈ wsX50, w ∈ wsX5_wanted := by decide +kernel
  have hl := lv_entry ([.ref (q 0), .int a_1, .int a_2]) (n := 6) (Nat.le_of_ble_eq_true rfl)
  rw [lg_entry_eq]
  generalize (lg_sl ([.ref (q 0), .int a_1, .int a_2]) ++ List.replicate (6 - (lg_sl ([.ref (q 0), .int a_1, .int a_2])).length) Slot.unset).toArray = ls at hl ⊢
  have hl : lv_has ls 6 [(0, .ref (q 0)), (1, .int a_1), (2, .int a_2)] := hl
  unfold PX5_wanted at h
  refine lv_iconst (v := (0 : Int32)) hx hb dX5_wanted_0 (by decide) ?_
  refine lv_istore_n (lv' := [(3, .int (0 : Int32)), (0, .ref (q 0)), (1, .int a_1), (2, .int a_2)]) hx hb dX5_wanted_1 rfl hl (by decide) rfl (fun ls hl => ?_)
  refine lv_iconst (v := (0 : Int32)) hx hb dX5_wanted_2 (by decide) ?_
  refine lv_istore (lv' := [(4, .int (0 : Int32)), (3, .int (0 : Int32)), (0, .ref (q 0)), (1, .int a_1), (2, .int a_2)]) hx hb dX5_wanted_3 hl (by decide) rfl (fun ls hl => ?_)
  have loop_1 : ∀ (kx_1 : Int32 → Int32 → Prop), (∀ (v3_1 : Int32) (v4_2 : Int32) (ls : Array Slot), kx_1 v3_1 v4_2 → lv_has ls 6 [(4, .int v4_2), (3, .int v3_1), (0, .ref (q 0)), (1, .int a_1), (2, .int a_2)] → W p l e (headSpec wsX5_wanted ({ frames := 3, cells := 0, slots := 0, locals := 67 })).room s m ([.ref (q 0), .int a_1, .int a_2] : List Value).toArray below meth c s.heap [] 0 0 (MQ below (vp_Si k) ([.ref (q 0), .int a_1, .int a_2] : List Value).toArray s 0 0 (fun _ => False)) (F0 m 71 ls [])) → ∀ (n_1 : Nat) (v3_1 : Int32) (v4_2 : Int32) (ls : Array Slot), PX5_wanted_L1 b_m a_1 a_2 kx_1 n_1 v3_1 v4_2 → lv_has ls 6 [(4, .int v4_2), (3, .int v3_1), (0, .ref (q 0)), (1, .int a_1), (2, .int a_2)] → W p l e (headSpec wsX5_wanted ({ frames := 3, cells := 0, slots := 0, locals := 67 })).room s m ([.ref (q 0), .int a_1, .int a_2] : List Value).toArray below meth c s.heap [] 0 0 (MQ below (vp_Si k) ([.ref (q 0), .int a_1, .int a_2] : List Value).toArray s 0 0 (fun _ => False)) (F0 m 5 ls []) := by
    intro kx_1 hexit_1 n_1
    induction n_1 with
    | zero => exact fun _ _ _ h _ => (h : False).elim
    | succ n_1 ih_1 =>
      intro v3_1 v4_2 ls h hl
      unfold PX5_wanted_L1 at h
      refine lv_iload hx hb dX5_wanted_5 (lv_at hl 0 rfl) ?_
      refine lv_aload_n hx hb dX5_wanted_7 rfl (lv_at hl 2 rfl) ?_
      refine va_get (D := g.1) (ci := 5) (v := .ref (q 1)) (C := RX5) (T := TX5) (N := 16) hx hb hts iX5 hown hK.1 hP 0 rfl rfl 0 (by decide) (hts (.fieldLink RX5 7 "LightWheelModel" "m" "[I") (by decide +kernel)) (fun _ h9 => h9) rfl dX5_wanted_8 ?_
      refine lv_bipush (v := (11 : Int32)) hx hb dX5_wanted_11 (by decide) ?_
      refine xr_iald hx hb hK.1 hP 1 0 rfl rfl 11 rfl (Nat.le_of_ble_eq_true rfl) (Nat.le_of_ble_eq_true rfl) dX5_wanted_13 ?_
      refine lv_icmp_ge (tgt := 71) hx hb dX5_wanted_14 (by decide) (fun c_14_2 => ?_) (fun c_14_2 => ?_)
      · replace h := h.1 c_14_2
        exact hexit_1 v3_1 v4_2 ls h (lv_sub hl [0, 1, 2, 3, 4] rfl)
      · replace h := h.2 c_14_2
        refine lv_aload_n hx hb dX5_wanted_17 rfl (lv_at hl 2 rfl) ?_
        refine lv_iload hx hb dX5_wanted_18 (lv_at hl 0 rfl) ?_
        refine lv_iconst (v := (3 : Int32)) hx hb dX5_wanted_20 (by decide) ?_
        refine vp_callSi (W.runV (As := [.int v4_2, .int (3 : Int32)]) (rest := []) ⟨hx, hb, hml, hown, hts⟩ (kX5_of l g q b_m b_written b_spare b_spareWritten b_states b_fifth b_oldest b_stateCount b_text b_textLength b_at b_read b_columns b_told b_wants b_comes v4_2 (3 : Int32) _ h) (cwV 2 hts gX5_wanted_X5_of rfl rfl rfl hdX5_of ⟨(Nat.le_of_ble_eq_true rfl), (Nat.le_of_ble_eq_true rfl)⟩) (preV_R (r := (RX5, TX5, 16)) hK hP (ci := 5) (q0 := 0) rfl rfl) rfl rfl hl.1 rfl (lv_room (Nat.le_of_ble_eq_true rfl)) dX5_wanted_21 ⟨(Nat.le_of_ble_eq_true rfl), (Nat.le_of_ble_eq_true rfl)⟩) (fun r21_4 h => ?_)
        refine lv_iconst (v := (2 : Int32)) hx hb dX5_wanted_24 (by decide) ?_
        refine lv_icmp_ne (tgt := 33) hx hb dX5_wanted_25 (by decide) (fun c_25_4 => ?_) (fun c_25_4 => ?_)
        · replace h := h.1 c_25_4
          refine lv_aload_n hx hb dX5_wanted_33 rfl (lv_at hl 2 rfl) ?_
          refine lv_iload hx hb dX5_wanted_34 (lv_at hl 0 rfl) ?_
          refine lv_iload_n hx hb dX5_wanted_36 rfl (lv_at hl 3 rfl) ?_
          refine vp_callSi (W.runV (As := [.int v4_2, .int a_1]) (rest := []) ⟨hx, hb, hml, hown, hts⟩ (kX5_columnOf l g q b_m b_written b_spare b_spareWritten b_states b_fifth b_oldest b_stateCount b_text b_textLength b_at b_read b_columns b_told b_wants b_comes v4_2 a_1 _ h) (cwV 2 hts gX5_wanted_X5_columnOf rfl rfl rfl hdX5_columnOf ⟨(Nat.le_of_ble_eq_true rfl), (Nat.le_of_ble_eq_true rfl)⟩) (preV_R (r := (RX5, TX5, 16)) hK hP (ci := 5) (q0 := 0) rfl rfl) rfl rfl hl.1 rfl (lv_room (Nat.le_of_ble_eq_true rfl)) dX5_wanted_37 ⟨(Nat.le_of_ble_eq_true rfl), (Nat.le_of_ble_eq_true rfl)⟩) (fun r37_6 h => ?_)
          refine lv_istore (lv' := [(5, .int r37_6), (4, .int v4_2), (3, .int v3_1), (0, .ref (q 0)), (1, .int a_1), (2, .int a_2)]) hx hb dX5_wanted_40 hl (by decide) rfl (fun ls hl => ?_)
          refine lv_iload_n hx hb dX5_wanted_42 rfl (lv_at hl 2 rfl) ?_
          refine lv_iload hx hb dX5_wanted_43 (lv_at hl 0 rfl) ?_
          refine lv_bipush (v := (-109 : Int32)) hx hb dX5_wanted_45 (by decide) ?_
          refine lv_icmp_ne (tgt := 54) hx hb dX5_wanted_47 (by decide) (fun c_47_6 => ?_) (fun c_47_6 => ?_)
          · replace h := h.1 c_47_6
            refine lv_aload_n hx hb dX5_wanted_54 rfl (lv_at hl 3 rfl) ?_
            refine lv_iload hx hb dX5_wanted_55 (lv_at hl 1 rfl) ?_
            refine lv_iload hx hb dX5_wanted_57 (lv_at hl 0 rfl) ?_
            refine lv_iload_n hx hb dX5_wanted_59 rfl (lv_at hl 5 rfl) ?_
            refine vp_callSi (W.runV (As := [.int v4_2, .int r37_6, .int a_2]) (rest := [.int v3_1]) ⟨hx, hb, hml, hown, hts⟩ (kX5_colorOf l g q b_m b_written b_spare b_spareWritten b_states b_fifth b_oldest b_stateCount b_text b_textLength b_at b_read b_columns b_told b_wants b_comes v4_2 r37_6 a_2 _ h) (cwV 3 hts gX5_wanted_X5_colorOf rfl rfl rfl hdX5_colorOf ⟨(Nat.le_of_ble_eq_true rfl), (Nat.le_of_ble_eq_true rfl)⟩) (preV_R (r := (RX5, TX5, 16)) hK hP (ci := 5) (q0 := 0) rfl rfl) rfl rfl hl.1 rfl (lv_room (Nat.le_of_ble_eq_true rfl)) dX5_wanted_60 ⟨(Nat.le_of_ble_eq_true rfl), (Nat.le_of_ble_eq_true rfl)⟩) (fun r60_8 h => ?_)
            refine lv_ior hx hb dX5_wanted_63 ?_
            refine lv_topi (fun v3_9 e_v3_9 => ?_)
            replace h := h v3_9 e_v3_9
            refine lv_istore_n (lv' := [(3, .int v3_9), (5, .int r37_6), (4, .int v4_2), (0, .ref (q 0)), (1, .int a_1), (2, .int a_2)]) hx hb dX5_wanted_64 rfl hl (by decide) rfl (fun ls hl => ?_)
            obtain ⟨v4_10, e_v4_10⟩ : ∃ y : Int32, y = v4_2 + (1 : Int32) := ⟨_, rfl⟩
            replace h := h v4_10 e_v4_10
            refine lv_iinc (v := v4_10) (lv' := [(4, .int v4_10), (3, .int v3_9), (5, .int r37_6), (0, .ref (q 0)), (1, .int a_1), (2, .int a_2)]) hx hb dX5_wanted_65 hl (k := 2) rfl (by rw [e_v4_10]; rfl) (by decide) rfl (fun ls hl => ?_)
            refine lv_goto (tgt := 5) hx hb dX5_wanted_68 (by decide) ?_
            exact ih_1 v3_9 v4_10 ls h (lv_sub hl [0, 1, 3, 4, 5] rfl)
          · replace h := h.2 c_47_6
            refine lv_iconst (v := (0 : Int32)) hx hb dX5_wanted_50 (by decide) ?_
            refine lv_goto (tgt := 63) hx hb dX5_wanted_51 (by decide) ?_
            refine lv_ior hx hb dX5_wanted_63 ?_
            refine lv_topi (fun v3_11 e_v3_11 => ?_)
            replace h := h v3_11 e_v3_11
            refine lv_istore_n (lv' := [(3, .int v3_11), (5, .int r37_6), (4, .int v4_2), (0, .ref (q 0)), (1, .int a_1), (2, .int a_2)]) hx hb dX5_wanted_64 rfl hl (by decide) rfl (fun ls hl => ?_)
            obtain ⟨v4_12, e_v4_12⟩ : ∃ y : Int32, y = v4_2 + (1 : Int32) := ⟨_, rfl⟩
            replace h := h v4_12 e_v4_12
            refine lv_iinc (v := v4_12) (lv' := [(4, .int v4_12), (3, .int v3_11), (5, .int r37_6), (0, .ref (q 0)), (1, .int a_1), (2, .int a_2)]) hx hb dX5_wanted_65 hl (k := 2) rfl (by rw [e_v4_12]; rfl) (by decide) rfl (fun ls hl => ?_)
            refine lv_goto (tgt := 5) hx hb dX5_wanted_68 (by decide) ?_
            exact ih_1 v3_11 v4_12 ls h (lv_sub hl [0, 1, 3, 4, 5] rfl)
        · replace h := h.2 c_25_4
          refine lv_bipush (v := (-109 : Int32)) hx hb dX5_wanted_28 (by decide) ?_
          refine lv_goto (tgt := 40) hx hb dX5_wanted_30 (by decide) ?_
          refine lv_istore (lv' := [(5, .int (-109 : Int32)), (4, .int v4_2), (3, .int v3_1), (0, .ref (q 0)), (1, .int a_1), (2, .int a_2)]) hx hb dX5_wanted_40 hl (by decide) rfl (fun ls hl => ?_)
          refine lv_iload_n hx hb dX5_wanted_42 rfl (lv_at hl 2 rfl) ?_
          refine lv_iload hx hb dX5_wanted_43 (lv_at hl 0 rfl) ?_
          refine lv_bipush (v := (-109 : Int32)) hx hb dX5_wanted_45 (by decide) ?_
          refine lv_icmp_ne (tgt := 54) hx hb dX5_wanted_47 (by decide) (fun c_47_12 => absurd c_47_12 (by decide)) (fun _ => ?_)
          refine lv_iconst (v := (0 : Int32)) hx hb dX5_wanted_50 (by decide) ?_
          refine lv_goto (tgt := 63) hx hb dX5_wanted_51 (by decide) ?_
          refine lv_ior hx hb dX5_wanted_63 ?_
          refine lv_topi (fun v3_14 e_v3_14 => ?_)
          replace h := h v3_14 e_v3_14
          refine lv_istore_n (lv' := [(3, .int v3_14), (5, .int (-109 : Int32)), (4, .int v4_2), (0, .ref (q 0)), (1, .int a_1), (2, .int a_2)]) hx hb dX5_wanted_64 rfl hl (by decide) rfl (fun ls hl => ?_)
          obtain ⟨v4_15, e_v4_15⟩ : ∃ y : Int32, y = v4_2 + (1 : Int32) := ⟨_, rfl⟩
          replace h := h v4_15 e_v4_15
          refine lv_iinc (v := v4_15) (lv' := [(4, .int v4_15), (3, .int v3_14), (5, .int (-109 : Int32)), (0, .ref (q 0)), (1, .int a_1), (2, .int a_2)]) hx hb dX5_wanted_65 hl (k := 2) rfl (by rw [e_v4_15]; rfl) (by decide) rfl (fun ls hl => ?_)
          refine lv_goto (tgt := 5) hx hb dX5_wanted_68 (by decide) ?_
          exact ih_1 v3_14 v4_15 ls h (lv_sub hl [0, 1, 3, 4, 5] rfl)
  obtain ⟨n_1, h⟩ := h
  refine loop_1 _ ?_ n_1 (0 : Int32) (0 : Int32) ls h (lv_sub hl [0, 1, 2, 3, 4] rfl)
  intro v3_1 v4_2 ls h hl
  refine lv_iload_n hx hb dX5_wanted_71 rfl (lv_at hl 1 rfl) ?_
  exact W.iret hx hb hr (fun t ht hW => ⟨v3_1, rfl, h, ht⟩) (fun _ h9 => by cases h9) dX5_wanted_72
