def PJ9_floorMod_7cf53  (a_1 : Int32) (a_2 : Int32) (k : Int32 → Prop) : Prop := (¬ a_2 = 0 ∧ (∀ v2_2 : Int32, v2_2 = (a_1 - a_1 / a_2 * a_2) → ((0 ≤ (a_1 ^^^ a_2) → (k v2_2)) ∧ (¬ 0 ≤ (a_1 ^^^ a_2) → ((v2_2 = 0 → (k v2_2)) ∧ (¬ v2_2 = 0 → (k (v2_2 + a_2))))))))
def PJ13_bitCount_95d88  (a_1 : Int64) (k : Int32 → Prop) : Prop := (∀ v0_1 : Int64, v0_1 = (a_1 - (((a_1.toUInt64 >>> ((1 : Int32).toInt64.toUInt64 &&& Int64.toUInt64 63)).toInt64) &&& (6148914691236517205 : Int64))) → (∀ v0_2 : Int64, v0_2 = ((v0_1 &&& (3689348814741910323 : Int64)) + (((v0_1.toUInt64 >>> ((2 : Int32).toInt64.toUInt64 &&& Int64.toUInt64 63)).toInt64) &&& (3689348814741910323 : Int64))) → (∀ v0_3 : Int64, v0_3 = ((v0_2 + ((v0_2.toUInt64 >>> ((4 : Int32).toInt64.toUInt64 &&& Int64.toUInt64 63)).toInt64)) &&& (1085102592571150095 : Int64)) → (∀ v0_4 : Int64, v0_4 = (v0_3 + ((v0_3.toUInt64 >>> ((8 : Int32).toInt64.toUInt64 &&& Int64.toUInt64 63)).toInt64)) → (∀ v0_5 : Int64, v0_5 = (v0_4 + ((v0_4.toUInt64 >>> ((16 : Int32).toInt64.toUInt64 &&& Int64.toUInt64 63)).toInt64)) → (∀ v0_6 : Int64, v0_6 = (v0_5 + ((v0_5.toUInt64 >>> ((32 : Int32).toInt64.toUInt64 &&& Int64.toUInt64 63)).toInt64)) → (k ((v0_6.toInt32) &&& (127 : Int32)))))))))
def PX4_within  (a_1 : Int32) (a_2 : Int32) (a_3 : Int32) (k : Int32 → Prop) : Prop := ((a_1 < a_2 → (k (0 : Int32))) ∧ (¬ a_1 < a_2 → ((a_3 < a_1 → (k (0 : Int32))) ∧ (¬ a_3 < a_1 → (k (1 : Int32))))))
def PX4_colorIn  (a_1 : Int64) (a_2 : Int32) (k : Int32 → Prop) : Prop := (k ((((a_1 >>> ((a_2 * (3 : Int32)).toInt64 &&& 63))).toInt32) &&& (7 : Int32)))
def PX4_withColor  (a_1 : Int64) (a_2 : Int32) (a_3 : Int32) (k : Int64 → Prop) : Prop := (∀ v4_1 : Int32, v4_1 = (a_2 * (3 : Int32)) → (k ((a_1 &&& ((((7 : Int64) <<< (v4_1.toInt64 &&& 63))) ^^^ (-1 : Int64))) ||| (((a_3.toInt64) <<< (v4_1.toInt64 &&& 63))))))
def PX4_notDark  (a_1 : Int64) (k : Int64 → Prop) : Prop := (k (((a_1 ||| ((a_1 >>> ((1 : Int32).toInt64 &&& 63)))) ||| ((a_1 >>> ((2 : Int32).toInt64 &&& 63)))) &&& (9817068105 : Int64)))
theorem hdJ9_floorMod_7cf53 : yJ9_floorMod_7cf53.cls = RJ9 ∧ yJ9_floorMod_7cf53.cls ≠ "java/lang/invoke/MethodHandle" ∧ yJ9_floorMod_7cf53.cls ≠ "java/lang/invoke/VarHandle" ∧ (parseMethodDescriptor yJ9_floorMod_7cf53.desc).map (fun d => d.parameters.length) = some 2 := by decide +kernel
set_option maxHeartbeats 4000000 in
set_option maxRecDepth 100000 in
theorem kJ9_floorMod_7cf53 (l : Launch) (g : GG)  (a_1 : Int32) (a_2 : Int32) (k : Int32 → Prop) (h : PJ9_floorMod_7cf53  a_1 a_2 k) : Met l yJ9_floorMod_7cf53 wsJ9_floorMod_7cf53 ({ frames := 0, cells := 0, slots := 0, locals := 0 }) (PreR g [.int a_1, .int a_2] []) (vp_Si k) 0 0 (fun _ => False) := by
  refine Met_ofWF (cc := cJ9_floorMod_7cf53) (maxL := 3) (ret := (some .int)) (by decide +kernel) rfl ?_
  intro p e s m args below meth c s₁ B hml hv
  obtain ⟨rfl, hP, hK⟩ := hv
  have hx := B.exec
  have hb := B.bytes
  have hr := B.returns
  have hts := atoms_spec (ws := wsJ9_floorMod_7cf53) B.pre
  have hown : s.vm.findClass RJ9 = some m.cls := findClass_of_methodNamed B.named
  have hlocks := B.notSynchronized
  have hl := lv_entry ([.int a_1, .int a_2]) (n := 3) (Nat.le_of_ble_eq_true rfl)
  rw [lg_entry_eq]
  generalize (lg_sl ([.int a_1, .int a_2]) ++ List.replicate (3 - (lg_sl ([.int a_1, .int a_2])).length) Slot.unset).toArray = ls at hl ⊢
  have hl : lv_has ls 3 [(0, .int a_1), (1, .int a_2)] := hl
  unfold PJ9_floorMod_7cf53 at h
  refine lv_iload_n hx hb dJ9_floorMod_7cf53_0 rfl (lv_at hl 0 rfl) ?_
  refine lv_iload_n hx hb dJ9_floorMod_7cf53_1 rfl (lv_at hl 1 rfl) ?_
  have o_2_0 := h.1
  replace h := h.2
  refine lv_irem hx hb dJ9_floorMod_7cf53_2 o_2_0 ?_
  refine lv_topi (fun v2_2 e_v2_2 => ?_)
  replace h := h v2_2 e_v2_2
  refine lv_istore_n (lv' := [(2, .int v2_2), (0, .int a_1), (1, .int a_2)]) hx hb dJ9_floorMod_7cf53_3 rfl hl (by decide) rfl (fun ls hl => ?_)
  refine lv_iload_n hx hb dJ9_floorMod_7cf53_4 rfl (lv_at hl 1 rfl) ?_
  refine lv_iload_n hx hb dJ9_floorMod_7cf53_5 rfl (lv_at hl 2 rfl) ?_
  refine lv_ixor hx hb dJ9_floorMod_7cf53_6 ?_
  refine lv_if_ge (tgt := 18) hx hb dJ9_floorMod_7cf53_7 (by decide) (fun c_7_2 => ?_) (fun c_7_2 => ?_)
  · replace h := h.1 c_7_2
    refine lv_iload_n hx hb dJ9_floorMod_7cf53_18 rfl (lv_at hl 0 rfl) ?_
    exact W.iret hx hb hr (fun t ht hW => ⟨v2_2, rfl, h, ht⟩) (fun _ h9 => by cases h9) dJ9_floorMod_7cf53_19
  · replace h := h.2 c_7_2
    refine lv_iload_n hx hb dJ9_floorMod_7cf53_10 rfl (lv_at hl 0 rfl) ?_
    refine lv_if_eq (tgt := 18) hx hb dJ9_floorMod_7cf53_11 (by decide) (fun c_11_3 => ?_) (fun c_11_3 => ?_)
    · replace h := h.1 c_11_3
      refine lv_iload_n hx hb dJ9_floorMod_7cf53_18 rfl (lv_at hl 0 rfl) ?_
      exact W.iret hx hb hr (fun t ht hW => ⟨v2_2, rfl, h, ht⟩) (fun _ h9 => by cases h9) dJ9_floorMod_7cf53_19
    · replace h := h.2 c_11_3
      refine lv_iload_n hx hb dJ9_floorMod_7cf53_14 rfl (lv_at hl 0 rfl) ?_
      refine lv_iload_n hx hb dJ9_floorMod_7cf53_15 rfl (lv_at hl 2 rfl) ?_
      refine lv_iadd hx hb dJ9_floorMod_7cf53_16 ?_
      exact W.iret hx hb hr (fun t ht hW => ⟨(v2_2 + a_2), rfl, h, ht⟩) (fun _ h9 => by cases h9) dJ9_floorMod_7cf53_17
theorem hdJ13_bitCount_95d88 : yJ13_bitCount_95d88.cls = RJ13 ∧ yJ13_bitCount_95d88.cls ≠ "java/lang/invoke/MethodHandle" ∧ yJ13_bitCount_95d88.cls ≠ "java/lang/invoke/VarHandle" ∧ (parseMethodDescriptor yJ13_bitCount_95d88.desc).map (fun d => d.parameters.length) = some 1 := by decide +kernel
set_option maxHeartbeats 4000000 in
set_option maxRecDepth 100000 in
theorem kJ13_bitCount_95d88 (l : Launch) (g : GG)  (a_1 : Int64) (k : Int32 → Prop) (h : PJ13_bitCount_95d88  a_1 k) : Met l yJ13_bitCount_95d88 wsJ13_bitCount_95d88 ({ frames := 0, cells := 0, slots := 0, locals := 0 }) (PreR g [.long a_1] []) (vp_Si k) 0 0 (fun _ => False) := by
  refine Met_ofWF (cc := cJ13_bitCount_95d88) (maxL := 2) (ret := (some .int)) (by decide +kernel) rfl ?_
  intro p e s m args below meth c s₁ B hml hv
  obtain ⟨rfl, hP, hK⟩ := hv
  have hx := B.exec
  have hb := B.bytes
  have hr := B.returns
  have hts := atoms_spec (ws := wsJ13_bitCount_95d88) B.pre
  have hown : s.vm.findClass RJ13 = some m.cls := findClass_of_methodNamed B.named
  have hlocks := B.notSynchronized
  have hl := lv_entry ([.long a_1]) (n := 2) (Nat.le_of_ble_eq_true rfl)
  rw [lg_entry_eq]
  generalize (lg_sl ([.long a_1]) ++ List.replicate (2 - (lg_sl ([.long a_1])).length) Slot.unset).toArray = ls at hl ⊢
  have hl : lv_has ls 2 [(0, .long a_1)] := hl
  unfold PJ13_bitCount_95d88 at h
  refine lv_lload_n hx hb dJ13_bitCount_95d88_0 rfl (lv_at hl 0 rfl) ?_
  refine lv_lload_n hx hb dJ13_bitCount_95d88_1 rfl (lv_at hl 0 rfl) ?_
  refine lv_iconst (v := (1 : Int32)) hx hb dJ13_bitCount_95d88_2 (by decide) ?_
  refine lv_lushr (v := ((a_1.toUInt64 >>> ((1 : Int32).toInt64.toUInt64 &&& Int64.toUInt64 63)).toInt64)) hx hb dJ13_bitCount_95d88_3 rfl ?_
  refine lv_ldc2 (v := (6148914691236517205 : Int64)) hx hb hown (hts (.constantLong RJ13 314 (6148914691236517205)) (by decide +kernel)) dJ13_bitCount_95d88_4 ?_
  refine lv_land hx hb dJ13_bitCount_95d88_7 ?_
  refine lv_lsub hx hb dJ13_bitCount_95d88_8 ?_
  refine lv_topl (fun v0_1 e_v0_1 => ?_)
  replace h := h v0_1 e_v0_1
  refine lv_lstore_n (lv' := [(0, .long v0_1)]) hx hb dJ13_bitCount_95d88_9 rfl hl (by decide) rfl (fun ls hl => ?_)
  refine lv_lload_n hx hb dJ13_bitCount_95d88_10 rfl (lv_at hl 0 rfl) ?_
  refine lv_ldc2 (v := (3689348814741910323 : Int64)) hx hb hown (hts (.constantLong RJ13 316 (3689348814741910323)) (by decide +kernel)) dJ13_bitCount_95d88_11 ?_
  refine lv_land hx hb dJ13_bitCount_95d88_14 ?_
  refine lv_lload_n hx hb dJ13_bitCount_95d88_15 rfl (lv_at hl 0 rfl) ?_
  refine lv_iconst (v := (2 : Int32)) hx hb dJ13_bitCount_95d88_16 (by decide) ?_
  refine lv_lushr (v := ((v0_1.toUInt64 >>> ((2 : Int32).toInt64.toUInt64 &&& Int64.toUInt64 63)).toInt64)) hx hb dJ13_bitCount_95d88_17 rfl ?_
  refine lv_ldc2 (v := (3689348814741910323 : Int64)) hx hb hown (hts (.constantLong RJ13 316 (3689348814741910323)) (by decide +kernel)) dJ13_bitCount_95d88_18 ?_
  refine lv_land hx hb dJ13_bitCount_95d88_21 ?_
  refine lv_ladd hx hb dJ13_bitCount_95d88_22 ?_
  refine lv_topl (fun v0_2 e_v0_2 => ?_)
  replace h := h v0_2 e_v0_2
  refine lv_lstore_n (lv' := [(0, .long v0_2)]) hx hb dJ13_bitCount_95d88_23 rfl hl (by decide) rfl (fun ls hl => ?_)
  refine lv_lload_n hx hb dJ13_bitCount_95d88_24 rfl (lv_at hl 0 rfl) ?_
  refine lv_lload_n hx hb dJ13_bitCount_95d88_25 rfl (lv_at hl 0 rfl) ?_
  refine lv_iconst (v := (4 : Int32)) hx hb dJ13_bitCount_95d88_26 (by decide) ?_
  refine lv_lushr (v := ((v0_2.toUInt64 >>> ((4 : Int32).toInt64.toUInt64 &&& Int64.toUInt64 63)).toInt64)) hx hb dJ13_bitCount_95d88_27 rfl ?_
  refine lv_ladd hx hb dJ13_bitCount_95d88_28 ?_
  refine lv_ldc2 (v := (1085102592571150095 : Int64)) hx hb hown (hts (.constantLong RJ13 318 (1085102592571150095)) (by decide +kernel)) dJ13_bitCount_95d88_29 ?_
  refine lv_land hx hb dJ13_bitCount_95d88_32 ?_
  refine lv_topl (fun v0_3 e_v0_3 => ?_)
  replace h := h v0_3 e_v0_3
  refine lv_lstore_n (lv' := [(0, .long v0_3)]) hx hb dJ13_bitCount_95d88_33 rfl hl (by decide) rfl (fun ls hl => ?_)
  refine lv_lload_n hx hb dJ13_bitCount_95d88_34 rfl (lv_at hl 0 rfl) ?_
  refine lv_lload_n hx hb dJ13_bitCount_95d88_35 rfl (lv_at hl 0 rfl) ?_
  refine lv_bipush (v := (8 : Int32)) hx hb dJ13_bitCount_95d88_36 (by decide) ?_
  refine lv_lushr (v := ((v0_3.toUInt64 >>> ((8 : Int32).toInt64.toUInt64 &&& Int64.toUInt64 63)).toInt64)) hx hb dJ13_bitCount_95d88_38 rfl ?_
  refine lv_ladd hx hb dJ13_bitCount_95d88_39 ?_
  refine lv_topl (fun v0_4 e_v0_4 => ?_)
  replace h := h v0_4 e_v0_4
  refine lv_lstore_n (lv' := [(0, .long v0_4)]) hx hb dJ13_bitCount_95d88_40 rfl hl (by decide) rfl (fun ls hl => ?_)
  refine lv_lload_n hx hb dJ13_bitCount_95d88_41 rfl (lv_at hl 0 rfl) ?_
  refine lv_lload_n hx hb dJ13_bitCount_95d88_42 rfl (lv_at hl 0 rfl) ?_
  refine lv_bipush (v := (16 : Int32)) hx hb dJ13_bitCount_95d88_43 (by decide) ?_
  refine lv_lushr (v := ((v0_4.toUInt64 >>> ((16 : Int32).toInt64.toUInt64 &&& Int64.toUInt64 63)).toInt64)) hx hb dJ13_bitCount_95d88_45 rfl ?_
  refine lv_ladd hx hb dJ13_bitCount_95d88_46 ?_
  refine lv_topl (fun v0_5 e_v0_5 => ?_)
  replace h := h v0_5 e_v0_5
  refine lv_lstore_n (lv' := [(0, .long v0_5)]) hx hb dJ13_bitCount_95d88_47 rfl hl (by decide) rfl (fun ls hl => ?_)
  refine lv_lload_n hx hb dJ13_bitCount_95d88_48 rfl (lv_at hl 0 rfl) ?_
  refine lv_lload_n hx hb dJ13_bitCount_95d88_49 rfl (lv_at hl 0 rfl) ?_
  refine lv_bipush (v := (32 : Int32)) hx hb dJ13_bitCount_95d88_50 (by decide) ?_
  refine lv_lushr (v := ((v0_5.toUInt64 >>> ((32 : Int32).toInt64.toUInt64 &&& Int64.toUInt64 63)).toInt64)) hx hb dJ13_bitCount_95d88_52 rfl ?_
  refine lv_ladd hx hb dJ13_bitCount_95d88_53 ?_
  refine lv_topl (fun v0_6 e_v0_6 => ?_)
  replace h := h v0_6 e_v0_6
  refine lv_lstore_n (lv' := [(0, .long v0_6)]) hx hb dJ13_bitCount_95d88_54 rfl hl (by decide) rfl (fun ls hl => ?_)
  refine lv_lload_n hx hb dJ13_bitCount_95d88_55 rfl (lv_at hl 0 rfl) ?_
  refine lv_l2i (v := (v0_6.toInt32)) hx hb dJ13_bitCount_95d88_56 rfl ?_
  refine lv_bipush (v := (127 : Int32)) hx hb dJ13_bitCount_95d88_57 (by decide) ?_
  refine lv_iand hx hb dJ13_bitCount_95d88_59 ?_
  exact W.iret hx hb hr (fun t ht hW => ⟨((v0_6.toInt32) &&& (127 : Int32)), rfl, h, ht⟩) (fun _ h9 => by cases h9) dJ13_bitCount_95d88_60
theorem hdX4_within : yX4_within.cls = RX4 ∧ yX4_within.cls ≠ "java/lang/invoke/MethodHandle" ∧ yX4_within.cls ≠ "java/lang/invoke/VarHandle" ∧ (parseMethodDescriptor yX4_within.desc).map (fun d => d.parameters.length) = some 3 := by decide +kernel
set_option maxHeartbeats 4000000 in
set_option maxRecDepth 100000 in
theorem kX4_within (l : Launch) (g : GG)  (a_1 : Int32) (a_2 : Int32) (a_3 : Int32) (k : Int32 → Prop) (h : PX4_within  a_1 a_2 a_3 k) : Met l yX4_within wsX4_within ({ frames := 0, cells := 0, slots := 0, locals := 0 }) (PreR g [.int a_1, .int a_2, .int a_3] []) (vp_Si k) 0 0 (fun _ => False) := by
  refine Met.ofW (cc := cX4_within) (maxL := 3) (ret := (some .boolean)) (by decide) rfl ?_
  intro p e s m args below meth c s₁ B hml hv
  obtain ⟨rfl, hP, hK⟩ := hv
  have hx := B.exec
  have hb := B.bytes
  have hr := B.returns
  have hts := atoms_spec (ws := wsX4_within) B.pre
  have hown : s.vm.findClass RX4 = some m.cls := findClass_of_methodNamed B.named
  have hlocks := B.notSynchronized
  have hl := lv_entry ([.int a_1, .int a_2, .int a_3]) (n := 3) (Nat.le_of_ble_eq_true rfl)
  rw [lg_entry_eq]
  generalize (lg_sl ([.int a_1, .int a_2, .int a_3]) ++ List.replicate (3 - (lg_sl ([.int a_1, .int a_2, .int a_3])).length) Slot.unset).toArray = ls at hl ⊢
  have hl : lv_has ls 3 [(0, .int a_1), (1, .int a_2), (2, .int a_3)] := hl
  unfold PX4_within at h
  refine lv_iload_n hx hb dX4_within_0 rfl (lv_at hl 0 rfl) ?_
  refine lv_iload_n hx hb dX4_within_1 rfl (lv_at hl 1 rfl) ?_
  refine lv_icmp_lt (tgt := 14) hx hb dX4_within_2 (by decide) (fun c_2_0 => ?_) (fun c_2_0 => ?_)
  · replace h := h.1 c_2_0
    refine lv_iconst (v := (0 : Int32)) hx hb dX4_within_14 (by decide) ?_
    exact W.zret (v := (0 : Int32)) hx hb hr rfl (fun t ht hW => ⟨(0 : Int32), rfl, h, ht⟩) (fun _ h9 => by cases h9) dX4_within_15
  · replace h := h.2 c_2_0
    refine lv_iload_n hx hb dX4_within_5 rfl (lv_at hl 0 rfl) ?_
    refine lv_iload_n hx hb dX4_within_6 rfl (lv_at hl 2 rfl) ?_
    refine lv_icmp_gt (tgt := 14) hx hb dX4_within_7 (by decide) (fun c_7_1 => ?_) (fun c_7_1 => ?_)
    · replace h := h.1 c_7_1
      refine lv_iconst (v := (0 : Int32)) hx hb dX4_within_14 (by decide) ?_
      exact W.zret (v := (0 : Int32)) hx hb hr rfl (fun t ht hW => ⟨(0 : Int32), rfl, h, ht⟩) (fun _ h9 => by cases h9) dX4_within_15
    · replace h := h.2 c_7_1
      refine lv_iconst (v := (1 : Int32)) hx hb dX4_within_10 (by decide) ?_
      refine lv_goto (tgt := 15) hx hb dX4_within_11 (by decide) ?_
      exact W.zret (v := (1 : Int32)) hx hb hr rfl (fun t ht hW => ⟨(1 : Int32), rfl, h, ht⟩) (fun _ h9 => by cases h9) dX4_within_15
theorem hdX4_colorIn : yX4_colorIn.cls = RX4 ∧ yX4_colorIn.cls ≠ "java/lang/invoke/MethodHandle" ∧ yX4_colorIn.cls ≠ "java/lang/invoke/VarHandle" ∧ (parseMethodDescriptor yX4_colorIn.desc).map (fun d => d.parameters.length) = some 2 := by decide +kernel
set_option maxHeartbeats 4000000 in
set_option maxRecDepth 100000 in
theorem kX4_colorIn (l : Launch) (g : GG)  (a_1 : Int64) (a_2 : Int32) (k : Int32 → Prop) (h : PX4_colorIn  a_1 a_2 k) : Met l yX4_colorIn wsX4_colorIn ({ frames := 0, cells := 0, slots := 0, locals := 0 }) (PreR g [.long a_1, .int a_2] []) (vp_Si k) 0 0 (fun _ => False) := by
  refine Met.ofW (cc := cX4_colorIn) (maxL := 3) (ret := (some .int)) (by decide) rfl ?_
  intro p e s m args below meth c s₁ B hml hv
  obtain ⟨rfl, hP, hK⟩ := hv
  have hx := B.exec
  have hb := B.bytes
  have hr := B.returns
  have hts := atoms_spec (ws := wsX4_colorIn) B.pre
  have hown : s.vm.findClass RX4 = some m.cls := findClass_of_methodNamed B.named
  have hlocks := B.notSynchronized
  have hl := lv_entry ([.long a_1, .int a_2]) (n := 3) (Nat.le_of_ble_eq_true rfl)
  rw [lg_entry_eq]
  generalize (lg_sl ([.long a_1, .int a_2]) ++ List.replicate (3 - (lg_sl ([.long a_1, .int a_2])).length) Slot.unset).toArray = ls at hl ⊢
  have hl : lv_has ls 3 [(0, .long a_1), (2, .int a_2)] := hl
  unfold PX4_colorIn at h
  refine lv_lload_n hx hb dX4_colorIn_0 rfl (lv_at hl 0 rfl) ?_
  refine lv_iload_n hx hb dX4_colorIn_1 rfl (lv_at hl 1 rfl) ?_
  refine lv_iconst (v := (3 : Int32)) hx hb dX4_colorIn_2 (by decide) ?_
  refine lv_imul hx hb dX4_colorIn_3 ?_
  refine lv_lshr (v := ((a_1 >>> ((a_2 * (3 : Int32)).toInt64 &&& 63)))) hx hb dX4_colorIn_4 rfl ?_
  refine lv_l2i (v := (((a_1 >>> ((a_2 * (3 : Int32)).toInt64 &&& 63))).toInt32)) hx hb dX4_colorIn_5 rfl ?_
  refine lv_bipush (v := (7 : Int32)) hx hb dX4_colorIn_6 (by decide) ?_
  refine lv_iand hx hb dX4_colorIn_8 ?_
  exact W.iret hx hb hr (fun t ht hW => ⟨((((a_1 >>> ((a_2 * (3 : Int32)).toInt64 &&& 63))).toInt32) &&& (7 : Int32)), rfl, h, ht⟩) (fun _ h9 => by cases h9) dX4_colorIn_9
theorem hdX4_withColor : yX4_withColor.cls = RX4 ∧ yX4_withColor.cls ≠ "java/lang/invoke/MethodHandle" ∧ yX4_withColor.cls ≠ "java/lang/invoke/VarHandle" ∧ (parseMethodDescriptor yX4_withColor.desc).map (fun d => d.parameters.length) = some 3 := by decide +kernel
set_option maxHeartbeats 4000000 in
set_option maxRecDepth 100000 in
theorem kX4_withColor (l : Launch) (g : GG)  (a_1 : Int64) (a_2 : Int32) (a_3 : Int32) (k : Int64 → Prop) (h : PX4_withColor  a_1 a_2 a_3 k) : Met l yX4_withColor wsX4_withColor ({ frames := 0, cells := 0, slots := 0, locals := 0 }) (PreR g [.long a_1, .int a_2, .int a_3] []) (vp_Sl k) 0 0 (fun _ => False) := by
  refine Met.ofW (cc := cX4_withColor) (maxL := 5) (ret := (some .long)) (by decide) rfl ?_
  intro p e s m args below meth c s₁ B hml hv
  obtain ⟨rfl, hP, hK⟩ := hv
  have hx := B.exec
  have hb := B.bytes
  have hr := B.returns
  have hts := atoms_spec (ws := wsX4_withColor) B.pre
  have hown : s.vm.findClass RX4 = some m.cls := findClass_of_methodNamed B.named
  have hlocks := B.notSynchronized
  have hl := lv_entry ([.long a_1, .int a_2, .int a_3]) (n := 5) (Nat.le_of_ble_eq_true rfl)
  rw [lg_entry_eq]
  generalize (lg_sl ([.long a_1, .int a_2, .int a_3]) ++ List.replicate (5 - (lg_sl ([.long a_1, .int a_2, .int a_3])).length) Slot.unset).toArray = ls at hl ⊢
  have hl : lv_has ls 5 [(0, .long a_1), (2, .int a_2), (3, .int a_3)] := hl
  unfold PX4_withColor at h
  refine lv_iload_n hx hb dX4_withColor_0 rfl (lv_at hl 1 rfl) ?_
  refine lv_iconst (v := (3 : Int32)) hx hb dX4_withColor_1 (by decide) ?_
  refine lv_imul hx hb dX4_withColor_2 ?_
  refine lv_topi (fun v4_1 e_v4_1 => ?_)
  replace h := h v4_1 e_v4_1
  refine lv_istore (lv' := [(4, .int v4_1), (0, .long a_1), (2, .int a_2), (3, .int a_3)]) hx hb dX4_withColor_3 hl (by decide) rfl (fun ls hl => ?_)
  refine lv_lload_n hx hb dX4_withColor_5 rfl (lv_at hl 1 rfl) ?_
  refine lv_ldc2 (v := (7 : Int64)) hx hb hown (hts (.constantLong RX4 235 (7)) (by decide +kernel)) dX4_withColor_6 ?_
  refine lv_iload hx hb dX4_withColor_9 (lv_at hl 0 rfl) ?_
  refine lv_lshl (v := (((7 : Int64) <<< (v4_1.toInt64 &&& 63)))) hx hb dX4_withColor_11 rfl ?_
  refine lv_ldc2 (v := (-1 : Int64)) hx hb hown (hts (.constantLong RX4 119 (-1)) (by decide +kernel)) dX4_withColor_12 ?_
  refine lv_lxor hx hb dX4_withColor_15 ?_
  refine lv_land hx hb dX4_withColor_16 ?_
  refine lv_iload_n hx hb dX4_withColor_17 rfl (lv_at hl 3 rfl) ?_
  refine lv_i2l (v := (a_3.toInt64)) hx hb dX4_withColor_18 rfl ?_
  refine lv_iload hx hb dX4_withColor_19 (lv_at hl 0 rfl) ?_
  refine lv_lshl (v := (((a_3.toInt64) <<< (v4_1.toInt64 &&& 63)))) hx hb dX4_withColor_21 rfl ?_
  refine lv_lor hx hb dX4_withColor_22 ?_
  exact W.lret hx hb hr (fun t ht hW => ⟨((a_1 &&& ((((7 : Int64) <<< (v4_1.toInt64 &&& 63))) ^^^ (-1 : Int64))) ||| (((a_3.toInt64) <<< (v4_1.toInt64 &&& 63)))), rfl, h, ht⟩) (fun _ h9 => by cases h9) dX4_withColor_23
theorem hdX4_notDark : yX4_notDark.cls = RX4 ∧ yX4_notDark.cls ≠ "java/lang/invoke/MethodHandle" ∧ yX4_notDark.cls ≠ "java/lang/invoke/VarHandle" ∧ (parseMethodDescriptor yX4_notDark.desc).map (fun d => d.parameters.length) = some 1 := by decide +kernel
set_option maxHeartbeats 4000000 in
set_option maxRecDepth 100000 in
theorem kX4_notDark (l : Launch) (g : GG)  (a_1 : Int64) (k : Int64 → Prop) (h : PX4_notDark  a_1 k) : Met l yX4_notDark wsX4_notDark ({ frames := 0, cells := 0, slots := 0, locals := 0 }) (PreR g [.long a_1] []) (vp_Sl k) 0 0 (fun _ => False) := by
  refine Met.ofW (cc := cX4_notDark) (maxL := 2) (ret := (some .long)) (by decide) rfl ?_
  intro p e s m args below meth c s₁ B hml hv
  obtain ⟨rfl, hP, hK⟩ := hv
  have hx := B.exec
  have hb := B.bytes
  have hr := B.returns
  have hts := atoms_spec (ws := wsX4_notDark) B.pre
  have hown : s.vm.findClass RX4 = some m.cls := findClass_of_methodNamed B.named
  have hlocks := B.notSynchronized
  have hl := lv_entry ([.long a_1]) (n := 2) (Nat.le_of_ble_eq_true rfl)
  rw [lg_entry_eq]
  generalize (lg_sl ([.long a_1]) ++ List.replicate (2 - (lg_sl ([.long a_1])).length) Slot.unset).toArray = ls at hl ⊢
  have hl : lv_has ls 2 [(0, .long a_1)] := hl
  unfold PX4_notDark at h
  refine lv_lload_n hx hb dX4_notDark_0 rfl (lv_at hl 0 rfl) ?_
  refine lv_lload_n hx hb dX4_notDark_1 rfl (lv_at hl 0 rfl) ?_
  refine lv_iconst (v := (1 : Int32)) hx hb dX4_notDark_2 (by decide) ?_
  refine lv_lshr (v := ((a_1 >>> ((1 : Int32).toInt64 &&& 63)))) hx hb dX4_notDark_3 rfl ?_
  refine lv_lor hx hb dX4_notDark_4 ?_
  refine lv_lload_n hx hb dX4_notDark_5 rfl (lv_at hl 0 rfl) ?_
  refine lv_iconst (v := (2 : Int32)) hx hb dX4_notDark_6 (by decide) ?_
  refine lv_lshr (v := ((a_1 >>> ((2 : Int32).toInt64 &&& 63)))) hx hb dX4_notDark_7 rfl ?_
  refine lv_lor hx hb dX4_notDark_8 ?_
  refine lv_ldc2 (v := (9817068105 : Int64)) hx hb hown (hts (.constantLong RX4 223 (9817068105)) (by decide +kernel)) dX4_notDark_9 ?_
  refine lv_land hx hb dX4_notDark_12 ?_
  exact W.lret hx hb hr (fun t ht hW => ⟨(((a_1 ||| ((a_1 >>> ((1 : Int32).toInt64 &&& 63)))) ||| ((a_1 >>> ((2 : Int32).toInt64 &&& 63)))) &&& (9817068105 : Int64)), rfl, h, ht⟩) (fun _ h9 => by cases h9) dX4_notDark_13
