def PX5_here (b_text : Nat → Int32) (b_textLength : Int32) (b_at : Int32)  (k : Int32 → Prop) : Prop := ((b_textLength ≤ b_at → (k (0 : Int32))) ∧ (¬ b_textLength ≤ b_at → (vp_in b_at 160 ∧ (k (b_text (Int32.toNatClampNeg b_at))))))
def PX5_isColor (b_text : Nat → Int32) (b_textLength : Int32) (b_at : Int32)  (k : Int32 → Prop) : Prop := PX5_here b_text b_textLength b_at (fun r1_1 => PX5_in r1_1 (48 : Int32) (55 : Int32) (fun r8_2 => ((r8_2 = 0 ∨ r8_2 = 1) ∧ k r8_2)))
def PX5_isBroken (b_m : Nat → Int32) (a_1 : Int32) (a_2 : Int32) (k : Int32 → Prop) : Prop := (vp_in ((9 : Int32) + a_1) 348 ∧ ((¬ (((b_m (Int32.toNatClampNeg ((9 : Int32) + a_1))) >>> (a_2 &&& 31)) &&& (1 : Int32)) = (1 : Int32) → (k (0 : Int32))) ∧ ((((b_m (Int32.toNatClampNeg ((9 : Int32) + a_1))) >>> (a_2 &&& 31)) &&& (1 : Int32)) = (1 : Int32) → (k (1 : Int32)))))
def PX5_isSetting  (a_1 : Int32) (a_2 : Int32) (k : Int32 → Prop) : Prop := (((a_1.toInt < 0 ∨ 3 < a_1.toInt) → (k (0 : Int32))) ∧ (a_1 = (0 : Int32) → PX5_in a_2 (-60 : Int32) (60 : Int32) (fun r37_2 => ((r37_2 = 0 ∨ r37_2 = 1) ∧ k r37_2))) ∧ (a_1 = (1 : Int32) → PX5_in a_2 (1 : Int32) (20 : Int32) (fun r45_3 => ((r45_3 = 0 ∨ r45_3 = 1) ∧ k r45_3))) ∧ (a_1 = (2 : Int32) → PX5_in a_2 (1 : Int32) (9999 : Int32) (fun r54_4 => ((r54_4 = 0 ∨ r54_4 = 1) ∧ k r54_4))) ∧ (a_1 = (3 : Int32) → PX5_in a_2 (1 : Int32) (99 : Int32) (fun r62_5 => ((r62_5 = 0 ∨ r62_5 = 1) ∧ k r62_5))))
def PX5_ago (b_m : Nat → Int32) (b_written : Nat → Int32) (a_1 : Int32) (k : Int32 → Prop) : Prop := (vp_in a_1 8640 ∧ ((¬ (b_written (Int32.toNatClampNeg a_1)) = 0 → (vp_in a_1 8640 ∧ (k ((b_m 6) - ((b_written (Int32.toNatClampNeg a_1)) / (8 : Int32)))))) ∧ ((b_written (Int32.toNatClampNeg a_1)) = 0 → (k (-109 : Int32)))))
def PX5_lit (b_m : Nat → Int32) (b_written : Nat → Int32) (a_1 : Int32) (k : Int32 → Prop) : Prop := (vp_in a_1 8640 ∧ (((b_written (Int32.toNatClampNeg a_1)) = 0 → (k (0 : Int32))) ∧ (¬ (b_written (Int32.toNatClampNeg a_1)) = 0 → PX5_ago b_m b_written a_1 (fun r11_3 => (((b_m 3) ≤ r11_3 → (k (0 : Int32))) ∧ (¬ (b_m 3) ≤ r11_3 → (vp_in a_1 8640 ∧ (k ((b_written (Int32.toNatClampNeg a_1)) &&& (7 : Int32))))))))))
def PX5_litPlaces_L1 (b_m : Nat → Int32) (b_written : Nat → Int32) (b_wants : Nat → Int32) (a_1 : Int32) (kx_1 : Int32 → Int32 → Prop) : Nat → Int32 → Int32 → Prop
  | 0, _, _ => False
  | n_1 + 1, v2_1, v3_2 => (((8640 : Int32) ≤ v3_2 → kx_1 v2_1 v3_2) ∧ (¬ (8640 : Int32) ≤ v3_2 → ((a_1 = 0 → PX5_lit b_m b_written v3_2 (fun r35_5 => ((r35_5 = 0 → (∀ v2_7 : Int32, v2_7 = (v2_1 + (0 : Int32)) → (∀ v3_8 : Int32, v3_8 = v3_2 + (1 : Int32) → PX5_litPlaces_L1 b_m b_written b_wants a_1 kx_1 n_1 v2_7 v3_8))) ∧ (¬ r35_5 = 0 → (∀ v2_9 : Int32, v2_9 = (v2_1 + (1 : Int32)) → (∀ v3_10 : Int32, v3_10 = v3_2 + (1 : Int32) → PX5_litPlaces_L1 b_m b_written b_wants a_1 kx_1 n_1 v2_9 v3_10)))))) ∧ (¬ a_1 = 0 → PX5_lit b_m b_written v3_2 (fun r18_11 => (vp_in v3_2 8640 ∧ ((¬ r18_11 = (b_wants (Int32.toNatClampNeg v3_2)) → (∀ v2_14 : Int32, v2_14 = (v2_1 + (0 : Int32)) → (∀ v3_15 : Int32, v3_15 = v3_2 + (1 : Int32) → PX5_litPlaces_L1 b_m b_written b_wants a_1 kx_1 n_1 v2_14 v3_15))) ∧ (r18_11 = (b_wants (Int32.toNatClampNeg v3_2)) → (∀ v2_16 : Int32, v2_16 = (v2_1 + (1 : Int32)) → (∀ v3_17 : Int32, v3_17 = v3_2 + (1 : Int32) → PX5_litPlaces_L1 b_m b_written b_wants a_1 kx_1 n_1 v2_16 v3_17))))))))))
def PX5_litPlaces (b_m : Nat → Int32) (b_written : Nat → Int32) (b_wants : Nat → Int32) (a_1 : Int32) (k : Int32 → Prop) : Prop := (∃ n_1, PX5_litPlaces_L1 b_m b_written b_wants a_1 (fun v2_1 v3_2 => (k v2_1)) n_1 (0 : Int32) (0 : Int32))
def PX5_setting (b_m : Nat → Int32) (a_1 : Int32) (k : Int32 → Prop) : Prop := PX5_in a_1 (0 : Int32) (3 : Int32) (fun r3_1 => ((r3_1 = 0 → (k (-101 : Int32))) ∧ (¬ r3_1 = 0 → (vp_in a_1 348 ∧ (k (b_m (Int32.toNatClampNeg a_1)))))))
def PX5_bright_L1 (b_m : Nat → Int32) (a_1 : Int32) (kx_1 : Int32 → Int32 → Prop) : Nat → Int32 → Int32 → Prop
  | 0, _, _ => False
  | n_1 + 1, v2_1, v3_2 => PX5_of b_m a_1 (0 : Int32) (fun r10_3 => ((((12 : Int32) * r10_3) ≤ v3_2 → kx_1 v2_1 v3_2) ∧ (¬ ((12 : Int32) * r10_3) ≤ v3_2 → PX5_colorOf b_m a_1 (v3_2 / (12 : Int32)) (v3_2 - v3_2 / (12 : Int32) * (12 : Int32)) (fun r28_5 => ((¬ r28_5 = 0 → (∀ v2_7 : Int32, v2_7 = (v2_1 + (1 : Int32)) → (∀ v3_8 : Int32, v3_8 = v3_2 + (1 : Int32) → PX5_bright_L1 b_m a_1 kx_1 n_1 v2_7 v3_8))) ∧ (r28_5 = 0 → (∀ v2_9 : Int32, v2_9 = (v2_1 + (0 : Int32)) → (∀ v3_10 : Int32, v3_10 = v3_2 + (1 : Int32) → PX5_bright_L1 b_m a_1 kx_1 n_1 v2_9 v3_10))))))))
def PX5_bright (b_m : Nat → Int32) (a_1 : Int32) (k : Int32 → Prop) : Prop := (∃ n_1, PX5_bright_L1 b_m a_1 (fun v2_1 v3_2 => (k v2_1)) n_1 (0 : Int32) (0 : Int32))
def PX5_picture (b_m : Nat → Int32) (a_1 : Int32) (a_2 : Int32) (k : Int32 → Prop) : Prop := PX5_isPicture b_m a_1 (fun r2_1 => ((r2_1 = 0 → (k (-101 : Int32))) ∧ (¬ r2_1 = 0 → PX5_in a_2 (0 : Int32) (5 : Int32) (fun r11_3 => ((¬ r11_3 = 0 → (((4 : Int32) ≤ a_2 → ((¬ a_2 = (4 : Int32) → PX5_covered b_m a_1 (fun r49_7 => (k r49_7))) ∧ (a_2 = (4 : Int32) → PX5_bright b_m a_1 (fun r41_8 => (k r41_8))))) ∧ (¬ (4 : Int32) ≤ a_2 → PX5_of b_m a_1 a_2 (fun r28_9 => (k r28_9))))) ∧ (r11_3 = 0 → (k (-101 : Int32))))))))
def PX5_color (b_m : Nat → Int32) (a_1 : Int32) (a_2 : Int32) (a_3 : Int32) (k : Int32 → Prop) : Prop := PX5_isPicture b_m a_1 (fun r2_1 => ((r2_1 = 0 → (k (-101 : Int32))) ∧ (¬ r2_1 = 0 → PX5_in a_2 (0 : Int32) (39 : Int32) (fun r12_3 => ((r12_3 = 0 → (k (-101 : Int32))) ∧ (¬ r12_3 = 0 → PX5_isLight a_3 (fun r19_5 => ((¬ r19_5 = 0 → PX5_of b_m a_1 (0 : Int32) (fun r32_7 => ((r32_7 ≤ a_2 → (k (-109 : Int32))) ∧ (¬ r32_7 ≤ a_2 → PX5_colorOf b_m a_1 a_2 a_3 (fun r42_9 => (k r42_9)))))) ∧ (r19_5 = 0 → (k (-101 : Int32)))))))))))
def PX5_broken (b_m : Nat → Int32) (a_1 : Int32) (a_2 : Int32) (k : Int32 → Prop) : Prop := PX5_in a_1 (0 : Int32) (1 : Int32) (fun r3_1 => ((r3_1 = 0 → (k (-101 : Int32))) ∧ (¬ r3_1 = 0 → PX5_isLight a_2 (fun r10_3 => ((¬ r10_3 = 0 → PX5_isBroken b_m a_1 a_2 (fun r22_5 => ((r22_5 = 0 → (k (0 : Int32))) ∧ (¬ r22_5 = 0 → (k (1 : Int32)))))) ∧ (r10_3 = 0 → (k (-101 : Int32))))))))
def PX5_place (b_m : Nat → Int32) (b_written : Nat → Int32) (a_1 : Int32) (a_2 : Int32) (a_3 : Int32) (k : Int32 → Prop) : Prop := PX5_in a_1 (0 : Int32) (719 : Int32) (fun r5_1 => ((r5_1 = 0 → (k (-101 : Int32))) ∧ (¬ r5_1 = 0 → PX5_isLight a_2 (fun r12_3 => ((r12_3 = 0 → (k (-101 : Int32))) ∧ (¬ r12_3 = 0 → PX5_in a_3 (0 : Int32) (2 : Int32) (fun r21_5 => ((¬ r21_5 = 0 → (∀ v4_7 : Int32, v4_7 = (((12 : Int32) * a_1) + a_2) → ((¬ a_3 = 0 → ((¬ a_3 = (1 : Int32) → PX5_ago b_m b_written v4_7 (fun r68_10 => (k r68_10))) ∧ (a_3 = (1 : Int32) → PX5_lit b_m b_written v4_7 (fun r59_11 => (k r59_11))))) ∧ (a_3 = 0 → PX5_wanted b_m a_1 a_2 (fun r45_12 => (k r45_12)))))) ∧ (r21_5 = 0 → (k (-101 : Int32)))))))))))
def PX5_columnAt (b_m : Nat → Int32) (a_1 : Int32) (a_2 : Int32) (k : Int32 → Prop) : Prop := PX5_isPicture b_m a_1 (fun r2_1 => ((r2_1 = 0 → (k (-101 : Int32))) ∧ (¬ r2_1 = 0 → PX5_in a_2 (0 : Int32) (719 : Int32) (fun r13_3 => ((r13_3 = 0 → (k (-101 : Int32))) ∧ (¬ r13_3 = 0 → PX5_columnOf b_m a_1 a_2 (fun r22_5 => (k r22_5))))))))
def PX5_isCovered_L1 (b_m : Nat → Int32) (a_1 : Int32) (kx_1 : Int32 → Int32 → Prop) : Nat → Int32 → Int32 → Prop
  | 0, _, _ => False
  | n_1 + 1, v2_1, v3_2 => (((b_m 11) ≤ v3_2 → kx_1 v2_1 v3_2) ∧ (¬ (b_m 11) ≤ v3_2 → ((¬ v2_1 = 0 → (∀ v3_5 : Int32, v3_5 = v3_2 + (1 : Int32) → PX5_isCovered_L1 b_m a_1 kx_1 n_1 (1 : Int32) v3_5)) ∧ (v2_1 = 0 → PX5_of b_m v3_2 (3 : Int32) (fun r22_6 => ((r22_6 = (2 : Int32) → (∀ v3_8 : Int32, v3_8 = v3_2 + (1 : Int32) → PX5_isCovered_L1 b_m a_1 kx_1 n_1 (0 : Int32) v3_8)) ∧ (¬ r22_6 = (2 : Int32) → PX5_columnOf b_m v3_2 a_1 (fun r32_9 => ((r32_9 = (-109 : Int32) → (∀ v3_11 : Int32, v3_11 = v3_2 + (1 : Int32) → PX5_isCovered_L1 b_m a_1 kx_1 n_1 (0 : Int32) v3_11)) ∧ (¬ r32_9 = (-109 : Int32) → (∀ v3_12 : Int32, v3_12 = v3_2 + (1 : Int32) → PX5_isCovered_L1 b_m a_1 kx_1 n_1 (1 : Int32) v3_12)))))))))))
def PX5_isCovered (b_m : Nat → Int32) (a_1 : Int32) (k : Int32 → Prop) : Prop := (∃ n_1, PX5_isCovered_L1 b_m a_1 (fun v2_1 v3_2 => ((v2_1 = 0 ∨ v2_1 = 1) ∧ k v2_1)) n_1 (0 : Int32) (0 : Int32))
def PX5_meets (b_m : Nat → Int32) (a_1 : Int32) (a_2 : Int32) (a_3 : Int32) (a_4 : Int32) (k : Int32 → Prop) : Prop := PX5_columnOf b_m a_1 a_3 (fun r3_1 => PX5_columnOf b_m a_2 a_3 (fun r11_2 => ((r3_1 = (-109 : Int32) → (k (0 : Int32))) ∧ (¬ r3_1 = (-109 : Int32) → ((r11_2 = (-109 : Int32) → (k (0 : Int32))) ∧ (¬ r11_2 = (-109 : Int32) → PX5_colorOf b_m a_1 r3_1 a_4 (fun r36_5 => ((r36_5 = 0 → (k (0 : Int32))) ∧ (¬ r36_5 = 0 → PX5_colorOf b_m a_2 r11_2 a_4 (fun r48_7 => ((r48_7 = 0 → (k (0 : Int32))) ∧ (¬ r48_7 = 0 → (k (1 : Int32))))))))))))))
def PX5_meetings_L3 (b_m : Nat → Int32) (a_1 : Int32) (a_2 : Int32) (t_7 : Int32) (kx_3 : Int32 → Int32 → Prop) : Nat → Int32 → Int32 → Prop
  | 0, _, _ => False
  | n_3 + 1, v3_8, v5_9 => (((8640 : Int32) ≤ v5_9 → kx_3 v3_8 v5_9) ∧ (¬ (8640 : Int32) ≤ v5_9 → ((t_7 = 0 → kx_3 v3_8 v5_9) ∧ (¬ t_7 = 0 → PX5_meets b_m a_1 a_2 (v5_9 / (12 : Int32)) (v5_9 - v5_9 / (12 : Int32) * (12 : Int32)) (fun r83_12 => ((r83_12 = 0 → (∀ v3_14 : Int32, v3_14 = (v3_8 + (0 : Int32)) → (∀ v5_15 : Int32, v5_15 = v5_9 + (1 : Int32) → PX5_meetings_L3 b_m a_1 a_2 t_7 kx_3 n_3 v3_14 v5_15))) ∧ (¬ r83_12 = 0 → (∀ v3_16 : Int32, v3_16 = (v3_8 + (1 : Int32)) → (∀ v5_17 : Int32, v5_17 = v5_9 + (1 : Int32) → PX5_meetings_L3 b_m a_1 a_2 t_7 kx_3 n_3 v3_16 v5_17)))))))))
def PX5_meetings_J2 (b_m : Nat → Int32) (a_1 : Int32) (a_2 : Int32) (k : Int32 → Prop) (t_7 : Int32) : Prop := (∃ n_3, PX5_meetings_L3 b_m a_1 a_2 t_7 (fun v3_8 v5_9 => (k v3_8)) n_3 (0 : Int32) (0 : Int32))
def PX5_meetings_J1 (k : Int32 → Prop)  : Prop := (k (-101 : Int32))
def PX5_meetings (b_m : Nat → Int32) (a_1 : Int32) (a_2 : Int32) (k : Int32 → Prop) : Prop := PX5_isPicture b_m a_1 (fun r2_1 => ((r2_1 = 0 → PX5_meetings_J1 k ) ∧ (¬ r2_1 = 0 → PX5_isPicture b_m a_2 (fun r10_3 => ((r10_3 = 0 → PX5_meetings_J1 k ) ∧ (¬ r10_3 = 0 → ((¬ a_1 = a_2 → PX5_of b_m a_1 (3 : Int32) (fun r29_6 => ((r29_6 = (2 : Int32) → PX5_meetings_J2 b_m a_1 a_2 k (0 : Int32)) ∧ (¬ r29_6 = (2 : Int32) → PX5_of b_m a_2 (3 : Int32) (fun r39_19 => ((r39_19 = (2 : Int32) → PX5_meetings_J2 b_m a_1 a_2 k (0 : Int32)) ∧ (¬ r39_19 = (2 : Int32) → PX5_meetings_J2 b_m a_1 a_2 k (1 : Int32)))))))) ∧ (a_1 = a_2 → PX5_meetings_J1 k ))))))))
theorem hdX5_here : yX5_here.cls = RX5 ∧ yX5_here.cls ≠ "java/lang/invoke/MethodHandle" ∧ yX5_here.cls ≠ "java/lang/invoke/VarHandle" ∧ (parseMethodDescriptor yX5_here.desc).map (fun d => d.parameters.length) = some 0 := by decide +kernel
set_option maxHeartbeats 4000000 in
set_option maxRecDepth 100000 in
theorem kX5_here (l : Launch) (g : GG) (q : Nat → Nat) (b_m : Nat → Int32) (b_written : Nat → Int32) (b_spare : Nat → Int32) (b_spareWritten : Nat → Int32) (b_states : Nat → Int32) (b_fifth : Nat → Int32) (b_oldest : Int32) (b_stateCount : Int32) (b_text : Nat → Int32) (b_textLength : Int32) (b_at : Int32) (b_read : Nat → Int32) (b_columns : Int32) (b_told : Int32) (b_wants : Nat → Int32) (b_comes : Nat → Int32)  (k : Int32 → Prop) (h : PX5_here b_text b_textLength b_at  k) : Met l yX5_here wsX5_here ({ frames := 0, cells := 0, slots := 0, locals := 0 }) (PreR g [.ref (q 0)] (wM g q b_m b_written b_spare b_spareWritten b_states b_fifth b_oldest b_stateCount b_text b_textLength b_at b_read b_columns b_told b_wants b_comes)) (vp_Si k) 0 0 (fun _ => False) := by
  refine Met.ofW (cc := cX5_here) (maxL := 1) (ret := (some .int)) (by decide) rfl ?_
  intro p e s m args below meth c s₁ B hml hv
  obtain ⟨rfl, hP, hK⟩ := hv
  have hx := B.exec
  have hb := B.bytes
  have hr := B.returns
  have hts := atoms_spec (ws := wsX5_here) B.pre
  have hown : s.vm.findClass RX5 = some m.cls := findClass_of_methodNamed B.named
  have hlocks := B.notSynchronized
  have iX5 : ∀ w ∈ wsX50, w ∈ wsX5_here := by decide +kernel
  have hl := lv_entry ([.ref (q 0)]) (n := 1) (Nat.le_of_ble_eq_true rfl)
  rw [lg_entry_eq]
  generalize (lg_sl ([.ref (q 0)]) ++ List.replicate (1 - (lg_sl ([.ref (q 0)])).length) Slot.unset).toArray = ls at hl ⊢
  have hl : lv_has ls 1 [(0, .ref (q 0))] := hl
  unfold PX5_here at h
  refine lv_aload_n hx hb dX5_here_0 rfl (lv_at hl 0 rfl) ?_
  refine va_get (D := g.1) (ci := 5) (v := .int b_at) (C := RX5) (T := TX5) (N := 16) hx hb hts iX5 hown hK.1 hP 0 rfl rfl 10 (by decide) (hts (.fieldLink RX5 103 "LightWheelModel" "at" "I") (by decide +kernel)) (fun _ h9 => h9) rfl dX5_here_1 ?_
  refine lv_aload_n hx hb dX5_here_4 rfl (lv_at hl 0 rfl) ?_
  refine va_get (D := g.1) (ci := 5) (v := .int b_textLength) (C := RX5) (T := TX5) (N := 16) hx hb hts iX5 hown hK.1 hP 0 rfl rfl 9 (by decide) (hts (.fieldLink RX5 100 "LightWheelModel" "textLength" "I") (by decide +kernel)) (fun _ h9 => h9) rfl dX5_here_5 ?_
  refine lv_icmp_ge (tgt := 23) hx hb dX5_here_8 (by decide) (fun c_8_0 => ?_) (fun c_8_0 => ?_)
  · replace h := h.1 c_8_0
    refine lv_iconst (v := (0 : Int32)) hx hb dX5_here_23 (by decide) ?_
    exact W.iret hx hb hr (fun t ht hW => ⟨(0 : Int32), rfl, h, ht⟩) (fun _ h9 => by cases h9) dX5_here_24
  · replace h := h.2 c_8_0
    refine lv_aload_n hx hb dX5_here_11 rfl (lv_at hl 0 rfl) ?_
    refine va_get (D := g.1) (ci := 5) (v := .ref (q 7)) (C := RX5) (T := TX5) (N := 16) hx hb hts iX5 hown hK.1 hP 0 rfl rfl 8 (by decide) (hts (.fieldLink RX5 28 "LightWheelModel" "text" "[I") (by decide +kernel)) (fun _ h9 => h9) rfl dX5_here_12 ?_
    refine lv_aload_n hx hb dX5_here_15 rfl (lv_at hl 0 rfl) ?_
    refine va_get (D := g.1) (ci := 5) (v := .int b_at) (C := RX5) (T := TX5) (N := 16) hx hb hts iX5 hown hK.1 hP 0 rfl rfl 10 (by decide) (hts (.fieldLink RX5 103 "LightWheelModel" "at" "I") (by decide +kernel)) (fun _ h9 => h9) rfl dX5_here_16 ?_
    have o_19_1 := h.1
    replace h := h.2
    refine va_iald hx hb hK.1 hP 7 0 rfl rfl o_19_1 dX5_here_19 ?_
    refine lv_goto (tgt := 24) hx hb dX5_here_20 (by decide) ?_
    exact W.iret hx hb hr (fun t ht hW => ⟨(b_text (Int32.toNatClampNeg b_at)), rfl, h, ht⟩) (fun _ h9 => by cases h9) dX5_here_24
theorem hdX5_isColor : yX5_isColor.cls = RX5 ∧ yX5_isColor.cls ≠ "java/lang/invoke/MethodHandle" ∧ yX5_isColor.cls ≠ "java/lang/invoke/VarHandle" ∧ (parseMethodDescriptor yX5_isColor.desc).map (fun d => d.parameters.length) = some 0 := by decide +kernel
set_option maxHeartbeats 4000000 in
set_option maxRecDepth 100000 in
theorem kX5_isColor (l : Launch) (g : GG) (q : Nat → Nat) (b_m : Nat → Int32) (b_written : Nat → Int32) (b_spare : Nat → Int32) (b_spareWritten : Nat → Int32) (b_states : Nat → Int32) (b_fifth : Nat → Int32) (b_oldest : Int32) (b_stateCount : Int32) (b_text : Nat → Int32) (b_textLength : Int32) (b_at : Int32) (b_read : Nat → Int32) (b_columns : Int32) (b_told : Int32) (b_wants : Nat → Int32) (b_comes : Nat → Int32)  (k : Int32 → Prop) (h : PX5_isColor b_text b_textLength b_at  k) : Met l yX5_isColor wsX5_isColor ({ frames := 1, cells := 0, slots := 0, locals := 22 }) (PreR g [.ref (q 0)] (wM g q b_m b_written b_spare b_spareWritten b_states b_fifth b_oldest b_stateCount b_text b_textLength b_at b_read b_columns b_told b_wants b_comes)) (vp_Si k) 0 0 (fun _ => False) := by
  refine Met.ofW (cc := cX5_isColor) (maxL := 1) (ret := (some .boolean)) (by decide) rfl ?_
  intro p e s m args below meth c s₁ B hml hv
  obtain ⟨rfl, hP, hK⟩ := hv
  have hx := B.exec
  have hb := B.bytes
  have hr := B.returns
  have hts := atoms_spec (ws := wsX5_isColor) B.pre
  have hown : s.vm.findClass RX5 = some m.cls := findClass_of_methodNamed B.named
  have hlocks := B.notSynchronized
  have hl := lv_entry ([.ref (q 0)]) (n := 1) (Nat.le_of_ble_eq_true rfl)
  rw [lg_entry_eq]
  generalize (lg_sl ([.ref (q 0)]) ++ List.replicate (1 - (lg_sl ([.ref (q 0)])).length) Slot.unset).toArray = ls at hl ⊢
  have hl : lv_has ls 1 [(0, .ref (q 0))] := hl
  unfold PX5_isColor at h
  refine lv_aload_n hx hb dX5_isColor_0 rfl (lv_at hl 0 rfl) ?_
  refine vp_callSi (W.runV (As := []) (rest := []) ⟨hx, hb, hml, hown, hts⟩ (kX5_here l g q b_m b_written b_spare b_spareWritten b_states b_fifth b_oldest b_stateCount b_text b_textLength b_at b_read b_columns b_told b_wants b_comes _ h) (cwV 0 hts gX5_isColor_X5_here rfl rfl rfl hdX5_here ⟨(Nat.le_of_ble_eq_true rfl), (Nat.le_of_ble_eq_true rfl)⟩) (preV_R (r := (RX5, TX5, 16)) hK hP (ci := 5) (q0 := 0) rfl rfl) rfl rfl hl.1 rfl (lv_room (Nat.le_of_ble_eq_true rfl)) dX5_isColor_1 ⟨(Nat.le_of_ble_eq_true rfl), (Nat.le_of_ble_eq_true rfl)⟩) (fun r1_1 h => ?_)
  refine lv_bipush (v := (48 : Int32)) hx hb dX5_isColor_4 (by decide) ?_
  refine lv_bipush (v := (55 : Int32)) hx hb dX5_isColor_6 (by decide) ?_
  refine vp_callSi (W.runS (As := [.int r1_1, .int (48 : Int32), .int (55 : Int32)]) (rest := []) ⟨hx, hb, hml, hown, hts⟩ (kX5_in l g  r1_1 (48 : Int32) (55 : Int32) _ h) (va_cwS 3 hts gX5_isColor_X5_in rfl rfl rfl hdX5_in.2 ⟨(Nat.le_of_ble_eq_true rfl), (Nat.le_of_ble_eq_true rfl)⟩) (preS_R hK (va_P_nil (D := g.1) (cl := vwCl))) rfl rfl hl.1 rfl (lv_room (Nat.le_of_ble_eq_true rfl)) dX5_isColor_8 ⟨(Nat.le_of_ble_eq_true rfl), (Nat.le_of_ble_eq_true rfl)⟩) (fun r8_2 h => ?_)
  have hbz := h.1
  replace h := h.2
  exact W.zret (v := r8_2) hx hb hr (by rcases hbz with e9 | e9 <;> rw [e9] <;> rfl) (fun t ht hW => ⟨r8_2, rfl, h, ht⟩) (fun _ h9 => by cases h9) dX5_isColor_11
theorem hdX5_isBroken : yX5_isBroken.cls = RX5 ∧ yX5_isBroken.cls ≠ "java/lang/invoke/MethodHandle" ∧ yX5_isBroken.cls ≠ "java/lang/invoke/VarHandle" ∧ (parseMethodDescriptor yX5_isBroken.desc).map (fun d => d.parameters.length) = some 2 := by decide +kernel
set_option maxHeartbeats 4000000 in
set_option maxRecDepth 100000 in
theorem kX5_isBroken (l : Launch) (g : GG) (q : Nat → Nat) (b_m : Nat → Int32) (b_written : Nat → Int32) (b_spare : Nat → Int32) (b_spareWritten : Nat → Int32) (b_states : Nat → Int32) (b_fifth : Nat → Int32) (b_oldest : Int32) (b_stateCount : Int32) (b_text : Nat → Int32) (b_textLength : Int32) (b_at : Int32) (b_read : Nat → Int32) (b_columns : Int32) (b_told : Int32) (b_wants : Nat → Int32) (b_comes : Nat → Int32) (a_1 : Int32) (a_2 : Int32) (k : Int32 → Prop) (h : PX5_isBroken b_m a_1 a_2 k) : Met l yX5_isBroken wsX5_isBroken ({ frames := 0, cells := 0, slots := 0, locals := 0 }) (PreR g [.ref (q 0), .int a_1, .int a_2] (wM g q b_m b_written b_spare b_spareWritten b_states b_fifth b_oldest b_stateCount b_text b_textLength b_at b_read b_columns b_told b_wants b_comes)) (vp_Si k) 0 0 (fun _ => False) := by
  refine Met.ofW (cc := cX5_isBroken) (maxL := 3) (ret := (some .boolean)) (by decide) rfl ?_
  intro p e s m args below meth c s₁ B hml hv
  obtain ⟨rfl, hP, hK⟩ := hv
  have hx := B.exec
  have hb := B.bytes
  have hr := B.returns
  have hts := atoms_spec (ws := wsX5_isBroken) B.pre
  have hown : s.vm.findClass RX5 = some m.cls := findClass_of_methodNamed B.named
  have hlocks := B.notSynchronized
  have iX5 : ∀ w ∈ wsX50, w ∈ wsX5_isBroken := by decide +kernel
  have hl := lv_entry ([.ref (q 0), .int a_1, .int a_2]) (n := 3) (Nat.le_of_ble_eq_true rfl)
  rw [lg_entry_eq]
  generalize (lg_sl ([.ref (q 0), .int a_1, .int a_2]) ++ List.replicate (3 - (lg_sl ([.ref (q 0), .int a_1, .int a_2])).length) Slot.unset).toArray = ls at hl ⊢
  have hl : lv_has ls 3 [(0, .ref (q 0)), (1, .int a_1), (2, .int a_2)] := hl
  unfold PX5_isBroken at h
  refine lv_aload_n hx hb dX5_isBroken_0 rfl (lv_at hl 0 rfl) ?_
  refine va_get (D := g.1) (ci := 5) (v := .ref (q 1)) (C := RX5) (T := TX5) (N := 16) hx hb hts iX5 hown hK.1 hP 0 rfl rfl 0 (by decide) (hts (.fieldLink RX5 7 "LightWheelModel" "m" "[I") (by decide +kernel)) (fun _ h9 => h9) rfl dX5_isBroken_1 ?_
  refine lv_bipush (v := (9 : Int32)) hx hb dX5_isBroken_4 (by decide) ?_
  refine lv_iload_n hx hb dX5_isBroken_6 rfl (lv_at hl 1 rfl) ?_
  refine lv_iadd hx hb dX5_isBroken_7 ?_
  have o_8_0 := h.1
  replace h := h.2
  refine va_iald hx hb hK.1 hP 1 0 rfl rfl o_8_0 dX5_isBroken_8 ?_
  refine lv_iload_n hx hb dX5_isBroken_9 rfl (lv_at hl 2 rfl) ?_
  refine lv_ishr hx hb dX5_isBroken_10 ?_
  refine lv_iconst (v := (1 : Int32)) hx hb dX5_isBroken_11 (by decide) ?_
  refine lv_iand hx hb dX5_isBroken_12 ?_
  refine lv_iconst (v := (1 : Int32)) hx hb dX5_isBroken_13 (by decide) ?_
  refine lv_icmp_ne (tgt := 21) hx hb dX5_isBroken_14 (by decide) (fun c_14_1 => ?_) (fun c_14_1 => ?_)
  · replace h := h.1 c_14_1
    refine lv_iconst (v := (0 : Int32)) hx hb dX5_isBroken_21 (by decide) ?_
    exact W.zret (v := (0 : Int32)) hx hb hr rfl (fun t ht hW => ⟨(0 : Int32), rfl, h, ht⟩) (fun _ h9 => by cases h9) dX5_isBroken_22
  · replace h := h.2 c_14_1
    refine lv_iconst (v := (1 : Int32)) hx hb dX5_isBroken_17 (by decide) ?_
    refine lv_goto (tgt := 22) hx hb dX5_isBroken_18 (by decide) ?_
    exact W.zret (v := (1 : Int32)) hx hb hr rfl (fun t ht hW => ⟨(1 : Int32), rfl, h, ht⟩) (fun _ h9 => by cases h9) dX5_isBroken_22
theorem hdX5_isSetting : yX5_isSetting.cls = RX5 ∧ yX5_isSetting.cls ≠ "java/lang/invoke/MethodHandle" ∧ yX5_isSetting.cls ≠ "java/lang/invoke/VarHandle" ∧ (parseMethodDescriptor yX5_isSetting.desc).map (fun d => d.parameters.length) = some 2 := by decide +kernel
set_option maxHeartbeats 4000000 in
set_option maxRecDepth 100000 in
theorem kX5_isSetting (l : Launch) (g : GG)  (a_1 : Int32) (a_2 : Int32) (k : Int32 → Prop) (h : PX5_isSetting  a_1 a_2 k) : Met l yX5_isSetting wsX5_isSetting ({ frames := 1, cells := 0, slots := 0, locals := 22 }) (PreR g [.int a_1, .int a_2] []) (vp_Si k) 0 0 (fun _ => False) := by
  refine Met.ofW (cc := cX5_isSetting) (maxL := 2) (ret := (some .boolean)) (by decide) rfl ?_
  intro p e s m args below meth c s₁ B hml hv
  obtain ⟨rfl, hP, hK⟩ := hv
  have hx := B.exec
  have hb := B.bytes
  have hr := B.returns
  have hts := atoms_spec (ws := wsX5_isSetting) B.pre
  have hown : s.vm.findClass RX5 = some m.cls := findClass_of_methodNamed B.named
  have hlocks := B.notSynchronized
  have hl := lv_entry ([.int a_1, .int a_2]) (n := 2) (Nat.le_of_ble_eq_true rfl)
  rw [lg_entry_eq]
  generalize (lg_sl ([.int a_1, .int a_2]) ++ List.replicate (2 - (lg_sl ([.int a_1, .int a_2])).length) Slot.unset).toArray = ls at hl ⊢
  have hl : lv_has ls 2 [(0, .int a_1), (1, .int a_2)] := hl
  unfold PX5_isSetting at h
  refine lv_iload_n hx hb dX5_isSetting_0 rfl (lv_at hl 0 rfl) ?_
  by_cases c_1_0 : a_1.toInt < 0 ∨ 3 < a_1.toInt
  · replace h := h.1 c_1_0
    refine lv_tableOut (tgt := 66) hx hb dX5_isSetting_1 c_1_0 (by decide) ?_
    refine lv_iconst (v := (0 : Int32)) hx hb dX5_isSetting_66 (by decide) ?_
    exact W.zret (v := (0 : Int32)) hx hb hr rfl (fun t ht hW => ⟨(0 : Int32), rfl, h, ht⟩) (fun _ h9 => by cases h9) dX5_isSetting_67
  · replace h := h.2
    by_cases c_1_0_0 : a_1 = (0 : Int32)
    · replace h := h.1 c_1_0_0
      refine lv_tableIn (tgt := 32) hx hb dX5_isSetting_1 (by rw [c_1_0_0]; decide) (by rw [c_1_0_0]; decide) (by rw [c_1_0_0]; rfl) (by decide) ?_
      refine lv_iload_n hx hb dX5_isSetting_32 rfl (lv_at hl 1 rfl) ?_
      refine lv_bipush (v := (-60 : Int32)) hx hb dX5_isSetting_33 (by decide) ?_
      refine lv_bipush (v := (60 : Int32)) hx hb dX5_isSetting_35 (by decide) ?_
      refine vp_callSi (W.runS (As := [.int a_2, .int (-60 : Int32), .int (60 : Int32)]) (rest := []) ⟨hx, hb, hml, hown, hts⟩ (kX5_in l g  a_2 (-60 : Int32) (60 : Int32) _ h) (va_cwS 3 hts gX5_isSetting_X5_in rfl rfl rfl hdX5_in.2 ⟨(Nat.le_of_ble_eq_true rfl), (Nat.le_of_ble_eq_true rfl)⟩) (preS_R hK (va_P_nil (D := g.1) (cl := vwCl))) rfl rfl hl.1 rfl (lv_room (Nat.le_of_ble_eq_true rfl)) dX5_isSetting_37 ⟨(Nat.le_of_ble_eq_true rfl), (Nat.le_of_ble_eq_true rfl)⟩) (fun r37_2 h => ?_)
      have hbz := h.1
      replace h := h.2
      exact W.zret (v := r37_2) hx hb hr (by rcases hbz with e9 | e9 <;> rw [e9] <;> rfl) (fun t ht hW => ⟨r37_2, rfl, h, ht⟩) (fun _ h9 => by cases h9) dX5_isSetting_40
    refine id ?_
    by_cases c_1_0_1 : a_1 = (1 : Int32)
    · replace h := h.2.1 c_1_0_1
      refine lv_tableIn (tgt := 41) hx hb dX5_isSetting_1 (by rw [c_1_0_1]; decide) (by rw [c_1_0_1]; decide) (by rw [c_1_0_1]; rfl) (by decide) ?_
      refine lv_iload_n hx hb dX5_isSetting_41 rfl (lv_at hl 1 rfl) ?_
      refine lv_iconst (v := (1 : Int32)) hx hb dX5_isSetting_42 (by decide) ?_
      refine lv_bipush (v := (20 : Int32)) hx hb dX5_isSetting_43 (by decide) ?_
      refine vp_callSi (W.runS (As := [.int a_2, .int (1 : Int32), .int (20 : Int32)]) (rest := []) ⟨hx, hb, hml, hown, hts⟩ (kX5_in l g  a_2 (1 : Int32) (20 : Int32) _ h) (va_cwS 3 hts gX5_isSetting_X5_in rfl rfl rfl hdX5_in.2 ⟨(Nat.le_of_ble_eq_true rfl), (Nat.le_of_ble_eq_true rfl)⟩) (preS_R hK (va_P_nil (D := g.1) (cl := vwCl))) rfl rfl hl.1 rfl (lv_room (Nat.le_of_ble_eq_true rfl)) dX5_isSetting_45 ⟨(Nat.le_of_ble_eq_true rfl), (Nat.le_of_ble_eq_true rfl)⟩) (fun r45_3 h => ?_)
      have hbz := h.1
      replace h := h.2
      exact W.zret (v := r45_3) hx hb hr (by rcases hbz with e9 | e9 <;> rw [e9] <;> rfl) (fun t ht hW => ⟨r45_3, rfl, h, ht⟩) (fun _ h9 => by cases h9) dX5_isSetting_48
    refine id ?_
    by_cases c_1_0_2 : a_1 = (2 : Int32)
    · replace h := h.2.2.1 c_1_0_2
      refine lv_tableIn (tgt := 49) hx hb dX5_isSetting_1 (by rw [c_1_0_2]; decide) (by rw [c_1_0_2]; decide) (by rw [c_1_0_2]; rfl) (by decide) ?_
      refine lv_iload_n hx hb dX5_isSetting_49 rfl (lv_at hl 1 rfl) ?_
      refine lv_iconst (v := (1 : Int32)) hx hb dX5_isSetting_50 (by decide) ?_
      refine lv_sipush (v := (9999 : Int32)) hx hb dX5_isSetting_51 (by decide) ?_
      refine vp_callSi (W.runS (As := [.int a_2, .int (1 : Int32), .int (9999 : Int32)]) (rest := []) ⟨hx, hb, hml, hown, hts⟩ (kX5_in l g  a_2 (1 : Int32) (9999 : Int32) _ h) (va_cwS 3 hts gX5_isSetting_X5_in rfl rfl rfl hdX5_in.2 ⟨(Nat.le_of_ble_eq_true rfl), (Nat.le_of_ble_eq_true rfl)⟩) (preS_R hK (va_P_nil (D := g.1) (cl := vwCl))) rfl rfl hl.1 rfl (lv_room (Nat.le_of_ble_eq_true rfl)) dX5_isSetting_54 ⟨(Nat.le_of_ble_eq_true rfl), (Nat.le_of_ble_eq_true rfl)⟩) (fun r54_4 h => ?_)
      have hbz := h.1
      replace h := h.2
      exact W.zret (v := r54_4) hx hb hr (by rcases hbz with e9 | e9 <;> rw [e9] <;> rfl) (fun t ht hW => ⟨r54_4, rfl, h, ht⟩) (fun _ h9 => by cases h9) dX5_isSetting_57
    refine id ?_
    have c_1_0_3 : a_1 = (3 : Int32) := by
      have z0 : a_1.toInt ≠ 0 := fun q => c_1_0_0 (Int32.toInt_inj.mp (q.trans (by decide)))
      have z1 : a_1.toInt ≠ 1 := fun q => c_1_0_1 (Int32.toInt_inj.mp (q.trans (by decide)))
      have z2 : a_1.toInt ≠ 2 := fun q => c_1_0_2 (Int32.toInt_inj.mp (q.trans (by decide)))
      exact Int32.toInt_inj.mp ((by omega : a_1.toInt = 3).trans (by decide))
    replace h := h.2.2.2 c_1_0_3
    refine lv_tableIn (tgt := 58) hx hb dX5_isSetting_1 (by rw [c_1_0_3]; decide) (by rw [c_1_0_3]; decide) (by rw [c_1_0_3]; rfl) (by decide) ?_
    refine lv_iload_n hx hb dX5_isSetting_58 rfl (lv_at hl 1 rfl) ?_
    refine lv_iconst (v := (1 : Int32)) hx hb dX5_isSetting_59 (by decide) ?_
    refine lv_bipush (v := (99 : Int32)) hx hb dX5_isSetting_60 (by decide) ?_
    refine vp_callSi (W.runS (As := [.int a_2, .int (1 : Int32), .int (99 : Int32)]) (rest := []) ⟨hx, hb, hml, hown, hts⟩ (kX5_in l g  a_2 (1 : Int32) (99 : Int32) _ h) (va_cwS 3 hts gX5_isSetting_X5_in rfl rfl rfl hdX5_in.2 ⟨(Nat.le_of_ble_eq_true rfl), (Nat.le_of_ble_eq_true rfl)⟩) (preS_R hK (va_P_nil (D := g.1) (cl := vwCl))) rfl rfl hl.1 rfl (lv_room (Nat.le_of_ble_eq_true rfl)) dX5_isSetting_62 ⟨(Nat.le_of_ble_eq_true rfl), (Nat.le_of_ble_eq_true rfl)⟩) (fun r62_5 h => ?_)
    have hbz := h.1
    replace h := h.2
    exact W.zret (v := r62_5) hx hb hr (by rcases hbz with e9 | e9 <;> rw [e9] <;> rfl) (fun t ht hW => ⟨r62_5, rfl, h, ht⟩) (fun _ h9 => by cases h9) dX5_isSetting_65
theorem hdX5_ago : yX5_ago.cls = RX5 ∧ yX5_ago.cls ≠ "java/lang/invoke/MethodHandle" ∧ yX5_ago.cls ≠ "java/lang/invoke/VarHandle" ∧ (parseMethodDescriptor yX5_ago.desc).map (fun d => d.parameters.length) = some 1 := by decide +kernel
set_option maxHeartbeats 4000000 in
set_option maxRecDepth 100000 in
theorem kX5_ago (l : Launch) (g : GG) (q : Nat → Nat) (b_m : Nat → Int32) (b_written : Nat → Int32) (b_spare : Nat → Int32) (b_spareWritten : Nat → Int32) (b_states : Nat → Int32) (b_fifth : Nat → Int32) (b_oldest : Int32) (b_stateCount : Int32) (b_text : Nat → Int32) (b_textLength : Int32) (b_at : Int32) (b_read : Nat → Int32) (b_columns : Int32) (b_told : Int32) (b_wants : Nat → Int32) (b_comes : Nat → Int32) (a_1 : Int32) (k : Int32 → Prop) (h : PX5_ago b_m b_written a_1 k) : Met l yX5_ago wsX5_ago ({ frames := 0, cells := 0, slots := 0, locals := 0 }) (PreR g [.ref (q 0), .int a_1] (wM g q b_m b_written b_spare b_spareWritten b_states b_fifth b_oldest b_stateCount b_text b_textLength b_at b_read b_columns b_told b_wants b_comes)) (vp_Si k) 0 0 (fun _ => False) := by
  refine Met.ofW (cc := cX5_ago) (maxL := 2) (ret := (some .int)) (by decide) rfl ?_
  intro p e s m args below meth c s₁ B hml hv
  obtain ⟨rfl, hP, hK⟩ := hv
  have hx := B.exec
  have hb := B.bytes
  have hr := B.returns
  have hts := atoms_spec (ws := wsX5_ago) B.pre
  have hown : s.vm.findClass RX5 = some m.cls := findClass_of_methodNamed B.named
  have hlocks := B.notSynchronized
  have iX5 : ∀ w ∈ wsX50, w ∈ wsX5_ago := by decide +kernel
  have hl := lv_entry ([.ref (q 0), .int a_1]) (n := 2) (Nat.le_of_ble_eq_true rfl)
  rw [lg_entry_eq]
  generalize (lg_sl ([.ref (q 0), .int a_1]) ++ List.replicate (2 - (lg_sl ([.ref (q 0), .int a_1])).length) Slot.unset).toArray = ls at hl ⊢
  have hl : lv_has ls 2 [(0, .ref (q 0)), (1, .int a_1)] := hl
  unfold PX5_ago at h
  refine lv_aload_n hx hb dX5_ago_0 rfl (lv_at hl 0 rfl) ?_
  refine va_get (D := g.1) (ci := 5) (v := .ref (q 2)) (C := RX5) (T := TX5) (N := 16) hx hb hts iX5 hown hK.1 hP 0 rfl rfl 1 (by decide) (hts (.fieldLink RX5 13 "LightWheelModel" "written" "[I") (by decide +kernel)) (fun _ h9 => h9) rfl dX5_ago_1 ?_
  refine lv_iload_n hx hb dX5_ago_4 rfl (lv_at hl 1 rfl) ?_
  have o_5_0 := h.1
  replace h := h.2
  refine va_iald hx hb hK.1 hP 2 0 rfl rfl o_5_0 dX5_ago_5 ?_
  refine lv_if_ne (tgt := 14) hx hb dX5_ago_6 (by decide) (fun c_6_1 => ?_) (fun c_6_1 => ?_)
  · replace h := h.1 c_6_1
    refine lv_aload_n hx hb dX5_ago_14 rfl (lv_at hl 0 rfl) ?_
    refine va_get (D := g.1) (ci := 5) (v := .ref (q 1)) (C := RX5) (T := TX5) (N := 16) hx hb hts iX5 hown hK.1 hP 0 rfl rfl 0 (by decide) (hts (.fieldLink RX5 7 "LightWheelModel" "m" "[I") (by decide +kernel)) (fun _ h9 => h9) rfl dX5_ago_15 ?_
    refine lv_bipush (v := (6 : Int32)) hx hb dX5_ago_18 (by decide) ?_
    refine xr_iald hx hb hK.1 hP 1 0 rfl rfl 6 rfl (Nat.le_of_ble_eq_true rfl) (Nat.le_of_ble_eq_true rfl) dX5_ago_20 ?_
    refine lv_aload_n hx hb dX5_ago_21 rfl (lv_at hl 0 rfl) ?_
    refine va_get (D := g.1) (ci := 5) (v := .ref (q 2)) (C := RX5) (T := TX5) (N := 16) hx hb hts iX5 hown hK.1 hP 0 rfl rfl 1 (by decide) (hts (.fieldLink RX5 13 "LightWheelModel" "written" "[I") (by decide +kernel)) (fun _ h9 => h9) rfl dX5_ago_22 ?_
    refine lv_iload_n hx hb dX5_ago_25 rfl (lv_at hl 1 rfl) ?_
    have o_26_2 := h.1
    replace h := h.2
    refine va_iald hx hb hK.1 hP 2 0 rfl rfl o_26_2 dX5_ago_26 ?_
    refine lv_bipush (v := (8 : Int32)) hx hb dX5_ago_27 (by decide) ?_
    refine lv_idiv hx hb dX5_ago_29 (by decide) ?_
    refine lv_isub hx hb dX5_ago_30 ?_
    exact W.iret hx hb hr (fun t ht hW => ⟨((b_m 6) - ((b_written (Int32.toNatClampNeg a_1)) / (8 : Int32))), rfl, h, ht⟩) (fun _ h9 => by cases h9) dX5_ago_31
  · replace h := h.2 c_6_1
    refine lv_bipush (v := (-109 : Int32)) hx hb dX5_ago_9 (by decide) ?_
    refine lv_goto (tgt := 31) hx hb dX5_ago_11 (by decide) ?_
    exact W.iret hx hb hr (fun t ht hW => ⟨(-109 : Int32), rfl, h, ht⟩) (fun _ h9 => by cases h9) dX5_ago_31
theorem hdX5_lit : yX5_lit.cls = RX5 ∧ yX5_lit.cls ≠ "java/lang/invoke/MethodHandle" ∧ yX5_lit.cls ≠ "java/lang/invoke/VarHandle" ∧ (parseMethodDescriptor yX5_lit.desc).map (fun d => d.parameters.length) = some 1 := by decide +kernel
set_option maxHeartbeats 4000000 in
set_option maxRecDepth 100000 in
theorem kX5_lit (l : Launch) (g : GG) (q : Nat → Nat) (b_m : Nat → Int32) (b_written : Nat → Int32) (b_spare : Nat → Int32) (b_spareWritten : Nat → Int32) (b_states : Nat → Int32) (b_fifth : Nat → Int32) (b_oldest : Int32) (b_stateCount : Int32) (b_text : Nat → Int32) (b_textLength : Int32) (b_at : Int32) (b_read : Nat → Int32) (b_columns : Int32) (b_told : Int32) (b_wants : Nat → Int32) (b_comes : Nat → Int32) (a_1 : Int32) (k : Int32 → Prop) (h : PX5_lit b_m b_written a_1 k) : Met l yX5_lit wsX5_lit ({ frames := 1, cells := 0, slots := 0, locals := 21 }) (PreR g [.ref (q 0), .int a_1] (wM g q b_m b_written b_spare b_spareWritten b_states b_fifth b_oldest b_stateCount b_text b_textLength b_at b_read b_columns b_told b_wants b_comes)) (vp_Si k) 0 0 (fun _ => False) := by
  refine Met.ofW (cc := cX5_lit) (maxL := 2) (ret := (some .int)) (by decide) rfl ?_
  intro p e s m args below meth c s₁ B hml hv
  obtain ⟨rfl, hP, hK⟩ := hv
  have hx := B.exec
  have hb := B.bytes
  have hr := B.returns
  have hts := atoms_spec (ws := wsX5_lit) B.pre
  have hown : s.vm.findClass RX5 = some m.cls := findClass_of_methodNamed B.named
  have hlocks := B.notSynchronized
  have iX5 : ∀ w ∈ wsX50, w ∈ wsX5_lit := by decide +kernel
  have hl := lv_entry ([.ref (q 0), .int a_1]) (n := 2) (Nat.le_of_ble_eq_true rfl)
  rw [lg_entry_eq]
  generalize (lg_sl ([.ref (q 0), .int a_1]) ++ List.replicate (2 - (lg_sl ([.ref (q 0), .int a_1])).length) Slot.unset).toArray = ls at hl ⊢
  have hl : lv_has ls 2 [(0, .ref (q 0)), (1, .int a_1)] := hl
  unfold PX5_lit at h
  refine lv_aload_n hx hb dX5_lit_0 rfl (lv_at hl 0 rfl) ?_
  refine va_get (D := g.1) (ci := 5) (v := .ref (q 2)) (C := RX5) (T := TX5) (N := 16) hx hb hts iX5 hown hK.1 hP 0 rfl rfl 1 (by decide) (hts (.fieldLink RX5 13 "LightWheelModel" "written" "[I") (by decide +kernel)) (fun _ h9 => h9) rfl dX5_lit_1 ?_
  refine lv_iload_n hx hb dX5_lit_4 rfl (lv_at hl 1 rfl) ?_
  have o_5_0 := h.1
  replace h := h.2
  refine va_iald hx hb hK.1 hP 2 0 rfl rfl o_5_0 dX5_lit_5 ?_
  refine lv_if_eq (tgt := 35) hx hb dX5_lit_6 (by decide) (fun c_6_1 => ?_) (fun c_6_1 => ?_)
  · replace h := h.1 c_6_1
    refine lv_iconst (v := (0 : Int32)) hx hb dX5_lit_35 (by decide) ?_
    exact W.iret hx hb hr (fun t ht hW => ⟨(0 : Int32), rfl, h, ht⟩) (fun _ h9 => by cases h9) dX5_lit_36
  · replace h := h.2 c_6_1
    refine lv_aload_n hx hb dX5_lit_9 rfl (lv_at hl 0 rfl) ?_
    refine lv_iload_n hx hb dX5_lit_10 rfl (lv_at hl 1 rfl) ?_
    refine vp_callSi (W.runV (As := [.int a_1]) (rest := []) ⟨hx, hb, hml, hown, hts⟩ (kX5_ago l g q b_m b_written b_spare b_spareWritten b_states b_fifth b_oldest b_stateCount b_text b_textLength b_at b_read b_columns b_told b_wants b_comes a_1 _ h) (cwV 1 hts gX5_lit_X5_ago rfl rfl rfl hdX5_ago ⟨(Nat.le_of_ble_eq_true rfl), (Nat.le_of_ble_eq_true rfl)⟩) (preV_R (r := (RX5, TX5, 16)) hK hP (ci := 5) (q0 := 0) rfl rfl) rfl rfl hl.1 rfl (lv_room (Nat.le_of_ble_eq_true rfl)) dX5_lit_11 ⟨(Nat.le_of_ble_eq_true rfl), (Nat.le_of_ble_eq_true rfl)⟩) (fun r11_3 h => ?_)
    refine lv_aload_n hx hb dX5_lit_14 rfl (lv_at hl 0 rfl) ?_
    refine va_get (D := g.1) (ci := 5) (v := .ref (q 1)) (C := RX5) (T := TX5) (N := 16) hx hb hts iX5 hown hK.1 hP 0 rfl rfl 0 (by decide) (hts (.fieldLink RX5 7 "LightWheelModel" "m" "[I") (by decide +kernel)) (fun _ h9 => h9) rfl dX5_lit_15 ?_
    refine lv_iconst (v := (3 : Int32)) hx hb dX5_lit_18 (by decide) ?_
    refine xr_iald hx hb hK.1 hP 1 0 rfl rfl 3 rfl (Nat.le_of_ble_eq_true rfl) (Nat.le_of_ble_eq_true rfl) dX5_lit_19 ?_
    refine lv_icmp_ge (tgt := 35) hx hb dX5_lit_20 (by decide) (fun c_20_3 => ?_) (fun c_20_3 => ?_)
    · replace h := h.1 c_20_3
      refine lv_iconst (v := (0 : Int32)) hx hb dX5_lit_35 (by decide) ?_
      exact W.iret hx hb hr (fun t ht hW => ⟨(0 : Int32), rfl, h, ht⟩) (fun _ h9 => by cases h9) dX5_lit_36
    · replace h := h.2 c_20_3
      refine lv_aload_n hx hb dX5_lit_23 rfl (lv_at hl 0 rfl) ?_
      refine va_get (D := g.1) (ci := 5) (v := .ref (q 2)) (C := RX5) (T := TX5) (N := 16) hx hb hts iX5 hown hK.1 hP 0 rfl rfl 1 (by decide) (hts (.fieldLink RX5 13 "LightWheelModel" "written" "[I") (by decide +kernel)) (fun _ h9 => h9) rfl dX5_lit_24 ?_
      refine lv_iload_n hx hb dX5_lit_27 rfl (lv_at hl 1 rfl) ?_
      have o_28_4 := h.1
      replace h := h.2
      refine va_iald hx hb hK.1 hP 2 0 rfl rfl o_28_4 dX5_lit_28 ?_
      refine lv_bipush (v := (7 : Int32)) hx hb dX5_lit_29 (by decide) ?_
      refine lv_iand hx hb dX5_lit_31 ?_
      refine lv_goto (tgt := 36) hx hb dX5_lit_32 (by decide) ?_
      exact W.iret hx hb hr (fun t ht hW => ⟨((b_written (Int32.toNatClampNeg a_1)) &&& (7 : Int32)), rfl, h, ht⟩) (fun _ h9 => by cases h9) dX5_lit_36
theorem hdX5_litPlaces : yX5_litPlaces.cls = RX5 ∧ yX5_litPlaces.cls ≠ "java/lang/invoke/MethodHandle" ∧ yX5_litPlaces.cls ≠ "java/lang/invoke/VarHandle" ∧ (parseMethodDescriptor yX5_litPlaces.desc).map (fun d => d.parameters.length) = some 1 := by decide +kernel
set_option maxHeartbeats 4000000 in
set_option maxRecDepth 100000 in
theorem kX5_litPlaces (l : Launch) (g : GG) (q : Nat → Nat) (b_m : Nat → Int32) (b_written : Nat → Int32) (b_spare : Nat → Int32) (b_spareWritten : Nat → Int32) (b_states : Nat → Int32) (b_fifth : Nat → Int32) (b_oldest : Int32) (b_stateCount : Int32) (b_text : Nat → Int32) (b_textLength : Int32) (b_at : Int32) (b_read : Nat → Int32) (b_columns : Int32) (b_told : Int32) (b_wants : Nat → Int32) (b_comes : Nat → Int32) (a_1 : Int32) (k : Int32 → Prop) (h : PX5_litPlaces b_m b_written b_wants a_1 k) : Met l yX5_litPlaces wsX5_litPlaces ({ frames := 2, cells := 0, slots := 0, locals := 42 }) (PreR g [.ref (q 0), .int a_1] (wM g q b_m b_written b_spare b_spareWritten b_states b_fifth b_oldest b_stateCount b_text b_textLength b_at b_read b_columns b_told b_wants b_comes)) (vp_Si k) 0 0 (fun _ => False) := by
  refine Met.ofW (cc := cX5_litPlaces) (maxL := 4) (ret := (some .int)) (by decide) rfl ?_
  intro p e s m args below meth c s₁ B hml hv
  obtain ⟨rfl, hP, hK⟩ := hv
  have hx := B.exec
  have hb := B.bytes
  have hr := B.returns
  have hts := atoms_spec (ws := wsX5_litPlaces) B.pre
  have hown : s.vm.findClass RX5 = some m.cls := findClass_of_methodNamed B.named
  have hlocks := B.notSynchronized
  have iX5 : ∀ w ∈ wsX50, w ∈ wsX5_litPlaces := by decide +kernel
  have hl := lv_entry ([.ref (q 0), .int a_1]) (n := 4) (Nat.le_of_ble_eq_true rfl)
  rw [lg_entry_eq]
  generalize (lg_sl ([.ref (q 0), .int a_1]) ++ List.replicate (4 - (lg_sl ([.ref (q 0), .int a_1])).length) Slot.unset).toArray = ls at hl ⊢
  have hl : lv_has ls 4 [(0, .ref (q 0)), (1, .int a_1)] := hl
  unfold PX5_litPlaces at h
  refine lv_iconst (v := (0 : Int32)) hx hb dX5_litPlaces_0 (by decide) ?_
  refine lv_istore_n (lv' := [(2, .int (0 : Int32)), (0, .ref (q 0)), (1, .int a_1)]) hx hb dX5_litPlaces_1 rfl hl (by decide) rfl (fun ls hl => ?_)
  refine lv_iconst (v := (0 : Int32)) hx hb dX5_litPlaces_2 (by decide) ?_
  refine lv_istore_n (lv' := [(3, .int (0 : Int32)), (2, .int (0 : Int32)), (0, .ref (q 0)), (1, .int a_1)]) hx hb dX5_litPlaces_3 rfl hl (by decide) rfl (fun ls hl => ?_)
  have loop_1 : ∀ (kx_1 : Int32 → Int32 → Prop), (∀ (v2_1 : Int32) (v3_2 : Int32) (ls : Array Slot), kx_1 v2_1 v3_2 → lv_has ls 4 [(3, .int v3_2), (2, .int v2_1), (0, .ref (q 0)), (1, .int a_1)] → W p l e (headSpec wsX5_litPlaces ({ frames := 2, cells := 0, slots := 0, locals := 42 })).room s m ([.ref (q 0), .int a_1] : List Value).toArray below meth c s.heap [] 0 0 (MQ below (vp_Si k) ([.ref (q 0), .int a_1] : List Value).toArray s 0 0 (fun _ => False)) (F0 m 54 ls [])) → ∀ (n_1 : Nat) (v2_1 : Int32) (v3_2 : Int32) (ls : Array Slot), PX5_litPlaces_L1 b_m b_written b_wants a_1 kx_1 n_1 v2_1 v3_2 → lv_has ls 4 [(3, .int v3_2), (2, .int v2_1), (0, .ref (q 0)), (1, .int a_1)] → W p l e (headSpec wsX5_litPlaces ({ frames := 2, cells := 0, slots := 0, locals := 42 })).room s m ([.ref (q 0), .int a_1] : List Value).toArray below meth c s.heap [] 0 0 (MQ below (vp_Si k) ([.ref (q 0), .int a_1] : List Value).toArray s 0 0 (fun _ => False)) (F0 m 4 ls []) := by
    intro kx_1 hexit_1 n_1
    induction n_1 with
    | zero => exact fun _ _ _ h _ => (h : False).elim
    | succ n_1 ih_1 =>
      intro v2_1 v3_2 ls h hl
      unfold PX5_litPlaces_L1 at h
      refine lv_iload_n hx hb dX5_litPlaces_4 rfl (lv_at hl 0 rfl) ?_
      refine lv_sipush (v := (8640 : Int32)) hx hb dX5_litPlaces_5 (by decide) ?_
      refine lv_icmp_ge (tgt := 54) hx hb dX5_litPlaces_8 (by decide) (fun c_8_2 => ?_) (fun c_8_2 => ?_)
      · replace h := h.1 c_8_2
        exact hexit_1 v2_1 v3_2 ls h (lv_sub hl [0, 1, 2, 3] rfl)
      · replace h := h.2 c_8_2
        refine lv_iload_n hx hb dX5_litPlaces_11 rfl (lv_at hl 1 rfl) ?_
        refine lv_iload_n hx hb dX5_litPlaces_12 rfl (lv_at hl 3 rfl) ?_
        refine lv_if_eq (tgt := 33) hx hb dX5_litPlaces_13 (by decide) (fun c_13_3 => ?_) (fun c_13_3 => ?_)
        · replace h := h.1 c_13_3
          refine lv_aload_n hx hb dX5_litPlaces_33 rfl (lv_at hl 2 rfl) ?_
          refine lv_iload_n hx hb dX5_litPlaces_34 rfl (lv_at hl 0 rfl) ?_
          refine vp_callSi (W.runV (As := [.int v3_2]) (rest := [.int v2_1]) ⟨hx, hb, hml, hown, hts⟩ (kX5_lit l g q b_m b_written b_spare b_spareWritten b_states b_fifth b_oldest b_stateCount b_text b_textLength b_at b_read b_columns b_told b_wants b_comes v3_2 _ h) (cwV 1 hts gX5_litPlaces_X5_lit rfl rfl rfl hdX5_lit ⟨(Nat.le_of_ble_eq_true rfl), (Nat.le_of_ble_eq_true rfl)⟩) (preV_R (r := (RX5, TX5, 16)) hK hP (ci := 5) (q0 := 0) rfl rfl) rfl rfl hl.1 rfl (lv_room (Nat.le_of_ble_eq_true rfl)) dX5_litPlaces_35 ⟨(Nat.le_of_ble_eq_true rfl), (Nat.le_of_ble_eq_true rfl)⟩) (fun r35_5 h => ?_)
          refine lv_if_eq (tgt := 45) hx hb dX5_litPlaces_38 (by decide) (fun c_38_5 => ?_) (fun c_38_5 => ?_)
          · replace h := h.1 c_38_5
            refine lv_iconst (v := (0 : Int32)) hx hb dX5_litPlaces_45 (by decide) ?_
            refine lv_iadd hx hb dX5_litPlaces_46 ?_
            refine lv_topi (fun v2_7 e_v2_7 => ?_)
            replace h := h v2_7 e_v2_7
            refine lv_istore_n (lv' := [(2, .int v2_7), (3, .int v3_2), (0, .ref (q 0)), (1, .int a_1)]) hx hb dX5_litPlaces_47 rfl hl (by decide) rfl (fun ls hl => ?_)
            obtain ⟨v3_8, e_v3_8⟩ : ∃ y : Int32, y = v3_2 + (1 : Int32) := ⟨_, rfl⟩
            replace h := h v3_8 e_v3_8
            refine lv_iinc (v := v3_8) (lv' := [(3, .int v3_8), (2, .int v2_7), (0, .ref (q 0)), (1, .int a_1)]) hx hb dX5_litPlaces_48 hl (k := 1) rfl (by rw [e_v3_8]; rfl) (by decide) rfl (fun ls hl => ?_)
            refine lv_goto (tgt := 4) hx hb dX5_litPlaces_51 (by decide) ?_
            exact ih_1 v2_7 v3_8 ls h (lv_sub hl [0, 1, 2, 3] rfl)
          · replace h := h.2 c_38_5
            refine lv_iconst (v := (1 : Int32)) hx hb dX5_litPlaces_41 (by decide) ?_
            refine lv_goto (tgt := 46) hx hb dX5_litPlaces_42 (by decide) ?_
            refine lv_iadd hx hb dX5_litPlaces_46 ?_
            refine lv_topi (fun v2_9 e_v2_9 => ?_)
            replace h := h v2_9 e_v2_9
            refine lv_istore_n (lv' := [(2, .int v2_9), (3, .int v3_2), (0, .ref (q 0)), (1, .int a_1)]) hx hb dX5_litPlaces_47 rfl hl (by decide) rfl (fun ls hl => ?_)
            obtain ⟨v3_10, e_v3_10⟩ : ∃ y : Int32, y = v3_2 + (1 : Int32) := ⟨_, rfl⟩
            replace h := h v3_10 e_v3_10
            refine lv_iinc (v := v3_10) (lv' := [(3, .int v3_10), (2, .int v2_9), (0, .ref (q 0)), (1, .int a_1)]) hx hb dX5_litPlaces_48 hl (k := 1) rfl (by rw [e_v3_10]; rfl) (by decide) rfl (fun ls hl => ?_)
            refine lv_goto (tgt := 4) hx hb dX5_litPlaces_51 (by decide) ?_
            exact ih_1 v2_9 v3_10 ls h (lv_sub hl [0, 1, 2, 3] rfl)
        · replace h := h.2 c_13_3
          refine lv_aload_n hx hb dX5_litPlaces_16 rfl (lv_at hl 2 rfl) ?_
          refine lv_iload_n hx hb dX5_litPlaces_17 rfl (lv_at hl 0 rfl) ?_
          refine vp_callSi (W.runV (As := [.int v3_2]) (rest := [.int v2_1]) ⟨hx, hb, hml, hown, hts⟩ (kX5_lit l g q b_m b_written b_spare b_spareWritten b_states b_fifth b_oldest b_stateCount b_text b_textLength b_at b_read b_columns b_told b_wants b_comes v3_2 _ h) (cwV 1 hts gX5_litPlaces_X5_lit rfl rfl rfl hdX5_lit ⟨(Nat.le_of_ble_eq_true rfl), (Nat.le_of_ble_eq_true rfl)⟩) (preV_R (r := (RX5, TX5, 16)) hK hP (ci := 5) (q0 := 0) rfl rfl) rfl rfl hl.1 rfl (lv_room (Nat.le_of_ble_eq_true rfl)) dX5_litPlaces_18 ⟨(Nat.le_of_ble_eq_true rfl), (Nat.le_of_ble_eq_true rfl)⟩) (fun r18_11 h => ?_)
          refine lv_aload_n hx hb dX5_litPlaces_21 rfl (lv_at hl 2 rfl) ?_
          refine va_get (D := g.1) (ci := 5) (v := .ref (q 9)) (C := RX5) (T := TX5) (N := 16) hx hb hts iX5 hown hK.1 hP 0 rfl rfl 14 (by decide) (hts (.fieldLink RX5 34 "LightWheelModel" "wants" "[I") (by decide +kernel)) (fun _ h9 => h9) rfl dX5_litPlaces_22 ?_
          refine lv_iload_n hx hb dX5_litPlaces_25 rfl (lv_at hl 0 rfl) ?_
          have o_26_11 := h.1
          replace h := h.2
          refine va_iald hx hb hK.1 hP 9 0 rfl rfl o_26_11 dX5_litPlaces_26 ?_
          refine lv_icmp_ne (tgt := 45) hx hb dX5_litPlaces_27 (by decide) (fun c_27_12 => ?_) (fun c_27_12 => ?_)
          · replace h := h.1 c_27_12
            refine lv_iconst (v := (0 : Int32)) hx hb dX5_litPlaces_45 (by decide) ?_
            refine lv_iadd hx hb dX5_litPlaces_46 ?_
            refine lv_topi (fun v2_14 e_v2_14 => ?_)
            replace h := h v2_14 e_v2_14
            refine lv_istore_n (lv' := [(2, .int v2_14), (3, .int v3_2), (0, .ref (q 0)), (1, .int a_1)]) hx hb dX5_litPlaces_47 rfl hl (by decide) rfl (fun ls hl => ?_)
            obtain ⟨v3_15, e_v3_15⟩ : ∃ y : Int32, y = v3_2 + (1 : Int32) := ⟨_, rfl⟩
            replace h := h v3_15 e_v3_15
            refine lv_iinc (v := v3_15) (lv' := [(3, .int v3_15), (2, .int v2_14), (0, .ref (q 0)), (1, .int a_1)]) hx hb dX5_litPlaces_48 hl (k := 1) rfl (by rw [e_v3_15]; rfl) (by decide) rfl (fun ls hl => ?_)
            refine lv_goto (tgt := 4) hx hb dX5_litPlaces_51 (by decide) ?_
            exact ih_1 v2_14 v3_15 ls h (lv_sub hl [0, 1, 2, 3] rfl)
          · replace h := h.2 c_27_12
            refine lv_goto (tgt := 41) hx hb dX5_litPlaces_30 (by decide) ?_
            refine lv_iconst (v := (1 : Int32)) hx hb dX5_litPlaces_41 (by decide) ?_
            refine lv_goto (tgt := 46) hx hb dX5_litPlaces_42 (by decide) ?_
            refine lv_iadd hx hb dX5_litPlaces_46 ?_
            refine lv_topi (fun v2_16 e_v2_16 => ?_)
            replace h := h v2_16 e_v2_16
            refine lv_istore_n (lv' := [(2, .int v2_16), (3, .int v3_2), (0, .ref (q 0)), (1, .int a_1)]) hx hb dX5_litPlaces_47 rfl hl (by decide) rfl (fun ls hl => ?_)
            obtain ⟨v3_17, e_v3_17⟩ : ∃ y : Int32, y = v3_2 + (1 : Int32) := ⟨_, rfl⟩
            replace h := h v3_17 e_v3_17
            refine lv_iinc (v := v3_17) (lv' := [(3, .int v3_17), (2, .int v2_16), (0, .ref (q 0)), (1, .int a_1)]) hx hb dX5_litPlaces_48 hl (k := 1) rfl (by rw [e_v3_17]; rfl) (by decide) rfl (fun ls hl => ?_)
            refine lv_goto (tgt := 4) hx hb dX5_litPlaces_51 (by decide) ?_
            exact ih_1 v2_16 v3_17 ls h (lv_sub hl [0, 1, 2, 3] rfl)
  obtain ⟨n_1, h⟩ := h
  refine loop_1 _ ?_ n_1 (0 : Int32) (0 : Int32) ls h (lv_sub hl [0, 1, 2, 3] rfl)
  intro v2_1 v3_2 ls h hl
  refine lv_iload_n hx hb dX5_litPlaces_54 rfl (lv_at hl 1 rfl) ?_
  exact W.iret hx hb hr (fun t ht hW => ⟨v2_1, rfl, h, ht⟩) (fun _ h9 => by cases h9) dX5_litPlaces_55
theorem hdX5_setting : yX5_setting.cls = RX5 ∧ yX5_setting.cls ≠ "java/lang/invoke/MethodHandle" ∧ yX5_setting.cls ≠ "java/lang/invoke/VarHandle" ∧ (parseMethodDescriptor yX5_setting.desc).map (fun d => d.parameters.length) = some 1 := by decide +kernel
set_option maxHeartbeats 4000000 in
set_option maxRecDepth 100000 in
theorem kX5_setting (l : Launch) (g : GG) (q : Nat → Nat) (b_m : Nat → Int32) (b_written : Nat → Int32) (b_spare : Nat → Int32) (b_spareWritten : Nat → Int32) (b_states : Nat → Int32) (b_fifth : Nat → Int32) (b_oldest : Int32) (b_stateCount : Int32) (b_text : Nat → Int32) (b_textLength : Int32) (b_at : Int32) (b_read : Nat → Int32) (b_columns : Int32) (b_told : Int32) (b_wants : Nat → Int32) (b_comes : Nat → Int32) (a_1 : Int32) (k : Int32 → Prop) (h : PX5_setting b_m a_1 k) : Met l yX5_setting wsX5_setting ({ frames := 1, cells := 0, slots := 0, locals := 22 }) (PreR g [.ref (q 0), .int a_1] (wM g q b_m b_written b_spare b_spareWritten b_states b_fifth b_oldest b_stateCount b_text b_textLength b_at b_read b_columns b_told b_wants b_comes)) (vp_Si k) 0 0 (fun _ => False) := by
  refine Met.ofW (cc := cX5_setting) (maxL := 2) (ret := (some .int)) (by decide) rfl ?_
  intro p e s m args below meth c s₁ B hml hv
  obtain ⟨rfl, hP, hK⟩ := hv
  have hx := B.exec
  have hb := B.bytes
  have hr := B.returns
  have hts := atoms_spec (ws := wsX5_setting) B.pre
  have hown : s.vm.findClass RX5 = some m.cls := findClass_of_methodNamed B.named
  have hlocks := B.notSynchronized
  have iX5 : ∀ w ∈ wsX50, w ∈ wsX5_setting := by decide +kernel
  have hl := lv_entry ([.ref (q 0), .int a_1]) (n := 2) (Nat.le_of_ble_eq_true rfl)
  rw [lg_entry_eq]
  generalize (lg_sl ([.ref (q 0), .int a_1]) ++ List.replicate (2 - (lg_sl ([.ref (q 0), .int a_1])).length) Slot.unset).toArray = ls at hl ⊢
  have hl : lv_has ls 2 [(0, .ref (q 0)), (1, .int a_1)] := hl
  unfold PX5_setting at h
  refine lv_iload_n hx hb dX5_setting_0 rfl (lv_at hl 1 rfl) ?_
  refine lv_iconst (v := (0 : Int32)) hx hb dX5_setting_1 (by decide) ?_
  refine lv_iconst (v := (3 : Int32)) hx hb dX5_setting_2 (by decide) ?_
  refine vp_callSi (W.runS (As := [.int a_1, .int (0 : Int32), .int (3 : Int32)]) (rest := []) ⟨hx, hb, hml, hown, hts⟩ (kX5_in l g  a_1 (0 : Int32) (3 : Int32) _ h) (va_cwS 3 hts gX5_setting_X5_in rfl rfl rfl hdX5_in.2 ⟨(Nat.le_of_ble_eq_true rfl), (Nat.le_of_ble_eq_true rfl)⟩) (preS_R hK (va_P_nil (D := g.1) (cl := vwCl))) rfl rfl hl.1 rfl (lv_room (Nat.le_of_ble_eq_true rfl)) dX5_setting_3 ⟨(Nat.le_of_ble_eq_true rfl), (Nat.le_of_ble_eq_true rfl)⟩) (fun r3_1 h => ?_)
  refine lv_if_eq (tgt := 18) hx hb dX5_setting_6 (by decide) (fun c_6_1 => ?_) (fun c_6_1 => ?_)
  · replace h := h.1 c_6_1
    refine lv_bipush (v := (-101 : Int32)) hx hb dX5_setting_18 (by decide) ?_
    exact W.iret hx hb hr (fun t ht hW => ⟨(-101 : Int32), rfl, h, ht⟩) (fun _ h9 => by cases h9) dX5_setting_20
  · replace h := h.2 c_6_1
    refine lv_aload_n hx hb dX5_setting_9 rfl (lv_at hl 0 rfl) ?_
    refine va_get (D := g.1) (ci := 5) (v := .ref (q 1)) (C := RX5) (T := TX5) (N := 16) hx hb hts iX5 hown hK.1 hP 0 rfl rfl 0 (by decide) (hts (.fieldLink RX5 7 "LightWheelModel" "m" "[I") (by decide +kernel)) (fun _ h9 => h9) rfl dX5_setting_10 ?_
    refine lv_iload_n hx hb dX5_setting_13 rfl (lv_at hl 1 rfl) ?_
    have o_14_2 := h.1
    replace h := h.2
    refine va_iald hx hb hK.1 hP 1 0 rfl rfl o_14_2 dX5_setting_14 ?_
    refine lv_goto (tgt := 20) hx hb dX5_setting_15 (by decide) ?_
    exact W.iret hx hb hr (fun t ht hW => ⟨(b_m (Int32.toNatClampNeg a_1)), rfl, h, ht⟩) (fun _ h9 => by cases h9) dX5_setting_20
theorem hdX5_bright : yX5_bright.cls = RX5 ∧ yX5_bright.cls ≠ "java/lang/invoke/MethodHandle" ∧ yX5_bright.cls ≠ "java/lang/invoke/VarHandle" ∧ (parseMethodDescriptor yX5_bright.desc).map (fun d => d.parameters.length) = some 1 := by decide +kernel
set_option maxHeartbeats 4000000 in
set_option maxRecDepth 100000 in
theorem kX5_bright (l : Launch) (g : GG) (q : Nat → Nat) (b_m : Nat → Int32) (b_written : Nat → Int32) (b_spare : Nat → Int32) (b_spareWritten : Nat → Int32) (b_states : Nat → Int32) (b_fifth : Nat → Int32) (b_oldest : Int32) (b_stateCount : Int32) (b_text : Nat → Int32) (b_textLength : Int32) (b_at : Int32) (b_read : Nat → Int32) (b_columns : Int32) (b_told : Int32) (b_wants : Nat → Int32) (b_comes : Nat → Int32) (a_1 : Int32) (k : Int32 → Prop) (h : PX5_bright b_m a_1 k) : Met l yX5_bright wsX5_bright ({ frames := 2, cells := 0, slots := 0, locals := 45 }) (PreR g [.ref (q 0), .int a_1] (wM g q b_m b_written b_spare b_spareWritten b_states b_fifth b_oldest b_stateCount b_text b_textLength b_at b_read b_columns b_told b_wants b_comes)) (vp_Si k) 0 0 (fun _ => False) := by
  refine Met.ofW (cc := cX5_bright) (maxL := 4) (ret := (some .int)) (by decide) rfl ?_
  intro p e s m args below meth c s₁ B hml hv
  obtain ⟨rfl, hP, hK⟩ := hv
  have hx := B.exec
  have hb := B.bytes
  have hr := B.returns
  have hts := atoms_spec (ws := wsX5_bright) B.pre
  have hown : s.vm.findClass RX5 = some m.cls := findClass_of_methodNamed B.named
  have hlocks := B.notSynchronized
  have hl := lv_entry ([.ref (q 0), .int a_1]) (n := 4) (Nat.le_of_ble_eq_true rfl)
  rw [lg_entry_eq]
  generalize (lg_sl ([.ref (q 0), .int a_1]) ++ List.replicate (4 - (lg_sl ([.ref (q 0), .int a_1])).length) Slot.unset).toArray = ls at hl ⊢
  have hl : lv_has ls 4 [(0, .ref (q 0)), (1, .int a_1)] := hl
  unfold PX5_bright at h
  refine lv_iconst (v := (0 : Int32)) hx hb dX5_bright_0 (by decide) ?_
  refine lv_istore_n (lv' := [(2, .int (0 : Int32)), (0, .ref (q 0)), (1, .int a_1)]) hx hb dX5_bright_1 rfl hl (by decide) rfl (fun ls hl => ?_)
  refine lv_iconst (v := (0 : Int32)) hx hb dX5_bright_2 (by decide) ?_
  refine lv_istore_n (lv' := [(3, .int (0 : Int32)), (2, .int (0 : Int32)), (0, .ref (q 0)), (1, .int a_1)]) hx hb dX5_bright_3 rfl hl (by decide) rfl (fun ls hl => ?_)
  have loop_1 : ∀ (kx_1 : Int32 → Int32 → Prop), (∀ (v2_1 : Int32) (v3_2 : Int32) (ls : Array Slot), kx_1 v2_1 v3_2 → lv_has ls 4 [(3, .int v3_2), (2, .int v2_1), (0, .ref (q 0)), (1, .int a_1)] → W p l e (headSpec wsX5_bright ({ frames := 2, cells := 0, slots := 0, locals := 45 })).room s m ([.ref (q 0), .int a_1] : List Value).toArray below meth c s.heap [] 0 0 (MQ below (vp_Si k) ([.ref (q 0), .int a_1] : List Value).toArray s 0 0 (fun _ => False)) (F0 m 47 ls [])) → ∀ (n_1 : Nat) (v2_1 : Int32) (v3_2 : Int32) (ls : Array Slot), PX5_bright_L1 b_m a_1 kx_1 n_1 v2_1 v3_2 → lv_has ls 4 [(3, .int v3_2), (2, .int v2_1), (0, .ref (q 0)), (1, .int a_1)] → W p l e (headSpec wsX5_bright ({ frames := 2, cells := 0, slots := 0, locals := 45 })).room s m ([.ref (q 0), .int a_1] : List Value).toArray below meth c s.heap [] 0 0 (MQ below (vp_Si k) ([.ref (q 0), .int a_1] : List Value).toArray s 0 0 (fun _ => False)) (F0 m 4 ls []) := by
    intro kx_1 hexit_1 n_1
    induction n_1 with
    | zero => exact fun _ _ _ h _ => (h : False).elim
    | succ n_1 ih_1 =>
      intro v2_1 v3_2 ls h hl
      unfold PX5_bright_L1 at h
      refine lv_iload_n hx hb dX5_bright_4 rfl (lv_at hl 0 rfl) ?_
      refine lv_bipush (v := (12 : Int32)) hx hb dX5_bright_5 (by decide) ?_
      refine lv_aload_n hx hb dX5_bright_7 rfl (lv_at hl 2 rfl) ?_
      refine lv_iload_n hx hb dX5_bright_8 rfl (lv_at hl 3 rfl) ?_
      refine lv_iconst (v := (0 : Int32)) hx hb dX5_bright_9 (by decide) ?_
      refine vp_callSi (W.runV (As := [.int a_1, .int (0 : Int32)]) (rest := [.int (12 : Int32), .int v3_2]) ⟨hx, hb, hml, hown, hts⟩ (kX5_of l g q b_m b_written b_spare b_spareWritten b_states b_fifth b_oldest b_stateCount b_text b_textLength b_at b_read b_columns b_told b_wants b_comes a_1 (0 : Int32) _ h) (cwV 2 hts gX5_bright_X5_of rfl rfl rfl hdX5_of ⟨(Nat.le_of_ble_eq_true rfl), (Nat.le_of_ble_eq_true rfl)⟩) (preV_R (r := (RX5, TX5, 16)) hK hP (ci := 5) (q0 := 0) rfl rfl) rfl rfl hl.1 rfl (lv_room (Nat.le_of_ble_eq_true rfl)) dX5_bright_10 ⟨(Nat.le_of_ble_eq_true rfl), (Nat.le_of_ble_eq_true rfl)⟩) (fun r10_3 h => ?_)
      refine lv_imul hx hb dX5_bright_13 ?_
      refine lv_icmp_ge (tgt := 47) hx hb dX5_bright_14 (by decide) (fun c_14_3 => ?_) (fun c_14_3 => ?_)
      · replace h := h.1 c_14_3
        exact hexit_1 v2_1 v3_2 ls h (lv_sub hl [0, 1, 2, 3] rfl)
      · replace h := h.2 c_14_3
        refine lv_iload_n hx hb dX5_bright_17 rfl (lv_at hl 1 rfl) ?_
        refine lv_aload_n hx hb dX5_bright_18 rfl (lv_at hl 2 rfl) ?_
        refine lv_iload_n hx hb dX5_bright_19 rfl (lv_at hl 3 rfl) ?_
        refine lv_iload_n hx hb dX5_bright_20 rfl (lv_at hl 0 rfl) ?_
        refine lv_bipush (v := (12 : Int32)) hx hb dX5_bright_21 (by decide) ?_
        refine lv_idiv hx hb dX5_bright_23 (by decide) ?_
        refine lv_iload_n hx hb dX5_bright_24 rfl (lv_at hl 0 rfl) ?_
        refine lv_bipush (v := (12 : Int32)) hx hb dX5_bright_25 (by decide) ?_
        refine lv_irem hx hb dX5_bright_27 (by decide) ?_
        refine vp_callSi (W.runV (As := [.int a_1, .int (v3_2 / (12 : Int32)), .int (v3_2 - v3_2 / (12 : Int32) * (12 : Int32))]) (rest := [.int v2_1]) ⟨hx, hb, hml, hown, hts⟩ (kX5_colorOf l g q b_m b_written b_spare b_spareWritten b_states b_fifth b_oldest b_stateCount b_text b_textLength b_at b_read b_columns b_told b_wants b_comes a_1 (v3_2 / (12 : Int32)) (v3_2 - v3_2 / (12 : Int32) * (12 : Int32)) _ h) (cwV 3 hts gX5_bright_X5_colorOf rfl rfl rfl hdX5_colorOf ⟨(Nat.le_of_ble_eq_true rfl), (Nat.le_of_ble_eq_true rfl)⟩) (preV_R (r := (RX5, TX5, 16)) hK hP (ci := 5) (q0 := 0) rfl rfl) rfl rfl hl.1 rfl (lv_room (Nat.le_of_ble_eq_true rfl)) dX5_bright_28 ⟨(Nat.le_of_ble_eq_true rfl), (Nat.le_of_ble_eq_true rfl)⟩) (fun r28_5 h => ?_)
        refine lv_if_ne (tgt := 38) hx hb dX5_bright_31 (by decide) (fun c_31_5 => ?_) (fun c_31_5 => ?_)
        · replace h := h.1 c_31_5
          refine lv_iconst (v := (1 : Int32)) hx hb dX5_bright_38 (by decide) ?_
          refine lv_iadd hx hb dX5_bright_39 ?_
          refine lv_topi (fun v2_7 e_v2_7 => ?_)
          replace h := h v2_7 e_v2_7
          refine lv_istore_n (lv' := [(2, .int v2_7), (3, .int v3_2), (0, .ref (q 0)), (1, .int a_1)]) hx hb dX5_bright_40 rfl hl (by decide) rfl (fun ls hl => ?_)
          obtain ⟨v3_8, e_v3_8⟩ : ∃ y : Int32, y = v3_2 + (1 : Int32) := ⟨_, rfl⟩
          replace h := h v3_8 e_v3_8
          refine lv_iinc (v := v3_8) (lv' := [(3, .int v3_8), (2, .int v2_7), (0, .ref (q 0)), (1, .int a_1)]) hx hb dX5_bright_41 hl (k := 1) rfl (by rw [e_v3_8]; rfl) (by decide) rfl (fun ls hl => ?_)
          refine lv_goto (tgt := 4) hx hb dX5_bright_44 (by decide) ?_
          exact ih_1 v2_7 v3_8 ls h (lv_sub hl [0, 1, 2, 3] rfl)
        · replace h := h.2 c_31_5
          refine lv_iconst (v := (0 : Int32)) hx hb dX5_bright_34 (by decide) ?_
          refine lv_goto (tgt := 39) hx hb dX5_bright_35 (by decide) ?_
          refine lv_iadd hx hb dX5_bright_39 ?_
          refine lv_topi (fun v2_9 e_v2_9 => ?_)
          replace h := h v2_9 e_v2_9
          refine lv_istore_n (lv' := [(2, .int v2_9), (3, .int v3_2), (0, .ref (q 0)), (1, .int a_1)]) hx hb dX5_bright_40 rfl hl (by decide) rfl (fun ls hl => ?_)
          obtain ⟨v3_10, e_v3_10⟩ : ∃ y : Int32, y = v3_2 + (1 : Int32) := ⟨_, rfl⟩
          replace h := h v3_10 e_v3_10
          refine lv_iinc (v := v3_10) (lv' := [(3, .int v3_10), (2, .int v2_9), (0, .ref (q 0)), (1, .int a_1)]) hx hb dX5_bright_41 hl (k := 1) rfl (by rw [e_v3_10]; rfl) (by decide) rfl (fun ls hl => ?_)
          refine lv_goto (tgt := 4) hx hb dX5_bright_44 (by decide) ?_
          exact ih_1 v2_9 v3_10 ls h (lv_sub hl [0, 1, 2, 3] rfl)
  obtain ⟨n_1, h⟩ := h
  refine loop_1 _ ?_ n_1 (0 : Int32) (0 : Int32) ls h (lv_sub hl [0, 1, 2, 3] rfl)
  intro v2_1 v3_2 ls h hl
  refine lv_iload_n hx hb dX5_bright_47 rfl (lv_at hl 1 rfl) ?_
  exact W.iret hx hb hr (fun t ht hW => ⟨v2_1, rfl, h, ht⟩) (fun _ h9 => by cases h9) dX5_bright_48
theorem hdX5_picture : yX5_picture.cls = RX5 ∧ yX5_picture.cls ≠ "java/lang/invoke/MethodHandle" ∧ yX5_picture.cls ≠ "java/lang/invoke/VarHandle" ∧ (parseMethodDescriptor yX5_picture.desc).map (fun d => d.parameters.length) = some 2 := by decide +kernel
set_option maxHeartbeats 4000000 in
set_option maxRecDepth 100000 in
theorem kX5_picture (l : Launch) (g : GG) (q : Nat → Nat) (b_m : Nat → Int32) (b_written : Nat → Int32) (b_spare : Nat → Int32) (b_spareWritten : Nat → Int32) (b_states : Nat → Int32) (b_fifth : Nat → Int32) (b_oldest : Int32) (b_stateCount : Int32) (b_text : Nat → Int32) (b_textLength : Int32) (b_at : Int32) (b_read : Nat → Int32) (b_columns : Int32) (b_told : Int32) (b_wants : Nat → Int32) (b_comes : Nat → Int32) (a_1 : Int32) (a_2 : Int32) (k : Int32 → Prop) (h : PX5_picture b_m a_1 a_2 k) : Met l yX5_picture wsX5_picture ({ frames := 3, cells := 0, slots := 0, locals := 68 }) (PreR g [.ref (q 0), .int a_1, .int a_2] (wM g q b_m b_written b_spare b_spareWritten b_states b_fifth b_oldest b_stateCount b_text b_textLength b_at b_read b_columns b_told b_wants b_comes)) (vp_Si k) 0 0 (fun _ => False) := by
  refine Met.ofW (cc := cX5_picture) (maxL := 3) (ret := (some .int)) (by decide) rfl ?_
  intro p e s m args below meth c s₁ B hml hv
  obtain ⟨rfl, hP, hK⟩ := hv
  have hx := B.exec
  have hb := B.bytes
  have hr := B.returns
  have hts := atoms_spec (ws := wsX5_picture) B.pre
  have hown : s.vm.findClass RX5 = some m.cls := findClass_of_methodNamed B.named
  have hlocks := B.notSynchronized
  have hl := lv_entry ([.ref (q 0), .int a_1, .int a_2]) (n := 3) (Nat.le_of_ble_eq_true rfl)
  rw [lg_entry_eq]
  generalize (lg_sl ([.ref (q 0), .int a_1, .int a_2]) ++ List.replicate (3 - (lg_sl ([.ref (q 0), .int a_1, .int a_2])).length) Slot.unset).toArray = ls at hl ⊢
  have hl : lv_has ls 3 [(0, .ref (q 0)), (1, .int a_1), (2, .int a_2)] := hl
  unfold PX5_picture at h
  refine lv_aload_n hx hb dX5_picture_0 rfl (lv_at hl 0 rfl) ?_
  refine lv_iload_n hx hb dX5_picture_1 rfl (lv_at hl 1 rfl) ?_
  refine vp_callSi (W.runV (As := [.int a_1]) (rest := []) ⟨hx, hb, hml, hown, hts⟩ (kX5_isPicture l g q b_m b_written b_spare b_spareWritten b_states b_fifth b_oldest b_stateCount b_text b_textLength b_at b_read b_columns b_told b_wants b_comes a_1 _ h) (cwV 1 hts gX5_picture_X5_isPicture rfl rfl rfl hdX5_isPicture ⟨(Nat.le_of_ble_eq_true rfl), (Nat.le_of_ble_eq_true rfl)⟩) (preV_R (r := (RX5, TX5, 16)) hK hP (ci := 5) (q0 := 0) rfl rfl) rfl rfl hl.1 rfl (lv_room (Nat.le_of_ble_eq_true rfl)) dX5_picture_2 ⟨(Nat.le_of_ble_eq_true rfl), (Nat.le_of_ble_eq_true rfl)⟩) (fun r2_1 h => ?_)
  refine lv_if_eq (tgt := 17) hx hb dX5_picture_5 (by decide) (fun c_5_1 => ?_) (fun c_5_1 => ?_)
  · replace h := h.1 c_5_1
    refine lv_bipush (v := (-101 : Int32)) hx hb dX5_picture_17 (by decide) ?_
    exact W.iret hx hb hr (fun t ht hW => ⟨(-101 : Int32), rfl, h, ht⟩) (fun _ h9 => by cases h9) dX5_picture_19
  · replace h := h.2 c_5_1
    refine lv_iload_n hx hb dX5_picture_8 rfl (lv_at hl 2 rfl) ?_
    refine lv_iconst (v := (0 : Int32)) hx hb dX5_picture_9 (by decide) ?_
    refine lv_iconst (v := (5 : Int32)) hx hb dX5_picture_10 (by decide) ?_
    refine vp_callSi (W.runS (As := [.int a_2, .int (0 : Int32), .int (5 : Int32)]) (rest := []) ⟨hx, hb, hml, hown, hts⟩ (kX5_in l g  a_2 (0 : Int32) (5 : Int32) _ h) (va_cwS 3 hts gX5_picture_X5_in rfl rfl rfl hdX5_in.2 ⟨(Nat.le_of_ble_eq_true rfl), (Nat.le_of_ble_eq_true rfl)⟩) (preS_R hK (va_P_nil (D := g.1) (cl := vwCl))) rfl rfl hl.1 rfl (lv_room (Nat.le_of_ble_eq_true rfl)) dX5_picture_11 ⟨(Nat.le_of_ble_eq_true rfl), (Nat.le_of_ble_eq_true rfl)⟩) (fun r11_3 h => ?_)
    refine lv_if_ne (tgt := 20) hx hb dX5_picture_14 (by decide) (fun c_14_3 => ?_) (fun c_14_3 => ?_)
    · replace h := h.1 c_14_3
      refine lv_iload_n hx hb dX5_picture_20 rfl (lv_at hl 2 rfl) ?_
      refine lv_iconst (v := (4 : Int32)) hx hb dX5_picture_21 (by decide) ?_
      refine lv_icmp_ge (tgt := 34) hx hb dX5_picture_22 (by decide) (fun c_22_4 => ?_) (fun c_22_4 => ?_)
      · replace h := h.1 c_22_4
        refine lv_iload_n hx hb dX5_picture_34 rfl (lv_at hl 2 rfl) ?_
        refine lv_iconst (v := (4 : Int32)) hx hb dX5_picture_35 (by decide) ?_
        refine lv_icmp_ne (tgt := 47) hx hb dX5_picture_36 (by decide) (fun c_36_5 => ?_) (fun c_36_5 => ?_)
        · replace h := h.1 c_36_5
          refine lv_aload_n hx hb dX5_picture_47 rfl (lv_at hl 0 rfl) ?_
          refine lv_iload_n hx hb dX5_picture_48 rfl (lv_at hl 1 rfl) ?_
          refine vp_callSi (W.runV (As := [.int a_1]) (rest := []) ⟨hx, hb, hml, hown, hts⟩ (kX5_covered l g q b_m b_written b_spare b_spareWritten b_states b_fifth b_oldest b_stateCount b_text b_textLength b_at b_read b_columns b_told b_wants b_comes a_1 _ h) (cwV 1 hts gX5_picture_X5_covered rfl rfl rfl hdX5_covered ⟨(Nat.le_of_ble_eq_true rfl), (Nat.le_of_ble_eq_true rfl)⟩) (preV_R (r := (RX5, TX5, 16)) hK hP (ci := 5) (q0 := 0) rfl rfl) rfl rfl hl.1 rfl (lv_room (Nat.le_of_ble_eq_true rfl)) dX5_picture_49 ⟨(Nat.le_of_ble_eq_true rfl), (Nat.le_of_ble_eq_true rfl)⟩) (fun r49_7 h => ?_)
          exact W.iret hx hb hr (fun t ht hW => ⟨r49_7, rfl, h, ht⟩) (fun _ h9 => by cases h9) dX5_picture_52
        · replace h := h.2 c_36_5
          refine lv_aload_n hx hb dX5_picture_39 rfl (lv_at hl 0 rfl) ?_
          refine lv_iload_n hx hb dX5_picture_40 rfl (lv_at hl 1 rfl) ?_
          refine vp_callSi (W.runV (As := [.int a_1]) (rest := []) ⟨hx, hb, hml, hown, hts⟩ (kX5_bright l g q b_m b_written b_spare b_spareWritten b_states b_fifth b_oldest b_stateCount b_text b_textLength b_at b_read b_columns b_told b_wants b_comes a_1 _ h) (cwV 1 hts gX5_picture_X5_bright rfl rfl rfl hdX5_bright ⟨(Nat.le_of_ble_eq_true rfl), (Nat.le_of_ble_eq_true rfl)⟩) (preV_R (r := (RX5, TX5, 16)) hK hP (ci := 5) (q0 := 0) rfl rfl) rfl rfl hl.1 rfl (lv_room (Nat.le_of_ble_eq_true rfl)) dX5_picture_41 ⟨(Nat.le_of_ble_eq_true rfl), (Nat.le_of_ble_eq_true rfl)⟩) (fun r41_8 h => ?_)
          refine lv_goto (tgt := 52) hx hb dX5_picture_44 (by decide) ?_
          exact W.iret hx hb hr (fun t ht hW => ⟨r41_8, rfl, h, ht⟩) (fun _ h9 => by cases h9) dX5_picture_52
      · replace h := h.2 c_22_4
        refine lv_aload_n hx hb dX5_picture_25 rfl (lv_at hl 0 rfl) ?_
        refine lv_iload_n hx hb dX5_picture_26 rfl (lv_at hl 1 rfl) ?_
        refine lv_iload_n hx hb dX5_picture_27 rfl (lv_at hl 2 rfl) ?_
        refine vp_callSi (W.runV (As := [.int a_1, .int a_2]) (rest := []) ⟨hx, hb, hml, hown, hts⟩ (kX5_of l g q b_m b_written b_spare b_spareWritten b_states b_fifth b_oldest b_stateCount b_text b_textLength b_at b_read b_columns b_told b_wants b_comes a_1 a_2 _ h) (cwV 2 hts gX5_picture_X5_of rfl rfl rfl hdX5_of ⟨(Nat.le_of_ble_eq_true rfl), (Nat.le_of_ble_eq_true rfl)⟩) (preV_R (r := (RX5, TX5, 16)) hK hP (ci := 5) (q0 := 0) rfl rfl) rfl rfl hl.1 rfl (lv_room (Nat.le_of_ble_eq_true rfl)) dX5_picture_28 ⟨(Nat.le_of_ble_eq_true rfl), (Nat.le_of_ble_eq_true rfl)⟩) (fun r28_9 h => ?_)
        refine lv_goto (tgt := 52) hx hb dX5_picture_31 (by decide) ?_
        exact W.iret hx hb hr (fun t ht hW => ⟨r28_9, rfl, h, ht⟩) (fun _ h9 => by cases h9) dX5_picture_52
    · replace h := h.2 c_14_3
      refine lv_bipush (v := (-101 : Int32)) hx hb dX5_picture_17 (by decide) ?_
      exact W.iret hx hb hr (fun t ht hW => ⟨(-101 : Int32), rfl, h, ht⟩) (fun _ h9 => by cases h9) dX5_picture_19
theorem hdX5_color : yX5_color.cls = RX5 ∧ yX5_color.cls ≠ "java/lang/invoke/MethodHandle" ∧ yX5_color.cls ≠ "java/lang/invoke/VarHandle" ∧ (parseMethodDescriptor yX5_color.desc).map (fun d => d.parameters.length) = some 3 := by decide +kernel
set_option maxHeartbeats 4000000 in
set_option maxRecDepth 100000 in
theorem kX5_color (l : Launch) (g : GG) (q : Nat → Nat) (b_m : Nat → Int32) (b_written : Nat → Int32) (b_spare : Nat → Int32) (b_spareWritten : Nat → Int32) (b_states : Nat → Int32) (b_fifth : Nat → Int32) (b_oldest : Int32) (b_stateCount : Int32) (b_text : Nat → Int32) (b_textLength : Int32) (b_at : Int32) (b_read : Nat → Int32) (b_columns : Int32) (b_told : Int32) (b_wants : Nat → Int32) (b_comes : Nat → Int32) (a_1 : Int32) (a_2 : Int32) (a_3 : Int32) (k : Int32 → Prop) (h : PX5_color b_m a_1 a_2 a_3 k) : Met l yX5_color wsX5_color ({ frames := 2, cells := 0, slots := 0, locals := 45 }) (PreR g [.ref (q 0), .int a_1, .int a_2, .int a_3] (wM g q b_m b_written b_spare b_spareWritten b_states b_fifth b_oldest b_stateCount b_text b_textLength b_at b_read b_columns b_told b_wants b_comes)) (vp_Si k) 0 0 (fun _ => False) := by
  refine Met.ofW (cc := cX5_color) (maxL := 4) (ret := (some .int)) (by decide) rfl ?_
  intro p e s m args below meth c s₁ B hml hv
  obtain ⟨rfl, hP, hK⟩ := hv
  have hx := B.exec
  have hb := B.bytes
  have hr := B.returns
  have hts := atoms_spec (ws := wsX5_color) B.pre
  have hown : s.vm.findClass RX5 = some m.cls := findClass_of_methodNamed B.named
  have hlocks := B.notSynchronized
  have hl := lv_entry ([.ref (q 0), .int a_1, .int a_2, .int a_3]) (n := 4) (Nat.le_of_ble_eq_true rfl)
  rw [lg_entry_eq]
  generalize (lg_sl ([.ref (q 0), .int a_1, .int a_2, .int a_3]) ++ List.replicate (4 - (lg_sl ([.ref (q 0), .int a_1, .int a_2, .int a_3])).length) Slot.unset).toArray = ls at hl ⊢
  have hl : lv_has ls 4 [(0, .ref (q 0)), (1, .int a_1), (2, .int a_2), (3, .int a_3)] := hl
  unfold PX5_color at h
  refine lv_aload_n hx hb dX5_color_0 rfl (lv_at hl 0 rfl) ?_
  refine lv_iload_n hx hb dX5_color_1 rfl (lv_at hl 1 rfl) ?_
  refine vp_callSi (W.runV (As := [.int a_1]) (rest := []) ⟨hx, hb, hml, hown, hts⟩ (kX5_isPicture l g q b_m b_written b_spare b_spareWritten b_states b_fifth b_oldest b_stateCount b_text b_textLength b_at b_read b_columns b_told b_wants b_comes a_1 _ h) (cwV 1 hts gX5_color_X5_isPicture rfl rfl rfl hdX5_isPicture ⟨(Nat.le_of_ble_eq_true rfl), (Nat.le_of_ble_eq_true rfl)⟩) (preV_R (r := (RX5, TX5, 16)) hK hP (ci := 5) (q0 := 0) rfl rfl) rfl rfl hl.1 rfl (lv_room (Nat.le_of_ble_eq_true rfl)) dX5_color_2 ⟨(Nat.le_of_ble_eq_true rfl), (Nat.le_of_ble_eq_true rfl)⟩) (fun r2_1 h => ?_)
  refine lv_if_eq (tgt := 25) hx hb dX5_color_5 (by decide) (fun c_5_1 => ?_) (fun c_5_1 => ?_)
  · replace h := h.1 c_5_1
    refine lv_bipush (v := (-101 : Int32)) hx hb dX5_color_25 (by decide) ?_
    exact W.iret hx hb hr (fun t ht hW => ⟨(-101 : Int32), rfl, h, ht⟩) (fun _ h9 => by cases h9) dX5_color_27
  · replace h := h.2 c_5_1
    refine lv_iload_n hx hb dX5_color_8 rfl (lv_at hl 2 rfl) ?_
    refine lv_iconst (v := (0 : Int32)) hx hb dX5_color_9 (by decide) ?_
    refine lv_bipush (v := (39 : Int32)) hx hb dX5_color_10 (by decide) ?_
    refine vp_callSi (W.runS (As := [.int a_2, .int (0 : Int32), .int (39 : Int32)]) (rest := []) ⟨hx, hb, hml, hown, hts⟩ (kX5_in l g  a_2 (0 : Int32) (39 : Int32) _ h) (va_cwS 3 hts gX5_color_X5_in rfl rfl rfl hdX5_in.2 ⟨(Nat.le_of_ble_eq_true rfl), (Nat.le_of_ble_eq_true rfl)⟩) (preS_R hK (va_P_nil (D := g.1) (cl := vwCl))) rfl rfl hl.1 rfl (lv_room (Nat.le_of_ble_eq_true rfl)) dX5_color_12 ⟨(Nat.le_of_ble_eq_true rfl), (Nat.le_of_ble_eq_true rfl)⟩) (fun r12_3 h => ?_)
    refine lv_if_eq (tgt := 25) hx hb dX5_color_15 (by decide) (fun c_15_3 => ?_) (fun c_15_3 => ?_)
    · replace h := h.1 c_15_3
      refine lv_bipush (v := (-101 : Int32)) hx hb dX5_color_25 (by decide) ?_
      exact W.iret hx hb hr (fun t ht hW => ⟨(-101 : Int32), rfl, h, ht⟩) (fun _ h9 => by cases h9) dX5_color_27
    · replace h := h.2 c_15_3
      refine lv_iload_n hx hb dX5_color_18 rfl (lv_at hl 3 rfl) ?_
      refine vp_callSi (W.runS (As := [.int a_3]) (rest := []) ⟨hx, hb, hml, hown, hts⟩ (kX5_isLight l g  a_3 _ h) (va_cwS 1 hts gX5_color_X5_isLight rfl rfl rfl hdX5_isLight.2 ⟨(Nat.le_of_ble_eq_true rfl), (Nat.le_of_ble_eq_true rfl)⟩) (preS_R hK (va_P_nil (D := g.1) (cl := vwCl))) rfl rfl hl.1 rfl (lv_room (Nat.le_of_ble_eq_true rfl)) dX5_color_19 ⟨(Nat.le_of_ble_eq_true rfl), (Nat.le_of_ble_eq_true rfl)⟩) (fun r19_5 h => ?_)
      refine lv_if_ne (tgt := 28) hx hb dX5_color_22 (by decide) (fun c_22_5 => ?_) (fun c_22_5 => ?_)
      · replace h := h.1 c_22_5
        refine lv_iload_n hx hb dX5_color_28 rfl (lv_at hl 2 rfl) ?_
        refine lv_aload_n hx hb dX5_color_29 rfl (lv_at hl 0 rfl) ?_
        refine lv_iload_n hx hb dX5_color_30 rfl (lv_at hl 1 rfl) ?_
        refine lv_iconst (v := (0 : Int32)) hx hb dX5_color_31 (by decide) ?_
        refine vp_callSi (W.runV (As := [.int a_1, .int (0 : Int32)]) (rest := [.int a_2]) ⟨hx, hb, hml, hown, hts⟩ (kX5_of l g q b_m b_written b_spare b_spareWritten b_states b_fifth b_oldest b_stateCount b_text b_textLength b_at b_read b_columns b_told b_wants b_comes a_1 (0 : Int32) _ h) (cwV 2 hts gX5_color_X5_of rfl rfl rfl hdX5_of ⟨(Nat.le_of_ble_eq_true rfl), (Nat.le_of_ble_eq_true rfl)⟩) (preV_R (r := (RX5, TX5, 16)) hK hP (ci := 5) (q0 := 0) rfl rfl) rfl rfl hl.1 rfl (lv_room (Nat.le_of_ble_eq_true rfl)) dX5_color_32 ⟨(Nat.le_of_ble_eq_true rfl), (Nat.le_of_ble_eq_true rfl)⟩) (fun r32_7 h => ?_)
        refine lv_icmp_ge (tgt := 48) hx hb dX5_color_35 (by decide) (fun c_35_7 => ?_) (fun c_35_7 => ?_)
        · replace h := h.1 c_35_7
          refine lv_bipush (v := (-109 : Int32)) hx hb dX5_color_48 (by decide) ?_
          exact W.iret hx hb hr (fun t ht hW => ⟨(-109 : Int32), rfl, h, ht⟩) (fun _ h9 => by cases h9) dX5_color_50
        · replace h := h.2 c_35_7
          refine lv_aload_n hx hb dX5_color_38 rfl (lv_at hl 0 rfl) ?_
          refine lv_iload_n hx hb dX5_color_39 rfl (lv_at hl 1 rfl) ?_
          refine lv_iload_n hx hb dX5_color_40 rfl (lv_at hl 2 rfl) ?_
          refine lv_iload_n hx hb dX5_color_41 rfl (lv_at hl 3 rfl) ?_
          refine vp_callSi (W.runV (As := [.int a_1, .int a_2, .int a_3]) (rest := []) ⟨hx, hb, hml, hown, hts⟩ (kX5_colorOf l g q b_m b_written b_spare b_spareWritten b_states b_fifth b_oldest b_stateCount b_text b_textLength b_at b_read b_columns b_told b_wants b_comes a_1 a_2 a_3 _ h) (cwV 3 hts gX5_color_X5_colorOf rfl rfl rfl hdX5_colorOf ⟨(Nat.le_of_ble_eq_true rfl), (Nat.le_of_ble_eq_true rfl)⟩) (preV_R (r := (RX5, TX5, 16)) hK hP (ci := 5) (q0 := 0) rfl rfl) rfl rfl hl.1 rfl (lv_room (Nat.le_of_ble_eq_true rfl)) dX5_color_42 ⟨(Nat.le_of_ble_eq_true rfl), (Nat.le_of_ble_eq_true rfl)⟩) (fun r42_9 h => ?_)
          refine lv_goto (tgt := 50) hx hb dX5_color_45 (by decide) ?_
          exact W.iret hx hb hr (fun t ht hW => ⟨r42_9, rfl, h, ht⟩) (fun _ h9 => by cases h9) dX5_color_50
      · replace h := h.2 c_22_5
        refine lv_bipush (v := (-101 : Int32)) hx hb dX5_color_25 (by decide) ?_
        exact W.iret hx hb hr (fun t ht hW => ⟨(-101 : Int32), rfl, h, ht⟩) (fun _ h9 => by cases h9) dX5_color_27
theorem hdX5_broken : yX5_broken.cls = RX5 ∧ yX5_broken.cls ≠ "java/lang/invoke/MethodHandle" ∧ yX5_broken.cls ≠ "java/lang/invoke/VarHandle" ∧ (parseMethodDescriptor yX5_broken.desc).map (fun d => d.parameters.length) = some 2 := by decide +kernel
set_option maxHeartbeats 4000000 in
set_option maxRecDepth 100000 in
theorem kX5_broken (l : Launch) (g : GG) (q : Nat → Nat) (b_m : Nat → Int32) (b_written : Nat → Int32) (b_spare : Nat → Int32) (b_spareWritten : Nat → Int32) (b_states : Nat → Int32) (b_fifth : Nat → Int32) (b_oldest : Int32) (b_stateCount : Int32) (b_text : Nat → Int32) (b_textLength : Int32) (b_at : Int32) (b_read : Nat → Int32) (b_columns : Int32) (b_told : Int32) (b_wants : Nat → Int32) (b_comes : Nat → Int32) (a_1 : Int32) (a_2 : Int32) (k : Int32 → Prop) (h : PX5_broken b_m a_1 a_2 k) : Met l yX5_broken wsX5_broken ({ frames := 2, cells := 0, slots := 0, locals := 42 }) (PreR g [.ref (q 0), .int a_1, .int a_2] (wM g q b_m b_written b_spare b_spareWritten b_states b_fifth b_oldest b_stateCount b_text b_textLength b_at b_read b_columns b_told b_wants b_comes)) (vp_Si k) 0 0 (fun _ => False) := by
  refine Met.ofW (cc := cX5_broken) (maxL := 3) (ret := (some .int)) (by decide) rfl ?_
  intro p e s m args below meth c s₁ B hml hv
  obtain ⟨rfl, hP, hK⟩ := hv
  have hx := B.exec
  have hb := B.bytes
  have hr := B.returns
  have hts := atoms_spec (ws := wsX5_broken) B.pre
  have hown : s.vm.findClass RX5 = some m.cls := findClass_of_methodNamed B.named
  have hlocks := B.notSynchronized
  have hl := lv_entry ([.ref (q 0), .int a_1, .int a_2]) (n := 3) (Nat.le_of_ble_eq_true rfl)
  rw [lg_entry_eq]
  generalize (lg_sl ([.ref (q 0), .int a_1, .int a_2]) ++ List.replicate (3 - (lg_sl ([.ref (q 0), .int a_1, .int a_2])).length) Slot.unset).toArray = ls at hl ⊢
  have hl : lv_has ls 3 [(0, .ref (q 0)), (1, .int a_1), (2, .int a_2)] := hl
  unfold PX5_broken at h
  refine lv_iload_n hx hb dX5_broken_0 rfl (lv_at hl 1 rfl) ?_
  refine lv_iconst (v := (0 : Int32)) hx hb dX5_broken_1 (by decide) ?_
  refine lv_iconst (v := (1 : Int32)) hx hb dX5_broken_2 (by decide) ?_
  refine vp_callSi (W.runS (As := [.int a_1, .int (0 : Int32), .int (1 : Int32)]) (rest := []) ⟨hx, hb, hml, hown, hts⟩ (kX5_in l g  a_1 (0 : Int32) (1 : Int32) _ h) (va_cwS 3 hts gX5_broken_X5_in rfl rfl rfl hdX5_in.2 ⟨(Nat.le_of_ble_eq_true rfl), (Nat.le_of_ble_eq_true rfl)⟩) (preS_R hK (va_P_nil (D := g.1) (cl := vwCl))) rfl rfl hl.1 rfl (lv_room (Nat.le_of_ble_eq_true rfl)) dX5_broken_3 ⟨(Nat.le_of_ble_eq_true rfl), (Nat.le_of_ble_eq_true rfl)⟩) (fun r3_1 h => ?_)
  refine lv_if_eq (tgt := 16) hx hb dX5_broken_6 (by decide) (fun c_6_1 => ?_) (fun c_6_1 => ?_)
  · replace h := h.1 c_6_1
    refine lv_bipush (v := (-101 : Int32)) hx hb dX5_broken_16 (by decide) ?_
    exact W.iret hx hb hr (fun t ht hW => ⟨(-101 : Int32), rfl, h, ht⟩) (fun _ h9 => by cases h9) dX5_broken_18
  · replace h := h.2 c_6_1
    refine lv_iload_n hx hb dX5_broken_9 rfl (lv_at hl 2 rfl) ?_
    refine vp_callSi (W.runS (As := [.int a_2]) (rest := []) ⟨hx, hb, hml, hown, hts⟩ (kX5_isLight l g  a_2 _ h) (va_cwS 1 hts gX5_broken_X5_isLight rfl rfl rfl hdX5_isLight.2 ⟨(Nat.le_of_ble_eq_true rfl), (Nat.le_of_ble_eq_true rfl)⟩) (preS_R hK (va_P_nil (D := g.1) (cl := vwCl))) rfl rfl hl.1 rfl (lv_room (Nat.le_of_ble_eq_true rfl)) dX5_broken_10 ⟨(Nat.le_of_ble_eq_true rfl), (Nat.le_of_ble_eq_true rfl)⟩) (fun r10_3 h => ?_)
    refine lv_if_ne (tgt := 19) hx hb dX5_broken_13 (by decide) (fun c_13_3 => ?_) (fun c_13_3 => ?_)
    · replace h := h.1 c_13_3
      refine lv_aload_n hx hb dX5_broken_19 rfl (lv_at hl 0 rfl) ?_
      refine lv_iload_n hx hb dX5_broken_20 rfl (lv_at hl 1 rfl) ?_
      refine lv_iload_n hx hb dX5_broken_21 rfl (lv_at hl 2 rfl) ?_
      refine vp_callSi (W.runV (As := [.int a_1, .int a_2]) (rest := []) ⟨hx, hb, hml, hown, hts⟩ (kX5_isBroken l g q b_m b_written b_spare b_spareWritten b_states b_fifth b_oldest b_stateCount b_text b_textLength b_at b_read b_columns b_told b_wants b_comes a_1 a_2 _ h) (cwV 2 hts gX5_broken_X5_isBroken rfl rfl rfl hdX5_isBroken ⟨(Nat.le_of_ble_eq_true rfl), (Nat.le_of_ble_eq_true rfl)⟩) (preV_R (r := (RX5, TX5, 16)) hK hP (ci := 5) (q0 := 0) rfl rfl) rfl rfl hl.1 rfl (lv_room (Nat.le_of_ble_eq_true rfl)) dX5_broken_22 ⟨(Nat.le_of_ble_eq_true rfl), (Nat.le_of_ble_eq_true rfl)⟩) (fun r22_5 h => ?_)
      refine lv_if_eq (tgt := 32) hx hb dX5_broken_25 (by decide) (fun c_25_5 => ?_) (fun c_25_5 => ?_)
      · replace h := h.1 c_25_5
        refine lv_iconst (v := (0 : Int32)) hx hb dX5_broken_32 (by decide) ?_
        exact W.iret hx hb hr (fun t ht hW => ⟨(0 : Int32), rfl, h, ht⟩) (fun _ h9 => by cases h9) dX5_broken_33
      · replace h := h.2 c_25_5
        refine lv_iconst (v := (1 : Int32)) hx hb dX5_broken_28 (by decide) ?_
        refine lv_goto (tgt := 33) hx hb dX5_broken_29 (by decide) ?_
        exact W.iret hx hb hr (fun t ht hW => ⟨(1 : Int32), rfl, h, ht⟩) (fun _ h9 => by cases h9) dX5_broken_33
    · replace h := h.2 c_13_3
      refine lv_bipush (v := (-101 : Int32)) hx hb dX5_broken_16 (by decide) ?_
      exact W.iret hx hb hr (fun t ht hW => ⟨(-101 : Int32), rfl, h, ht⟩) (fun _ h9 => by cases h9) dX5_broken_18
theorem hdX5_place : yX5_place.cls = RX5 ∧ yX5_place.cls ≠ "java/lang/invoke/MethodHandle" ∧ yX5_place.cls ≠ "java/lang/invoke/VarHandle" ∧ (parseMethodDescriptor yX5_place.desc).map (fun d => d.parameters.length) = some 3 := by decide +kernel
set_option maxHeartbeats 4000000 in
set_option maxRecDepth 100000 in
theorem kX5_place (l : Launch) (g : GG) (q : Nat → Nat) (b_m : Nat → Int32) (b_written : Nat → Int32) (b_spare : Nat → Int32) (b_spareWritten : Nat → Int32) (b_states : Nat → Int32) (b_fifth : Nat → Int32) (b_oldest : Int32) (b_stateCount : Int32) (b_text : Nat → Int32) (b_textLength : Int32) (b_at : Int32) (b_read : Nat → Int32) (b_columns : Int32) (b_told : Int32) (b_wants : Nat → Int32) (b_comes : Nat → Int32) (a_1 : Int32) (a_2 : Int32) (a_3 : Int32) (k : Int32 → Prop) (h : PX5_place b_m b_written a_1 a_2 a_3 k) : Met l yX5_place wsX5_place ({ frames := 4, cells := 0, slots := 0, locals := 92 }) (PreR g [.ref (q 0), .int a_1, .int a_2, .int a_3] (wM g q b_m b_written b_spare b_spareWritten b_states b_fifth b_oldest b_stateCount b_text b_textLength b_at b_read b_columns b_told b_wants b_comes)) (vp_Si k) 0 0 (fun _ => False) := by
  refine Met.ofW (cc := cX5_place) (maxL := 5) (ret := (some .int)) (by decide) rfl ?_
  intro p e s m args below meth c s₁ B hml hv
  obtain ⟨rfl, hP, hK⟩ := hv
  have hx := B.exec
  have hb := B.bytes
  have hr := B.returns
  have hts := atoms_spec (ws := wsX5_place) B.pre
  have hown : s.vm.findClass RX5 = some m.cls := findClass_of_methodNamed B.named
  have hlocks := B.notSynchronized
  have hl := lv_entry ([.ref (q 0), .int a_1, .int a_2, .int a_3]) (n := 5) (Nat.le_of_ble_eq_true rfl)
  rw [lg_entry_eq]
  generalize (lg_sl ([.ref (q 0), .int a_1, .int a_2, .int a_3]) ++ List.replicate (5 - (lg_sl ([.ref (q 0), .int a_1, .int a_2, .int a_3])).length) Slot.unset).toArray = ls at hl ⊢
  have hl : lv_has ls 5 [(0, .ref (q 0)), (1, .int a_1), (2, .int a_2), (3, .int a_3)] := hl
  unfold PX5_place at h
  refine lv_iload_n hx hb dX5_place_0 rfl (lv_at hl 1 rfl) ?_
  refine lv_iconst (v := (0 : Int32)) hx hb dX5_place_1 (by decide) ?_
  refine lv_sipush (v := (719 : Int32)) hx hb dX5_place_2 (by decide) ?_
  refine vp_callSi (W.runS (As := [.int a_1, .int (0 : Int32), .int (719 : Int32)]) (rest := []) ⟨hx, hb, hml, hown, hts⟩ (kX5_in l g  a_1 (0 : Int32) (719 : Int32) _ h) (va_cwS 3 hts gX5_place_X5_in rfl rfl rfl hdX5_in.2 ⟨(Nat.le_of_ble_eq_true rfl), (Nat.le_of_ble_eq_true rfl)⟩) (preS_R hK (va_P_nil (D := g.1) (cl := vwCl))) rfl rfl hl.1 rfl (lv_room (Nat.le_of_ble_eq_true rfl)) dX5_place_5 ⟨(Nat.le_of_ble_eq_true rfl), (Nat.le_of_ble_eq_true rfl)⟩) (fun r5_1 h => ?_)
  refine lv_if_eq (tgt := 27) hx hb dX5_place_8 (by decide) (fun c_8_1 => ?_) (fun c_8_1 => ?_)
  · replace h := h.1 c_8_1
    refine lv_bipush (v := (-101 : Int32)) hx hb dX5_place_27 (by decide) ?_
    exact W.iret hx hb hr (fun t ht hW => ⟨(-101 : Int32), rfl, h, ht⟩) (fun _ h9 => by cases h9) dX5_place_29
  · replace h := h.2 c_8_1
    refine lv_iload_n hx hb dX5_place_11 rfl (lv_at hl 2 rfl) ?_
    refine vp_callSi (W.runS (As := [.int a_2]) (rest := []) ⟨hx, hb, hml, hown, hts⟩ (kX5_isLight l g  a_2 _ h) (va_cwS 1 hts gX5_place_X5_isLight rfl rfl rfl hdX5_isLight.2 ⟨(Nat.le_of_ble_eq_true rfl), (Nat.le_of_ble_eq_true rfl)⟩) (preS_R hK (va_P_nil (D := g.1) (cl := vwCl))) rfl rfl hl.1 rfl (lv_room (Nat.le_of_ble_eq_true rfl)) dX5_place_12 ⟨(Nat.le_of_ble_eq_true rfl), (Nat.le_of_ble_eq_true rfl)⟩) (fun r12_3 h => ?_)
    refine lv_if_eq (tgt := 27) hx hb dX5_place_15 (by decide) (fun c_15_3 => ?_) (fun c_15_3 => ?_)
    · replace h := h.1 c_15_3
      refine lv_bipush (v := (-101 : Int32)) hx hb dX5_place_27 (by decide) ?_
      exact W.iret hx hb hr (fun t ht hW => ⟨(-101 : Int32), rfl, h, ht⟩) (fun _ h9 => by cases h9) dX5_place_29
    · replace h := h.2 c_15_3
      refine lv_iload_n hx hb dX5_place_18 rfl (lv_at hl 3 rfl) ?_
      refine lv_iconst (v := (0 : Int32)) hx hb dX5_place_19 (by decide) ?_
      refine lv_iconst (v := (2 : Int32)) hx hb dX5_place_20 (by decide) ?_
      refine vp_callSi (W.runS (As := [.int a_3, .int (0 : Int32), .int (2 : Int32)]) (rest := []) ⟨hx, hb, hml, hown, hts⟩ (kX5_in l g  a_3 (0 : Int32) (2 : Int32) _ h) (va_cwS 3 hts gX5_place_X5_in rfl rfl rfl hdX5_in.2 ⟨(Nat.le_of_ble_eq_true rfl), (Nat.le_of_ble_eq_true rfl)⟩) (preS_R hK (va_P_nil (D := g.1) (cl := vwCl))) rfl rfl hl.1 rfl (lv_room (Nat.le_of_ble_eq_true rfl)) dX5_place_21 ⟨(Nat.le_of_ble_eq_true rfl), (Nat.le_of_ble_eq_true rfl)⟩) (fun r21_5 h => ?_)
      refine lv_if_ne (tgt := 30) hx hb dX5_place_24 (by decide) (fun c_24_5 => ?_) (fun c_24_5 => ?_)
      · replace h := h.1 c_24_5
        refine lv_bipush (v := (12 : Int32)) hx hb dX5_place_30 (by decide) ?_
        refine lv_iload_n hx hb dX5_place_32 rfl (lv_at hl 1 rfl) ?_
        refine lv_imul hx hb dX5_place_33 ?_
        refine lv_iload_n hx hb dX5_place_34 rfl (lv_at hl 2 rfl) ?_
        refine lv_iadd hx hb dX5_place_35 ?_
        refine lv_topi (fun v4_7 e_v4_7 => ?_)
        replace h := h v4_7 e_v4_7
        refine lv_istore (lv' := [(4, .int v4_7), (0, .ref (q 0)), (1, .int a_1), (2, .int a_2), (3, .int a_3)]) hx hb dX5_place_36 hl (by decide) rfl (fun ls hl => ?_)
        refine lv_iload_n hx hb dX5_place_38 rfl (lv_at hl 4 rfl) ?_
        refine lv_if_ne (tgt := 51) hx hb dX5_place_39 (by decide) (fun c_39_7 => ?_) (fun c_39_7 => ?_)
        · replace h := h.1 c_39_7
          refine lv_iload_n hx hb dX5_place_51 rfl (lv_at hl 4 rfl) ?_
          refine lv_iconst (v := (1 : Int32)) hx hb dX5_place_52 (by decide) ?_
          refine lv_icmp_ne (tgt := 65) hx hb dX5_place_53 (by decide) (fun c_53_8 => ?_) (fun c_53_8 => ?_)
          · replace h := h.1 c_53_8
            refine lv_aload_n hx hb dX5_place_65 rfl (lv_at hl 1 rfl) ?_
            refine lv_iload hx hb dX5_place_66 (lv_at hl 0 rfl) ?_
            refine vp_callSi (W.runV (As := [.int v4_7]) (rest := []) ⟨hx, hb, hml, hown, hts⟩ (kX5_ago l g q b_m b_written b_spare b_spareWritten b_states b_fifth b_oldest b_stateCount b_text b_textLength b_at b_read b_columns b_told b_wants b_comes v4_7 _ h) (cwV 1 hts gX5_place_X5_ago rfl rfl rfl hdX5_ago ⟨(Nat.le_of_ble_eq_true rfl), (Nat.le_of_ble_eq_true rfl)⟩) (preV_R (r := (RX5, TX5, 16)) hK hP (ci := 5) (q0 := 0) rfl rfl) rfl rfl hl.1 rfl (lv_room (Nat.le_of_ble_eq_true rfl)) dX5_place_68 ⟨(Nat.le_of_ble_eq_true rfl), (Nat.le_of_ble_eq_true rfl)⟩) (fun r68_10 h => ?_)
            exact W.iret hx hb hr (fun t ht hW => ⟨r68_10, rfl, h, ht⟩) (fun _ h9 => by cases h9) dX5_place_71
          · replace h := h.2 c_53_8
            refine lv_aload_n hx hb dX5_place_56 rfl (lv_at hl 1 rfl) ?_
            refine lv_iload hx hb dX5_place_57 (lv_at hl 0 rfl) ?_
            refine vp_callSi (W.runV (As := [.int v4_7]) (rest := []) ⟨hx, hb, hml, hown, hts⟩ (kX5_lit l g q b_m b_written b_spare b_spareWritten b_states b_fifth b_oldest b_stateCount b_text b_textLength b_at b_read b_columns b_told b_wants b_comes v4_7 _ h) (cwV 1 hts gX5_place_X5_lit rfl rfl rfl hdX5_lit ⟨(Nat.le_of_ble_eq_true rfl), (Nat.le_of_ble_eq_true rfl)⟩) (preV_R (r := (RX5, TX5, 16)) hK hP (ci := 5) (q0 := 0) rfl rfl) rfl rfl hl.1 rfl (lv_room (Nat.le_of_ble_eq_true rfl)) dX5_place_59 ⟨(Nat.le_of_ble_eq_true rfl), (Nat.le_of_ble_eq_true rfl)⟩) (fun r59_11 h => ?_)
            refine lv_goto (tgt := 71) hx hb dX5_place_62 (by decide) ?_
            exact W.iret hx hb hr (fun t ht hW => ⟨r59_11, rfl, h, ht⟩) (fun _ h9 => by cases h9) dX5_place_71
        · replace h := h.2 c_39_7
          refine lv_aload_n hx hb dX5_place_42 rfl (lv_at hl 1 rfl) ?_
          refine lv_iload_n hx hb dX5_place_43 rfl (lv_at hl 2 rfl) ?_
          refine lv_iload_n hx hb dX5_place_44 rfl (lv_at hl 3 rfl) ?_
          refine vp_callSi (W.runV (As := [.int a_1, .int a_2]) (rest := []) ⟨hx, hb, hml, hown, hts⟩ (kX5_wanted l g q b_m b_written b_spare b_spareWritten b_states b_fifth b_oldest b_stateCount b_text b_textLength b_at b_read b_columns b_told b_wants b_comes a_1 a_2 _ h) (cwV 2 hts gX5_place_X5_wanted rfl rfl rfl hdX5_wanted ⟨(Nat.le_of_ble_eq_true rfl), (Nat.le_of_ble_eq_true rfl)⟩) (preV_R (r := (RX5, TX5, 16)) hK hP (ci := 5) (q0 := 0) rfl rfl) rfl rfl hl.1 rfl (lv_room (Nat.le_of_ble_eq_true rfl)) dX5_place_45 ⟨(Nat.le_of_ble_eq_true rfl), (Nat.le_of_ble_eq_true rfl)⟩) (fun r45_12 h => ?_)
          refine lv_goto (tgt := 71) hx hb dX5_place_48 (by decide) ?_
          exact W.iret hx hb hr (fun t ht hW => ⟨r45_12, rfl, h, ht⟩) (fun _ h9 => by cases h9) dX5_place_71
      · replace h := h.2 c_24_5
        refine lv_bipush (v := (-101 : Int32)) hx hb dX5_place_27 (by decide) ?_
        exact W.iret hx hb hr (fun t ht hW => ⟨(-101 : Int32), rfl, h, ht⟩) (fun _ h9 => by cases h9) dX5_place_29
theorem hdX5_columnAt : yX5_columnAt.cls = RX5 ∧ yX5_columnAt.cls ≠ "java/lang/invoke/MethodHandle" ∧ yX5_columnAt.cls ≠ "java/lang/invoke/VarHandle" ∧ (parseMethodDescriptor yX5_columnAt.desc).map (fun d => d.parameters.length) = some 2 := by decide +kernel
set_option maxHeartbeats 4000000 in
set_option maxRecDepth 100000 in
theorem kX5_columnAt (l : Launch) (g : GG) (q : Nat → Nat) (b_m : Nat → Int32) (b_written : Nat → Int32) (b_spare : Nat → Int32) (b_spareWritten : Nat → Int32) (b_states : Nat → Int32) (b_fifth : Nat → Int32) (b_oldest : Int32) (b_stateCount : Int32) (b_text : Nat → Int32) (b_textLength : Int32) (b_at : Int32) (b_read : Nat → Int32) (b_columns : Int32) (b_told : Int32) (b_wants : Nat → Int32) (b_comes : Nat → Int32) (a_1 : Int32) (a_2 : Int32) (k : Int32 → Prop) (h : PX5_columnAt b_m a_1 a_2 k) : Met l yX5_columnAt wsX5_columnAt ({ frames := 3, cells := 0, slots := 0, locals := 67 }) (PreR g [.ref (q 0), .int a_1, .int a_2] (wM g q b_m b_written b_spare b_spareWritten b_states b_fifth b_oldest b_stateCount b_text b_textLength b_at b_read b_columns b_told b_wants b_comes)) (vp_Si k) 0 0 (fun _ => False) := by
  refine Met.ofW (cc := cX5_columnAt) (maxL := 3) (ret := (some .int)) (by decide) rfl ?_
  intro p e s m args below meth c s₁ B hml hv
  obtain ⟨rfl, hP, hK⟩ := hv
  have hx := B.exec
  have hb := B.bytes
  have hr := B.returns
  have hts := atoms_spec (ws := wsX5_columnAt) B.pre
  have hown : s.vm.findClass RX5 = some m.cls := findClass_of_methodNamed B.named
  have hlocks := B.notSynchronized
  have hl := lv_entry ([.ref (q 0), .int a_1, .int a_2]) (n := 3) (Nat.le_of_ble_eq_true rfl)
  rw [lg_entry_eq]
  generalize (lg_sl ([.ref (q 0), .int a_1, .int a_2]) ++ List.replicate (3 - (lg_sl ([.ref (q 0), .int a_1, .int a_2])).length) Slot.unset).toArray = ls at hl ⊢
  have hl : lv_has ls 3 [(0, .ref (q 0)), (1, .int a_1), (2, .int a_2)] := hl
  unfold PX5_columnAt at h
  refine lv_aload_n hx hb dX5_columnAt_0 rfl (lv_at hl 0 rfl) ?_
  refine lv_iload_n hx hb dX5_columnAt_1 rfl (lv_at hl 1 rfl) ?_
  refine vp_callSi (W.runV (As := [.int a_1]) (rest := []) ⟨hx, hb, hml, hown, hts⟩ (kX5_isPicture l g q b_m b_written b_spare b_spareWritten b_states b_fifth b_oldest b_stateCount b_text b_textLength b_at b_read b_columns b_told b_wants b_comes a_1 _ h) (cwV 1 hts gX5_columnAt_X5_isPicture rfl rfl rfl hdX5_isPicture ⟨(Nat.le_of_ble_eq_true rfl), (Nat.le_of_ble_eq_true rfl)⟩) (preV_R (r := (RX5, TX5, 16)) hK hP (ci := 5) (q0 := 0) rfl rfl) rfl rfl hl.1 rfl (lv_room (Nat.le_of_ble_eq_true rfl)) dX5_columnAt_2 ⟨(Nat.le_of_ble_eq_true rfl), (Nat.le_of_ble_eq_true rfl)⟩) (fun r2_1 h => ?_)
  refine lv_if_eq (tgt := 28) hx hb dX5_columnAt_5 (by decide) (fun c_5_1 => ?_) (fun c_5_1 => ?_)
  · replace h := h.1 c_5_1
    refine lv_bipush (v := (-101 : Int32)) hx hb dX5_columnAt_28 (by decide) ?_
    exact W.iret hx hb hr (fun t ht hW => ⟨(-101 : Int32), rfl, h, ht⟩) (fun _ h9 => by cases h9) dX5_columnAt_30
  · replace h := h.2 c_5_1
    refine lv_iload_n hx hb dX5_columnAt_8 rfl (lv_at hl 2 rfl) ?_
    refine lv_iconst (v := (0 : Int32)) hx hb dX5_columnAt_9 (by decide) ?_
    refine lv_sipush (v := (719 : Int32)) hx hb dX5_columnAt_10 (by decide) ?_
    refine vp_callSi (W.runS (As := [.int a_2, .int (0 : Int32), .int (719 : Int32)]) (rest := []) ⟨hx, hb, hml, hown, hts⟩ (kX5_in l g  a_2 (0 : Int32) (719 : Int32) _ h) (va_cwS 3 hts gX5_columnAt_X5_in rfl rfl rfl hdX5_in.2 ⟨(Nat.le_of_ble_eq_true rfl), (Nat.le_of_ble_eq_true rfl)⟩) (preS_R hK (va_P_nil (D := g.1) (cl := vwCl))) rfl rfl hl.1 rfl (lv_room (Nat.le_of_ble_eq_true rfl)) dX5_columnAt_13 ⟨(Nat.le_of_ble_eq_true rfl), (Nat.le_of_ble_eq_true rfl)⟩) (fun r13_3 h => ?_)
    refine lv_if_eq (tgt := 28) hx hb dX5_columnAt_16 (by decide) (fun c_16_3 => ?_) (fun c_16_3 => ?_)
    · replace h := h.1 c_16_3
      refine lv_bipush (v := (-101 : Int32)) hx hb dX5_columnAt_28 (by decide) ?_
      exact W.iret hx hb hr (fun t ht hW => ⟨(-101 : Int32), rfl, h, ht⟩) (fun _ h9 => by cases h9) dX5_columnAt_30
    · replace h := h.2 c_16_3
      refine lv_aload_n hx hb dX5_columnAt_19 rfl (lv_at hl 0 rfl) ?_
      refine lv_iload_n hx hb dX5_columnAt_20 rfl (lv_at hl 1 rfl) ?_
      refine lv_iload_n hx hb dX5_columnAt_21 rfl (lv_at hl 2 rfl) ?_
      refine vp_callSi (W.runV (As := [.int a_1, .int a_2]) (rest := []) ⟨hx, hb, hml, hown, hts⟩ (kX5_columnOf l g q b_m b_written b_spare b_spareWritten b_states b_fifth b_oldest b_stateCount b_text b_textLength b_at b_read b_columns b_told b_wants b_comes a_1 a_2 _ h) (cwV 2 hts gX5_columnAt_X5_columnOf rfl rfl rfl hdX5_columnOf ⟨(Nat.le_of_ble_eq_true rfl), (Nat.le_of_ble_eq_true rfl)⟩) (preV_R (r := (RX5, TX5, 16)) hK hP (ci := 5) (q0 := 0) rfl rfl) rfl rfl hl.1 rfl (lv_room (Nat.le_of_ble_eq_true rfl)) dX5_columnAt_22 ⟨(Nat.le_of_ble_eq_true rfl), (Nat.le_of_ble_eq_true rfl)⟩) (fun r22_5 h => ?_)
      refine lv_goto (tgt := 30) hx hb dX5_columnAt_25 (by decide) ?_
      exact W.iret hx hb hr (fun t ht hW => ⟨r22_5, rfl, h, ht⟩) (fun _ h9 => by cases h9) dX5_columnAt_30
theorem hdX5_isCovered : yX5_isCovered.cls = RX5 ∧ yX5_isCovered.cls ≠ "java/lang/invoke/MethodHandle" ∧ yX5_isCovered.cls ≠ "java/lang/invoke/VarHandle" ∧ (parseMethodDescriptor yX5_isCovered.desc).map (fun d => d.parameters.length) = some 1 := by decide +kernel
set_option maxHeartbeats 4000000 in
set_option maxRecDepth 100000 in
theorem kX5_isCovered (l : Launch) (g : GG) (q : Nat → Nat) (b_m : Nat → Int32) (b_written : Nat → Int32) (b_spare : Nat → Int32) (b_spareWritten : Nat → Int32) (b_states : Nat → Int32) (b_fifth : Nat → Int32) (b_oldest : Int32) (b_stateCount : Int32) (b_text : Nat → Int32) (b_textLength : Int32) (b_at : Int32) (b_read : Nat → Int32) (b_columns : Int32) (b_told : Int32) (b_wants : Nat → Int32) (b_comes : Nat → Int32) (a_1 : Int32) (k : Int32 → Prop) (h : PX5_isCovered b_m a_1 k) : Met l yX5_isCovered wsX5_isCovered ({ frames := 3, cells := 0, slots := 0, locals := 67 }) (PreR g [.ref (q 0), .int a_1] (wM g q b_m b_written b_spare b_spareWritten b_states b_fifth b_oldest b_stateCount b_text b_textLength b_at b_read b_columns b_told b_wants b_comes)) (vp_Si k) 0 0 (fun _ => False) := by
  refine Met.ofW (cc := cX5_isCovered) (maxL := 4) (ret := (some .boolean)) (by decide) rfl ?_
  intro p e s m args below meth c s₁ B hml hv
  obtain ⟨rfl, hP, hK⟩ := hv
  have hx := B.exec
  have hb := B.bytes
  have hr := B.returns
  have hts := atoms_spec (ws := wsX5_isCovered) B.pre
  have hown : s.vm.findClass RX5 = some m.cls := findClass_of_methodNamed B.named
  have hlocks := B.notSynchronized
  have iX5 : ∀ w ∈ wsX50, w ∈ wsX5_isCovered := by decide +kernel
  have hl := lv_entry ([.ref (q 0), .int a_1]) (n := 4) (Nat.le_of_ble_eq_true rfl)
  rw [lg_entry_eq]
  generalize (lg_sl ([.ref (q 0), .int a_1]) ++ List.replicate (4 - (lg_sl ([.ref (q 0), .int a_1])).length) Slot.unset).toArray = ls at hl ⊢
  have hl : lv_has ls 4 [(0, .ref (q 0)), (1, .int a_1)] := hl
  unfold PX5_isCovered at h
  refine lv_iconst (v := (0 : Int32)) hx hb dX5_isCovered_0 (by decide) ?_
  refine lv_istore_n (lv' := [(2, .int (0 : Int32)), (0, .ref (q 0)), (1, .int a_1)]) hx hb dX5_isCovered_1 rfl hl (by decide) rfl (fun ls hl => ?_)
  refine lv_iconst (v := (0 : Int32)) hx hb dX5_isCovered_2 (by decide) ?_
  refine lv_istore_n (lv' := [(3, .int (0 : Int32)), (2, .int (0 : Int32)), (0, .ref (q 0)), (1, .int a_1)]) hx hb dX5_isCovered_3 rfl hl (by decide) rfl (fun ls hl => ?_)
  have loop_1 : ∀ (kx_1 : Int32 → Int32 → Prop), (∀ (v2_1 : Int32) (v3_2 : Int32) (ls : Array Slot), kx_1 v2_1 v3_2 → lv_has ls 4 [(3, .int v3_2), (2, .int v2_1), (0, .ref (q 0)), (1, .int a_1)] → W p l e (headSpec wsX5_isCovered ({ frames := 3, cells := 0, slots := 0, locals := 67 })).room s m ([.ref (q 0), .int a_1] : List Value).toArray below meth c s.heap [] 0 0 (MQ below (vp_Si k) ([.ref (q 0), .int a_1] : List Value).toArray s 0 0 (fun _ => False)) (F0 m 52 ls [])) → ∀ (n_1 : Nat) (v2_1 : Int32) (v3_2 : Int32) (ls : Array Slot), PX5_isCovered_L1 b_m a_1 kx_1 n_1 v2_1 v3_2 → lv_has ls 4 [(3, .int v3_2), (2, .int v2_1), (0, .ref (q 0)), (1, .int a_1)] → W p l e (headSpec wsX5_isCovered ({ frames := 3, cells := 0, slots := 0, locals := 67 })).room s m ([.ref (q 0), .int a_1] : List Value).toArray below meth c s.heap [] 0 0 (MQ below (vp_Si k) ([.ref (q 0), .int a_1] : List Value).toArray s 0 0 (fun _ => False)) (F0 m 4 ls []) := by
    intro kx_1 hexit_1 n_1
    induction n_1 with
    | zero => exact fun _ _ _ h _ => (h : False).elim
    | succ n_1 ih_1 =>
      intro v2_1 v3_2 ls h hl
      unfold PX5_isCovered_L1 at h
      refine lv_iload_n hx hb dX5_isCovered_4 rfl (lv_at hl 0 rfl) ?_
      refine lv_aload_n hx hb dX5_isCovered_5 rfl (lv_at hl 2 rfl) ?_
      refine va_get (D := g.1) (ci := 5) (v := .ref (q 1)) (C := RX5) (T := TX5) (N := 16) hx hb hts iX5 hown hK.1 hP 0 rfl rfl 0 (by decide) (hts (.fieldLink RX5 7 "LightWheelModel" "m" "[I") (by decide +kernel)) (fun _ h9 => h9) rfl dX5_isCovered_6 ?_
      refine lv_bipush (v := (11 : Int32)) hx hb dX5_isCovered_9 (by decide) ?_
      refine xr_iald hx hb hK.1 hP 1 0 rfl rfl 11 rfl (Nat.le_of_ble_eq_true rfl) (Nat.le_of_ble_eq_true rfl) dX5_isCovered_11 ?_
      refine lv_icmp_ge (tgt := 52) hx hb dX5_isCovered_12 (by decide) (fun c_12_2 => ?_) (fun c_12_2 => ?_)
      · replace h := h.1 c_12_2
        exact hexit_1 v2_1 v3_2 ls h (lv_sub hl [0, 1, 2, 3] rfl)
      · replace h := h.2 c_12_2
        refine lv_iload_n hx hb dX5_isCovered_15 rfl (lv_at hl 1 rfl) ?_
        refine lv_if_ne (tgt := 40) hx hb dX5_isCovered_16 (by decide) (fun c_16_3 => ?_) (fun c_16_3 => ?_)
        · replace h := h.1 c_16_3
          refine lv_iconst (v := (1 : Int32)) hx hb dX5_isCovered_40 (by decide) ?_
          refine lv_goto (tgt := 45) hx hb dX5_isCovered_41 (by decide) ?_
          refine lv_istore_n (lv' := [(2, .int (1 : Int32)), (3, .int v3_2), (0, .ref (q 0)), (1, .int a_1)]) hx hb dX5_isCovered_45 rfl hl (by decide) rfl (fun ls hl => ?_)
          obtain ⟨v3_5, e_v3_5⟩ : ∃ y : Int32, y = v3_2 + (1 : Int32) := ⟨_, rfl⟩
          replace h := h v3_5 e_v3_5
          refine lv_iinc (v := v3_5) (lv' := [(3, .int v3_5), (2, .int (1 : Int32)), (0, .ref (q 0)), (1, .int a_1)]) hx hb dX5_isCovered_46 hl (k := 1) rfl (by rw [e_v3_5]; rfl) (by decide) rfl (fun ls hl => ?_)
          refine lv_goto (tgt := 4) hx hb dX5_isCovered_49 (by decide) ?_
          exact ih_1 (1 : Int32) v3_5 ls h (lv_sub hl [0, 1, 2, 3] rfl)
        · replace h := h.2 c_16_3
          refine lv_aload_n hx hb dX5_isCovered_19 rfl (lv_at hl 2 rfl) ?_
          refine lv_iload_n hx hb dX5_isCovered_20 rfl (lv_at hl 0 rfl) ?_
          refine lv_iconst (v := (3 : Int32)) hx hb dX5_isCovered_21 (by decide) ?_
          refine vp_callSi (W.runV (As := [.int v3_2, .int (3 : Int32)]) (rest := []) ⟨hx, hb, hml, hown, hts⟩ (kX5_of l g q b_m b_written b_spare b_spareWritten b_states b_fifth b_oldest b_stateCount b_text b_textLength b_at b_read b_columns b_told b_wants b_comes v3_2 (3 : Int32) _ h) (cwV 2 hts gX5_isCovered_X5_of rfl rfl rfl hdX5_of ⟨(Nat.le_of_ble_eq_true rfl), (Nat.le_of_ble_eq_true rfl)⟩) (preV_R (r := (RX5, TX5, 16)) hK hP (ci := 5) (q0 := 0) rfl rfl) rfl rfl hl.1 rfl (lv_room (Nat.le_of_ble_eq_true rfl)) dX5_isCovered_22 ⟨(Nat.le_of_ble_eq_true rfl), (Nat.le_of_ble_eq_true rfl)⟩) (fun r22_6 h => ?_)
          refine lv_iconst (v := (2 : Int32)) hx hb dX5_isCovered_25 (by decide) ?_
          refine lv_icmp_eq (tgt := 44) hx hb dX5_isCovered_26 (by decide) (fun c_26_6 => ?_) (fun c_26_6 => ?_)
          · replace h := h.1 c_26_6
            refine lv_iconst (v := (0 : Int32)) hx hb dX5_isCovered_44 (by decide) ?_
            refine lv_istore_n (lv' := [(2, .int (0 : Int32)), (3, .int v3_2), (0, .ref (q 0)), (1, .int a_1)]) hx hb dX5_isCovered_45 rfl hl (by decide) rfl (fun ls hl => ?_)
            obtain ⟨v3_8, e_v3_8⟩ : ∃ y : Int32, y = v3_2 + (1 : Int32) := ⟨_, rfl⟩
            replace h := h v3_8 e_v3_8
            refine lv_iinc (v := v3_8) (lv' := [(3, .int v3_8), (2, .int (0 : Int32)), (0, .ref (q 0)), (1, .int a_1)]) hx hb dX5_isCovered_46 hl (k := 1) rfl (by rw [e_v3_8]; rfl) (by decide) rfl (fun ls hl => ?_)
            refine lv_goto (tgt := 4) hx hb dX5_isCovered_49 (by decide) ?_
            exact ih_1 (0 : Int32) v3_8 ls h (lv_sub hl [0, 1, 2, 3] rfl)
          · replace h := h.2 c_26_6
            refine lv_aload_n hx hb dX5_isCovered_29 rfl (lv_at hl 2 rfl) ?_
            refine lv_iload_n hx hb dX5_isCovered_30 rfl (lv_at hl 0 rfl) ?_
            refine lv_iload_n hx hb dX5_isCovered_31 rfl (lv_at hl 3 rfl) ?_
            refine vp_callSi (W.runV (As := [.int v3_2, .int a_1]) (rest := []) ⟨hx, hb, hml, hown, hts⟩ (kX5_columnOf l g q b_m b_written b_spare b_spareWritten b_states b_fifth b_oldest b_stateCount b_text b_textLength b_at b_read b_columns b_told b_wants b_comes v3_2 a_1 _ h) (cwV 2 hts gX5_isCovered_X5_columnOf rfl rfl rfl hdX5_columnOf ⟨(Nat.le_of_ble_eq_true rfl), (Nat.le_of_ble_eq_true rfl)⟩) (preV_R (r := (RX5, TX5, 16)) hK hP (ci := 5) (q0 := 0) rfl rfl) rfl rfl hl.1 rfl (lv_room (Nat.le_of_ble_eq_true rfl)) dX5_isCovered_32 ⟨(Nat.le_of_ble_eq_true rfl), (Nat.le_of_ble_eq_true rfl)⟩) (fun r32_9 h => ?_)
            refine lv_bipush (v := (-109 : Int32)) hx hb dX5_isCovered_35 (by decide) ?_
            refine lv_icmp_eq (tgt := 44) hx hb dX5_isCovered_37 (by decide) (fun c_37_9 => ?_) (fun c_37_9 => ?_)
            · replace h := h.1 c_37_9
              refine lv_iconst (v := (0 : Int32)) hx hb dX5_isCovered_44 (by decide) ?_
              refine lv_istore_n (lv' := [(2, .int (0 : Int32)), (3, .int v3_2), (0, .ref (q 0)), (1, .int a_1)]) hx hb dX5_isCovered_45 rfl hl (by decide) rfl (fun ls hl => ?_)
              obtain ⟨v3_11, e_v3_11⟩ : ∃ y : Int32, y = v3_2 + (1 : Int32) := ⟨_, rfl⟩
              replace h := h v3_11 e_v3_11
              refine lv_iinc (v := v3_11) (lv' := [(3, .int v3_11), (2, .int (0 : Int32)), (0, .ref (q 0)), (1, .int a_1)]) hx hb dX5_isCovered_46 hl (k := 1) rfl (by rw [e_v3_11]; rfl) (by decide) rfl (fun ls hl => ?_)
              refine lv_goto (tgt := 4) hx hb dX5_isCovered_49 (by decide) ?_
              exact ih_1 (0 : Int32) v3_11 ls h (lv_sub hl [0, 1, 2, 3] rfl)
            · replace h := h.2 c_37_9
              refine lv_iconst (v := (1 : Int32)) hx hb dX5_isCovered_40 (by decide) ?_
              refine lv_goto (tgt := 45) hx hb dX5_isCovered_41 (by decide) ?_
              refine lv_istore_n (lv' := [(2, .int (1 : Int32)), (3, .int v3_2), (0, .ref (q 0)), (1, .int a_1)]) hx hb dX5_isCovered_45 rfl hl (by decide) rfl (fun ls hl => ?_)
              obtain ⟨v3_12, e_v3_12⟩ : ∃ y : Int32, y = v3_2 + (1 : Int32) := ⟨_, rfl⟩
              replace h := h v3_12 e_v3_12
              refine lv_iinc (v := v3_12) (lv' := [(3, .int v3_12), (2, .int (1 : Int32)), (0, .ref (q 0)), (1, .int a_1)]) hx hb dX5_isCovered_46 hl (k := 1) rfl (by rw [e_v3_12]; rfl) (by decide) rfl (fun ls hl => ?_)
              refine lv_goto (tgt := 4) hx hb dX5_isCovered_49 (by decide) ?_
              exact ih_1 (1 : Int32) v3_12 ls h (lv_sub hl [0, 1, 2, 3] rfl)
  obtain ⟨n_1, h⟩ := h
  refine loop_1 _ ?_ n_1 (0 : Int32) (0 : Int32) ls h (lv_sub hl [0, 1, 2, 3] rfl)
  intro v2_1 v3_2 ls h hl
  refine lv_iload_n hx hb dX5_isCovered_52 rfl (lv_at hl 1 rfl) ?_
  have hbz := h.1
  replace h := h.2
  exact W.zret (v := v2_1) hx hb hr (by rcases hbz with e9 | e9 <;> rw [e9] <;> rfl) (fun t ht hW => ⟨v2_1, rfl, h, ht⟩) (fun _ h9 => by cases h9) dX5_isCovered_53
theorem hdX5_meets : yX5_meets.cls = RX5 ∧ yX5_meets.cls ≠ "java/lang/invoke/MethodHandle" ∧ yX5_meets.cls ≠ "java/lang/invoke/VarHandle" ∧ (parseMethodDescriptor yX5_meets.desc).map (fun d => d.parameters.length) = some 4 := by decide +kernel
set_option maxHeartbeats 4000000 in
set_option maxRecDepth 100000 in
theorem kX5_meets (l : Launch) (g : GG) (q : Nat → Nat) (b_m : Nat → Int32) (b_written : Nat → Int32) (b_spare : Nat → Int32) (b_spareWritten : Nat → Int32) (b_states : Nat → Int32) (b_fifth : Nat → Int32) (b_oldest : Int32) (b_stateCount : Int32) (b_text : Nat → Int32) (b_textLength : Int32) (b_at : Int32) (b_read : Nat → Int32) (b_columns : Int32) (b_told : Int32) (b_wants : Nat → Int32) (b_comes : Nat → Int32) (a_1 : Int32) (a_2 : Int32) (a_3 : Int32) (a_4 : Int32) (k : Int32 → Prop) (h : PX5_meets b_m a_1 a_2 a_3 a_4 k) : Met l yX5_meets wsX5_meets ({ frames := 3, cells := 0, slots := 0, locals := 67 }) (PreR g [.ref (q 0), .int a_1, .int a_2, .int a_3, .int a_4] (wM g q b_m b_written b_spare b_spareWritten b_states b_fifth b_oldest b_stateCount b_text b_textLength b_at b_read b_columns b_told b_wants b_comes)) (vp_Si k) 0 0 (fun _ => False) := by
  refine Met.ofW (cc := cX5_meets) (maxL := 7) (ret := (some .boolean)) (by decide) rfl ?_
  intro p e s m args below meth c s₁ B hml hv
  obtain ⟨rfl, hP, hK⟩ := hv
  have hx := B.exec
  have hb := B.bytes
  have hr := B.returns
  have hts := atoms_spec (ws := wsX5_meets) B.pre
  have hown : s.vm.findClass RX5 = some m.cls := findClass_of_methodNamed B.named
  have hlocks := B.notSynchronized
  have hl := lv_entry ([.ref (q 0), .int a_1, .int a_2, .int a_3, .int a_4]) (n := 7) (Nat.le_of_ble_eq_true rfl)
  rw [lg_entry_eq]
  generalize (lg_sl ([.ref (q 0), .int a_1, .int a_2, .int a_3, .int a_4]) ++ List.replicate (7 - (lg_sl ([.ref (q 0), .int a_1, .int a_2, .int a_3, .int a_4])).length) Slot.unset).toArray = ls at hl ⊢
  have hl : lv_has ls 7 [(0, .ref (q 0)), (1, .int a_1), (2, .int a_2), (3, .int a_3), (4, .int a_4)] := hl
  unfold PX5_meets at h
  refine lv_aload_n hx hb dX5_meets_0 rfl (lv_at hl 0 rfl) ?_
  refine lv_iload_n hx hb dX5_meets_1 rfl (lv_at hl 1 rfl) ?_
  refine lv_iload_n hx hb dX5_meets_2 rfl (lv_at hl 3 rfl) ?_
  refine vp_callSi (W.runV (As := [.int a_1, .int a_3]) (rest := []) ⟨hx, hb, hml, hown, hts⟩ (kX5_columnOf l g q b_m b_written b_spare b_spareWritten b_states b_fifth b_oldest b_stateCount b_text b_textLength b_at b_read b_columns b_told b_wants b_comes a_1 a_3 _ h) (cwV 2 hts gX5_meets_X5_columnOf rfl rfl rfl hdX5_columnOf ⟨(Nat.le_of_ble_eq_true rfl), (Nat.le_of_ble_eq_true rfl)⟩) (preV_R (r := (RX5, TX5, 16)) hK hP (ci := 5) (q0 := 0) rfl rfl) rfl rfl hl.1 rfl (lv_room (Nat.le_of_ble_eq_true rfl)) dX5_meets_3 ⟨(Nat.le_of_ble_eq_true rfl), (Nat.le_of_ble_eq_true rfl)⟩) (fun r3_1 h => ?_)
  refine lv_istore (lv' := [(5, .int r3_1), (0, .ref (q 0)), (1, .int a_1), (2, .int a_2), (3, .int a_3), (4, .int a_4)]) hx hb dX5_meets_6 hl (by decide) rfl (fun ls hl => ?_)
  refine lv_aload_n hx hb dX5_meets_8 rfl (lv_at hl 1 rfl) ?_
  refine lv_iload_n hx hb dX5_meets_9 rfl (lv_at hl 3 rfl) ?_
  refine lv_iload_n hx hb dX5_meets_10 rfl (lv_at hl 4 rfl) ?_
  refine vp_callSi (W.runV (As := [.int a_2, .int a_3]) (rest := []) ⟨hx, hb, hml, hown, hts⟩ (kX5_columnOf l g q b_m b_written b_spare b_spareWritten b_states b_fifth b_oldest b_stateCount b_text b_textLength b_at b_read b_columns b_told b_wants b_comes a_2 a_3 _ h) (cwV 2 hts gX5_meets_X5_columnOf rfl rfl rfl hdX5_columnOf ⟨(Nat.le_of_ble_eq_true rfl), (Nat.le_of_ble_eq_true rfl)⟩) (preV_R (r := (RX5, TX5, 16)) hK hP (ci := 5) (q0 := 0) rfl rfl) rfl rfl hl.1 rfl (lv_room (Nat.le_of_ble_eq_true rfl)) dX5_meets_11 ⟨(Nat.le_of_ble_eq_true rfl), (Nat.le_of_ble_eq_true rfl)⟩) (fun r11_2 h => ?_)
  refine lv_istore (lv' := [(6, .int r11_2), (5, .int r3_1), (0, .ref (q 0)), (1, .int a_1), (2, .int a_2), (3, .int a_3), (4, .int a_4)]) hx hb dX5_meets_14 hl (by decide) rfl (fun ls hl => ?_)
  refine lv_iload hx hb dX5_meets_16 (lv_at hl 1 rfl) ?_
  refine lv_bipush (v := (-109 : Int32)) hx hb dX5_meets_18 (by decide) ?_
  refine lv_icmp_eq (tgt := 58) hx hb dX5_meets_20 (by decide) (fun c_20_2 => ?_) (fun c_20_2 => ?_)
  · replace h := h.1 c_20_2
    refine lv_iconst (v := (0 : Int32)) hx hb dX5_meets_58 (by decide) ?_
    exact W.zret (v := (0 : Int32)) hx hb hr rfl (fun t ht hW => ⟨(0 : Int32), rfl, h, ht⟩) (fun _ h9 => by cases h9) dX5_meets_59
  · replace h := h.2 c_20_2
    refine lv_iload hx hb dX5_meets_23 (lv_at hl 0 rfl) ?_
    refine lv_bipush (v := (-109 : Int32)) hx hb dX5_meets_25 (by decide) ?_
    refine lv_icmp_eq (tgt := 58) hx hb dX5_meets_27 (by decide) (fun c_27_3 => ?_) (fun c_27_3 => ?_)
    · replace h := h.1 c_27_3
      refine lv_iconst (v := (0 : Int32)) hx hb dX5_meets_58 (by decide) ?_
      exact W.zret (v := (0 : Int32)) hx hb hr rfl (fun t ht hW => ⟨(0 : Int32), rfl, h, ht⟩) (fun _ h9 => by cases h9) dX5_meets_59
    · replace h := h.2 c_27_3
      refine lv_aload_n hx hb dX5_meets_30 rfl (lv_at hl 2 rfl) ?_
      refine lv_iload_n hx hb dX5_meets_31 rfl (lv_at hl 3 rfl) ?_
      refine lv_iload hx hb dX5_meets_32 (lv_at hl 1 rfl) ?_
      refine lv_iload hx hb dX5_meets_34 (lv_at hl 6 rfl) ?_
      refine vp_callSi (W.runV (As := [.int a_1, .int r3_1, .int a_4]) (rest := []) ⟨hx, hb, hml, hown, hts⟩ (kX5_colorOf l g q b_m b_written b_spare b_spareWritten b_states b_fifth b_oldest b_stateCount b_text b_textLength b_at b_read b_columns b_told b_wants b_comes a_1 r3_1 a_4 _ h) (cwV 3 hts gX5_meets_X5_colorOf rfl rfl rfl hdX5_colorOf ⟨(Nat.le_of_ble_eq_true rfl), (Nat.le_of_ble_eq_true rfl)⟩) (preV_R (r := (RX5, TX5, 16)) hK hP (ci := 5) (q0 := 0) rfl rfl) rfl rfl hl.1 rfl (lv_room (Nat.le_of_ble_eq_true rfl)) dX5_meets_36 ⟨(Nat.le_of_ble_eq_true rfl), (Nat.le_of_ble_eq_true rfl)⟩) (fun r36_5 h => ?_)
      refine lv_if_eq (tgt := 58) hx hb dX5_meets_39 (by decide) (fun c_39_5 => ?_) (fun c_39_5 => ?_)
      · replace h := h.1 c_39_5
        refine lv_iconst (v := (0 : Int32)) hx hb dX5_meets_58 (by decide) ?_
        exact W.zret (v := (0 : Int32)) hx hb hr rfl (fun t ht hW => ⟨(0 : Int32), rfl, h, ht⟩) (fun _ h9 => by cases h9) dX5_meets_59
      · replace h := h.2 c_39_5
        refine lv_aload_n hx hb dX5_meets_42 rfl (lv_at hl 2 rfl) ?_
        refine lv_iload_n hx hb dX5_meets_43 rfl (lv_at hl 4 rfl) ?_
        refine lv_iload hx hb dX5_meets_44 (lv_at hl 0 rfl) ?_
        refine lv_iload hx hb dX5_meets_46 (lv_at hl 6 rfl) ?_
        refine vp_callSi (W.runV (As := [.int a_2, .int r11_2, .int a_4]) (rest := []) ⟨hx, hb, hml, hown, hts⟩ (kX5_colorOf l g q b_m b_written b_spare b_spareWritten b_states b_fifth b_oldest b_stateCount b_text b_textLength b_at b_read b_columns b_told b_wants b_comes a_2 r11_2 a_4 _ h) (cwV 3 hts gX5_meets_X5_colorOf rfl rfl rfl hdX5_colorOf ⟨(Nat.le_of_ble_eq_true rfl), (Nat.le_of_ble_eq_true rfl)⟩) (preV_R (r := (RX5, TX5, 16)) hK hP (ci := 5) (q0 := 0) rfl rfl) rfl rfl hl.1 rfl (lv_room (Nat.le_of_ble_eq_true rfl)) dX5_meets_48 ⟨(Nat.le_of_ble_eq_true rfl), (Nat.le_of_ble_eq_true rfl)⟩) (fun r48_7 h => ?_)
        refine lv_if_eq (tgt := 58) hx hb dX5_meets_51 (by decide) (fun c_51_7 => ?_) (fun c_51_7 => ?_)
        · replace h := h.1 c_51_7
          refine lv_iconst (v := (0 : Int32)) hx hb dX5_meets_58 (by decide) ?_
          exact W.zret (v := (0 : Int32)) hx hb hr rfl (fun t ht hW => ⟨(0 : Int32), rfl, h, ht⟩) (fun _ h9 => by cases h9) dX5_meets_59
        · replace h := h.2 c_51_7
          refine lv_iconst (v := (1 : Int32)) hx hb dX5_meets_54 (by decide) ?_
          refine lv_goto (tgt := 59) hx hb dX5_meets_55 (by decide) ?_
          exact W.zret (v := (1 : Int32)) hx hb hr rfl (fun t ht hW => ⟨(1 : Int32), rfl, h, ht⟩) (fun _ h9 => by cases h9) dX5_meets_59
theorem hdX5_meetings : yX5_meetings.cls = RX5 ∧ yX5_meetings.cls ≠ "java/lang/invoke/MethodHandle" ∧ yX5_meetings.cls ≠ "java/lang/invoke/VarHandle" ∧ (parseMethodDescriptor yX5_meetings.desc).map (fun d => d.parameters.length) = some 2 := by decide +kernel
set_option maxHeartbeats 4000000 in
set_option maxRecDepth 100000 in
theorem kX5_meetings (l : Launch) (g : GG) (q : Nat → Nat) (b_m : Nat → Int32) (b_written : Nat → Int32) (b_spare : Nat → Int32) (b_spareWritten : Nat → Int32) (b_states : Nat → Int32) (b_fifth : Nat → Int32) (b_oldest : Int32) (b_stateCount : Int32) (b_text : Nat → Int32) (b_textLength : Int32) (b_at : Int32) (b_read : Nat → Int32) (b_columns : Int32) (b_told : Int32) (b_wants : Nat → Int32) (b_comes : Nat → Int32) (a_1 : Int32) (a_2 : Int32) (k : Int32 → Prop) (h : PX5_meetings b_m a_1 a_2 k) : Met l yX5_meetings wsX5_meetings ({ frames := 4, cells := 0, slots := 0, locals := 93 }) (PreR g [.ref (q 0), .int a_1, .int a_2] (wM g q b_m b_written b_spare b_spareWritten b_states b_fifth b_oldest b_stateCount b_text b_textLength b_at b_read b_columns b_told b_wants b_comes)) (vp_Si k) 0 0 (fun _ => False) := by
  refine Met.ofW (cc := cX5_meetings) (maxL := 6) (ret := (some .int)) (by decide) rfl ?_
  intro p e s m args below meth c s₁ B hml hv
  obtain ⟨rfl, hP, hK⟩ := hv
  have hx := B.exec
  have hb := B.bytes
  have hr := B.returns
  have hts := atoms_spec (ws := wsX5_meetings) B.pre
  have hown : s.vm.findClass RX5 = some m.cls := findClass_of_methodNamed B.named
  have hlocks := B.notSynchronized
  have hl := lv_entry ([.ref (q 0), .int a_1, .int a_2]) (n := 6) (Nat.le_of_ble_eq_true rfl)
  rw [lg_entry_eq]
  generalize (lg_sl ([.ref (q 0), .int a_1, .int a_2]) ++ List.replicate (6 - (lg_sl ([.ref (q 0), .int a_1, .int a_2])).length) Slot.unset).toArray = ls at hl ⊢
  have hl : lv_has ls 6 [(0, .ref (q 0)), (1, .int a_1), (2, .int a_2)] := hl
  unfold PX5_meetings at h
  refine lv_aload_n hx hb dX5_meetings_0 rfl (lv_at hl 0 rfl) ?_
  refine lv_iload_n hx hb dX5_meetings_1 rfl (lv_at hl 1 rfl) ?_
  refine vp_callSi (W.runV (As := [.int a_1]) (rest := []) ⟨hx, hb, hml, hown, hts⟩ (kX5_isPicture l g q b_m b_written b_spare b_spareWritten b_states b_fifth b_oldest b_stateCount b_text b_textLength b_at b_read b_columns b_told b_wants b_comes a_1 _ h) (cwV 1 hts gX5_meetings_X5_isPicture rfl rfl rfl hdX5_isPicture ⟨(Nat.le_of_ble_eq_true rfl), (Nat.le_of_ble_eq_true rfl)⟩) (preV_R (r := (RX5, TX5, 16)) hK hP (ci := 5) (q0 := 0) rfl rfl) rfl rfl hl.1 rfl (lv_room (Nat.le_of_ble_eq_true rfl)) dX5_meetings_2 ⟨(Nat.le_of_ble_eq_true rfl), (Nat.le_of_ble_eq_true rfl)⟩) (fun r2_1 h => ?_)
  have tail_1 : ∀ (ls : Array Slot), PX5_meetings_J1 k  → lv_has ls 6 [(0, .ref (q 0)), (1, .int a_1), (2, .int a_2)] → W p l e (headSpec wsX5_meetings ({ frames := 4, cells := 0, slots := 0, locals := 93 })).room s m ([.ref (q 0), .int a_1, .int a_2] : List Value).toArray below meth c s.heap [] 0 0 (MQ below (vp_Si k) ([.ref (q 0), .int a_1, .int a_2] : List Value).toArray s 0 0 (fun _ => False)) (F0 m 21 ls []) := by
    intro  ls h hl
    unfold PX5_meetings_J1 at h
    refine lv_bipush (v := (-101 : Int32)) hx hb dX5_meetings_21 (by decide) ?_
    exact W.iret hx hb hr (fun t ht hW => ⟨(-101 : Int32), rfl, h, ht⟩) (fun _ h9 => by cases h9) dX5_meetings_23
  refine lv_if_eq (tgt := 21) hx hb dX5_meetings_5 (by decide) (fun c_5_1 => ?_) (fun c_5_1 => ?_)
  · replace h := h.1 c_5_1
    exact tail_1  ls h (lv_sub hl [0, 1, 2] rfl)
  · replace h := h.2 c_5_1
    refine lv_aload_n hx hb dX5_meetings_8 rfl (lv_at hl 0 rfl) ?_
    refine lv_iload_n hx hb dX5_meetings_9 rfl (lv_at hl 2 rfl) ?_
    refine vp_callSi (W.runV (As := [.int a_2]) (rest := []) ⟨hx, hb, hml, hown, hts⟩ (kX5_isPicture l g q b_m b_written b_spare b_spareWritten b_states b_fifth b_oldest b_stateCount b_text b_textLength b_at b_read b_columns b_told b_wants b_comes a_2 _ h) (cwV 1 hts gX5_meetings_X5_isPicture rfl rfl rfl hdX5_isPicture ⟨(Nat.le_of_ble_eq_true rfl), (Nat.le_of_ble_eq_true rfl)⟩) (preV_R (r := (RX5, TX5, 16)) hK hP (ci := 5) (q0 := 0) rfl rfl) rfl rfl hl.1 rfl (lv_room (Nat.le_of_ble_eq_true rfl)) dX5_meetings_10 ⟨(Nat.le_of_ble_eq_true rfl), (Nat.le_of_ble_eq_true rfl)⟩) (fun r10_3 h => ?_)
    refine lv_if_eq (tgt := 21) hx hb dX5_meetings_13 (by decide) (fun c_13_3 => ?_) (fun c_13_3 => ?_)
    · replace h := h.1 c_13_3
      exact tail_1  ls h (lv_sub hl [0, 1, 2] rfl)
    · replace h := h.2 c_13_3
      refine lv_iload_n hx hb dX5_meetings_16 rfl (lv_at hl 1 rfl) ?_
      refine lv_iload_n hx hb dX5_meetings_17 rfl (lv_at hl 2 rfl) ?_
      refine lv_icmp_ne (tgt := 24) hx hb dX5_meetings_18 (by decide) (fun c_18_4 => ?_) (fun c_18_4 => ?_)
      · replace h := h.1 c_18_4
        refine lv_iconst (v := (0 : Int32)) hx hb dX5_meetings_24 (by decide) ?_
        refine lv_istore_n (lv' := [(3, .int (0 : Int32)), (0, .ref (q 0)), (1, .int a_1), (2, .int a_2)]) hx hb dX5_meetings_25 rfl hl (by decide) rfl (fun ls hl => ?_)
        refine lv_aload_n hx hb dX5_meetings_26 rfl (lv_at hl 1 rfl) ?_
        refine lv_iload_n hx hb dX5_meetings_27 rfl (lv_at hl 2 rfl) ?_
        refine lv_iconst (v := (3 : Int32)) hx hb dX5_meetings_28 (by decide) ?_
        refine vp_callSi (W.runV (As := [.int a_1, .int (3 : Int32)]) (rest := []) ⟨hx, hb, hml, hown, hts⟩ (kX5_of l g q b_m b_written b_spare b_spareWritten b_states b_fifth b_oldest b_stateCount b_text b_textLength b_at b_read b_columns b_told b_wants b_comes a_1 (3 : Int32) _ h) (cwV 2 hts gX5_meetings_X5_of rfl rfl rfl hdX5_of ⟨(Nat.le_of_ble_eq_true rfl), (Nat.le_of_ble_eq_true rfl)⟩) (preV_R (r := (RX5, TX5, 16)) hK hP (ci := 5) (q0 := 0) rfl rfl) rfl rfl hl.1 rfl (lv_room (Nat.le_of_ble_eq_true rfl)) dX5_meetings_29 ⟨(Nat.le_of_ble_eq_true rfl), (Nat.le_of_ble_eq_true rfl)⟩) (fun r29_6 h => ?_)
        refine lv_iconst (v := (2 : Int32)) hx hb dX5_meetings_32 (by decide) ?_
        have tail_2 : ∀ (t_7 : Int32) (ls : Array Slot), PX5_meetings_J2 b_m a_1 a_2 k t_7 → lv_has ls 6 [(3, .int (0 : Int32)), (0, .ref (q 0)), (1, .int a_1), (2, .int a_2)] → W p l e (headSpec wsX5_meetings ({ frames := 4, cells := 0, slots := 0, locals := 93 })).room s m ([.ref (q 0), .int a_1, .int a_2] : List Value).toArray below meth c s.heap [] 0 0 (MQ below (vp_Si k) ([.ref (q 0), .int a_1, .int a_2] : List Value).toArray s 0 0 (fun _ => False)) (F0 m 51 ls [.int t_7]) := by
          intro t_7 ls h hl
          unfold PX5_meetings_J2 at h
          refine lv_istore (lv' := [(4, .int t_7), (3, .int (0 : Int32)), (0, .ref (q 0)), (1, .int a_1), (2, .int a_2)]) hx hb dX5_meetings_51 hl (by decide) rfl (fun ls hl => ?_)
          refine lv_iconst (v := (0 : Int32)) hx hb dX5_meetings_53 (by decide) ?_
          refine lv_istore (lv' := [(5, .int (0 : Int32)), (4, .int t_7), (3, .int (0 : Int32)), (0, .ref (q 0)), (1, .int a_1), (2, .int a_2)]) hx hb dX5_meetings_54 hl (by decide) rfl (fun ls hl => ?_)
          have loop_3 : ∀ (kx_3 : Int32 → Int32 → Prop), (∀ (v3_8 : Int32) (v5_9 : Int32) (ls : Array Slot), kx_3 v3_8 v5_9 → lv_has ls 6 [(5, .int v5_9), (4, .int t_7), (3, .int v3_8), (0, .ref (q 0)), (1, .int a_1), (2, .int a_2)] → W p l e (headSpec wsX5_meetings ({ frames := 4, cells := 0, slots := 0, locals := 93 })).room s m ([.ref (q 0), .int a_1, .int a_2] : List Value).toArray below meth c s.heap [] 0 0 (MQ below (vp_Si k) ([.ref (q 0), .int a_1, .int a_2] : List Value).toArray s 0 0 (fun _ => False)) (F0 m 102 ls [])) → ∀ (n_3 : Nat) (v3_8 : Int32) (v5_9 : Int32) (ls : Array Slot), PX5_meetings_L3 b_m a_1 a_2 t_7 kx_3 n_3 v3_8 v5_9 → lv_has ls 6 [(5, .int v5_9), (4, .int t_7), (3, .int v3_8), (0, .ref (q 0)), (1, .int a_1), (2, .int a_2)] → W p l e (headSpec wsX5_meetings ({ frames := 4, cells := 0, slots := 0, locals := 93 })).room s m ([.ref (q 0), .int a_1, .int a_2] : List Value).toArray below meth c s.heap [] 0 0 (MQ below (vp_Si k) ([.ref (q 0), .int a_1, .int a_2] : List Value).toArray s 0 0 (fun _ => False)) (F0 m 56 ls []) := by
            intro kx_3 hexit_3 n_3
            induction n_3 with
            | zero => exact fun _ _ _ h _ => (h : False).elim
            | succ n_3 ih_3 =>
              intro v3_8 v5_9 ls h hl
              unfold PX5_meetings_L3 at h
              refine lv_iload hx hb dX5_meetings_56 (lv_at hl 0 rfl) ?_
              refine lv_sipush (v := (8640 : Int32)) hx hb dX5_meetings_58 (by decide) ?_
              refine lv_icmp_ge (tgt := 102) hx hb dX5_meetings_61 (by decide) (fun c_61_9 => ?_) (fun c_61_9 => ?_)
              · replace h := h.1 c_61_9
                exact hexit_3 v3_8 v5_9 ls h (lv_sub hl [0, 1, 2, 3, 4, 5] rfl)
              · replace h := h.2 c_61_9
                refine lv_iload hx hb dX5_meetings_64 (lv_at hl 1 rfl) ?_
                refine lv_if_eq (tgt := 102) hx hb dX5_meetings_66 (by decide) (fun c_66_10 => ?_) (fun c_66_10 => ?_)
                · replace h := h.1 c_66_10
                  exact hexit_3 v3_8 v5_9 ls h (lv_sub hl [0, 1, 2, 3, 4, 5] rfl)
                · replace h := h.2 c_66_10
                  refine lv_iload_n hx hb dX5_meetings_69 rfl (lv_at hl 2 rfl) ?_
                  refine lv_aload_n hx hb dX5_meetings_70 rfl (lv_at hl 3 rfl) ?_
                  refine lv_iload_n hx hb dX5_meetings_71 rfl (lv_at hl 4 rfl) ?_
                  refine lv_iload_n hx hb dX5_meetings_72 rfl (lv_at hl 5 rfl) ?_
                  refine lv_iload hx hb dX5_meetings_73 (lv_at hl 0 rfl) ?_
                  refine lv_bipush (v := (12 : Int32)) hx hb dX5_meetings_75 (by decide) ?_
                  refine lv_idiv hx hb dX5_meetings_77 (by decide) ?_
                  refine lv_iload hx hb dX5_meetings_78 (lv_at hl 0 rfl) ?_
                  refine lv_bipush (v := (12 : Int32)) hx hb dX5_meetings_80 (by decide) ?_
                  refine lv_irem hx hb dX5_meetings_82 (by decide) ?_
                  refine vp_callSi (W.runV (As := [.int a_1, .int a_2, .int (v5_9 / (12 : Int32)), .int (v5_9 - v5_9 / (12 : Int32) * (12 : Int32))]) (rest := [.int v3_8]) ⟨hx, hb, hml, hown, hts⟩ (kX5_meets l g q b_m b_written b_spare b_spareWritten b_states b_fifth b_oldest b_stateCount b_text b_textLength b_at b_read b_columns b_told b_wants b_comes a_1 a_2 (v5_9 / (12 : Int32)) (v5_9 - v5_9 / (12 : Int32) * (12 : Int32)) _ h) (cwV 4 hts gX5_meetings_X5_meets rfl rfl rfl hdX5_meets ⟨(Nat.le_of_ble_eq_true rfl), (Nat.le_of_ble_eq_true rfl)⟩) (preV_R (r := (RX5, TX5, 16)) hK hP (ci := 5) (q0 := 0) rfl rfl) rfl rfl hl.1 rfl (lv_room (Nat.le_of_ble_eq_true rfl)) dX5_meetings_83 ⟨(Nat.le_of_ble_eq_true rfl), (Nat.le_of_ble_eq_true rfl)⟩) (fun r83_12 h => ?_)
                  refine lv_if_eq (tgt := 93) hx hb dX5_meetings_86 (by decide) (fun c_86_12 => ?_) (fun c_86_12 => ?_)
                  · replace h := h.1 c_86_12
                    refine lv_iconst (v := (0 : Int32)) hx hb dX5_meetings_93 (by decide) ?_
                    refine lv_iadd hx hb dX5_meetings_94 ?_
                    refine lv_topi (fun v3_14 e_v3_14 => ?_)
                    replace h := h v3_14 e_v3_14
                    refine lv_istore_n (lv' := [(3, .int v3_14), (5, .int v5_9), (4, .int t_7), (0, .ref (q 0)), (1, .int a_1), (2, .int a_2)]) hx hb dX5_meetings_95 rfl hl (by decide) rfl (fun ls hl => ?_)
                    obtain ⟨v5_15, e_v5_15⟩ : ∃ y : Int32, y = v5_9 + (1 : Int32) := ⟨_, rfl⟩
                    replace h := h v5_15 e_v5_15
                    refine lv_iinc (v := v5_15) (lv' := [(5, .int v5_15), (3, .int v3_14), (4, .int t_7), (0, .ref (q 0)), (1, .int a_1), (2, .int a_2)]) hx hb dX5_meetings_96 hl (k := 1) rfl (by rw [e_v5_15]; rfl) (by decide) rfl (fun ls hl => ?_)
                    refine lv_goto (tgt := 56) hx hb dX5_meetings_99 (by decide) ?_
                    exact ih_3 v3_14 v5_15 ls h (lv_sub hl [0, 2, 1, 3, 4, 5] rfl)
                  · replace h := h.2 c_86_12
                    refine lv_iconst (v := (1 : Int32)) hx hb dX5_meetings_89 (by decide) ?_
                    refine lv_goto (tgt := 94) hx hb dX5_meetings_90 (by decide) ?_
                    refine lv_iadd hx hb dX5_meetings_94 ?_
                    refine lv_topi (fun v3_16 e_v3_16 => ?_)
                    replace h := h v3_16 e_v3_16
                    refine lv_istore_n (lv' := [(3, .int v3_16), (5, .int v5_9), (4, .int t_7), (0, .ref (q 0)), (1, .int a_1), (2, .int a_2)]) hx hb dX5_meetings_95 rfl hl (by decide) rfl (fun ls hl => ?_)
                    obtain ⟨v5_17, e_v5_17⟩ : ∃ y : Int32, y = v5_9 + (1 : Int32) := ⟨_, rfl⟩
                    replace h := h v5_17 e_v5_17
                    refine lv_iinc (v := v5_17) (lv' := [(5, .int v5_17), (3, .int v3_16), (4, .int t_7), (0, .ref (q 0)), (1, .int a_1), (2, .int a_2)]) hx hb dX5_meetings_96 hl (k := 1) rfl (by rw [e_v5_17]; rfl) (by decide) rfl (fun ls hl => ?_)
                    refine lv_goto (tgt := 56) hx hb dX5_meetings_99 (by decide) ?_
                    exact ih_3 v3_16 v5_17 ls h (lv_sub hl [0, 2, 1, 3, 4, 5] rfl)
          obtain ⟨n_3, h⟩ := h
          refine loop_3 _ ?_ n_3 (0 : Int32) (0 : Int32) ls h (lv_sub hl [0, 1, 2, 3, 4, 5] rfl)
          intro v3_8 v5_9 ls h hl
          refine lv_iload_n hx hb dX5_meetings_102 rfl (lv_at hl 2 rfl) ?_
          exact W.iret hx hb hr (fun t ht hW => ⟨v3_8, rfl, h, ht⟩) (fun _ h9 => by cases h9) dX5_meetings_103
        refine lv_icmp_eq (tgt := 50) hx hb dX5_meetings_33 (by decide) (fun c_33_17 => ?_) (fun c_33_17 => ?_)
        · replace h := h.1 c_33_17
          refine lv_iconst (v := (0 : Int32)) hx hb dX5_meetings_50 (by decide) ?_
          exact tail_2 (0 : Int32) ls h (lv_sub hl [0, 1, 2, 3] rfl)
        · replace h := h.2 c_33_17
          refine lv_aload_n hx hb dX5_meetings_36 rfl (lv_at hl 1 rfl) ?_
          refine lv_iload_n hx hb dX5_meetings_37 rfl (lv_at hl 3 rfl) ?_
          refine lv_iconst (v := (3 : Int32)) hx hb dX5_meetings_38 (by decide) ?_
          refine vp_callSi (W.runV (As := [.int a_2, .int (3 : Int32)]) (rest := []) ⟨hx, hb, hml, hown, hts⟩ (kX5_of l g q b_m b_written b_spare b_spareWritten b_states b_fifth b_oldest b_stateCount b_text b_textLength b_at b_read b_columns b_told b_wants b_comes a_2 (3 : Int32) _ h) (cwV 2 hts gX5_meetings_X5_of rfl rfl rfl hdX5_of ⟨(Nat.le_of_ble_eq_true rfl), (Nat.le_of_ble_eq_true rfl)⟩) (preV_R (r := (RX5, TX5, 16)) hK hP (ci := 5) (q0 := 0) rfl rfl) rfl rfl hl.1 rfl (lv_room (Nat.le_of_ble_eq_true rfl)) dX5_meetings_39 ⟨(Nat.le_of_ble_eq_true rfl), (Nat.le_of_ble_eq_true rfl)⟩) (fun r39_19 h => ?_)
          refine lv_iconst (v := (2 : Int32)) hx hb dX5_meetings_42 (by decide) ?_
          refine lv_icmp_eq (tgt := 50) hx hb dX5_meetings_43 (by decide) (fun c_43_19 => ?_) (fun c_43_19 => ?_)
          · replace h := h.1 c_43_19
            refine lv_iconst (v := (0 : Int32)) hx hb dX5_meetings_50 (by decide) ?_
            exact tail_2 (0 : Int32) ls h (lv_sub hl [0, 1, 2, 3] rfl)
          · replace h := h.2 c_43_19
            refine lv_iconst (v := (1 : Int32)) hx hb dX5_meetings_46 (by decide) ?_
            refine lv_goto (tgt := 51) hx hb dX5_meetings_47 (by decide) ?_
            exact tail_2 (1 : Int32) ls h (lv_sub hl [0, 1, 2, 3] rfl)
      · replace h := h.2 c_18_4
        exact tail_1  ls h (lv_sub hl [0, 1, 2] rfl)
