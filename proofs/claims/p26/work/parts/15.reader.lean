def PX1_takeSemicolon (r_columnCount : Int32) (r_told : Int32) (a_1 : Int32) (k : Int32 → Int32 → Int32 → Prop) : Prop := ((r_columnCount < (40 : Int32) → (∀ f_columnCount_2 : Int32, f_columnCount_2 = (r_columnCount + (1 : Int32)) → (k (-1 : Int32) f_columnCount_2 (0 : Int32)))) ∧ (¬ r_columnCount < (40 : Int32) → (k a_1 r_columnCount r_told)))
def PX1_takeBracket (r_awaited : Int32) (a_1 : Int32) (a_2 : Int32) (k : Int32 → Int32 → Prop) : Prop := ((a_1 = (41 : Int32) → (k (-1 : Int32) (4 : Int32))) ∧ (¬ a_1 = (41 : Int32) → (k a_2 r_awaited)))
def PX1_takeDigit (r_awaited : Int32) (r_told : Int32) (r_number : Int32) (r_numberStart : Int32) (a_1 : Int32) (a_2 : Int32) (k : Int32 → Int32 → Int32 → Prop) : Prop := ((a_1 < (48 : Int32) → (k a_2 r_awaited r_number)) ∧ (¬ a_1 < (48 : Int32) → ((a_1 ≤ (57 : Int32) → (∀ f_number_3 : Int32, f_number_3 = ((r_number * (10 : Int32)) + (a_1 - (48 : Int32))) → ((f_number_3 < (1 : Int32) → (k r_numberStart r_awaited f_number_3)) ∧ (¬ f_number_3 < (1 : Int32) → (((r_told + f_number_3) ≤ (12 : Int32) → (k (-1 : Int32) (2 : Int32) f_number_3)) ∧ (¬ (r_told + f_number_3) ≤ (12 : Int32) → (k r_numberStart r_awaited f_number_3))))))) ∧ (¬ a_1 ≤ (57 : Int32) → (k a_2 r_awaited r_number)))))
def PX1_takeColor_L2 (r_columnCount : Int32) (a_3 : Int32) (v4_4 : Int32) (kx_2 : Int32 → (Nat → Int64) → Int32 → Prop) : Nat → Int32 → (Nat → Int64) → Int32 → Prop
  | 0, _, _, _ => False
  | n_2 + 1, v5_5, r_columns_6, r_told_7 => ((a_3 ≤ v5_5 → kx_2 v5_5 r_columns_6 r_told_7) ∧ (¬ a_3 ≤ v5_5 → (vp_in (r_columnCount - (1 : Int32)) 40 ∧ PX4_withColor (r_columns_6 (Int32.toNatClampNeg (r_columnCount - (1 : Int32)))) r_told_7 v4_4 (fun r67_10 => (vp_in (r_columnCount - (1 : Int32)) 40 ∧ (∀ r_columns_12 : Nat → Int64, r_columns_12 = vp_updL r_columns_6 (Int32.toNatClampNeg (r_columnCount - (1 : Int32))) r67_10 → (∀ f_told_13 : Int32, f_told_13 = (r_told_7 + (1 : Int32)) → (∀ v5_14 : Int32, v5_14 = v5_5 + (1 : Int32) → PX1_takeColor_L2 r_columnCount a_3 v4_4 kx_2 n_2 v5_14 r_columns_12 f_told_13))))))))
def PX1_takeColor_J1 (r_columns : Nat → Int64) (r_awaited : Int32) (r_told : Int32) (a_2 : Int32) (k : Int32 → (Nat → Int64) → Int32 → Int32 → Prop)  : Prop := (k a_2 r_columns r_awaited r_told)
def PX1_takeColor (r_columns : Nat → Int64) (r_columnCount : Int32) (r_awaited : Int32) (r_told : Int32) (a_1 : Int32) (a_2 : Int32) (a_3 : Int32) (k : Int32 → (Nat → Int64) → Int32 → Int32 → Prop) : Prop := ((a_1 < (48 : Int32) → PX1_takeColor_J1 r_columns r_awaited r_told a_2 k ) ∧ (¬ a_1 < (48 : Int32) → (((55 : Int32) < a_1 → PX1_takeColor_J1 r_columns r_awaited r_told a_2 k ) ∧ (¬ (55 : Int32) < a_1 → (((r_told + a_3) ≤ (12 : Int32) → (∀ v4_4 : Int32, v4_4 = (a_1 - (48 : Int32)) → (∃ n_2, PX1_takeColor_L2 r_columnCount a_3 v4_4 (fun v5_5 r_columns_6 r_told_7 => (k (-1 : Int32) r_columns_6 (0 : Int32) r_told_7)) n_2 (0 : Int32) r_columns r_told))) ∧ (¬ (r_told + a_3) ≤ (12 : Int32) → PX1_takeColor_J1 r_columns r_awaited r_told a_2 k ))))))
def PX1_takePart (r_columns : Nat → Int64) (r_columnCount : Int32) (r_awaited : Int32) (r_told : Int32) (a_1 : Int32) (a_2 : Int32) (k : Int32 → (Nat → Int64) → Int32 → Int32 → Int32 → Prop) : Prop := ((¬ a_1 = (59 : Int32) → ((¬ a_1 = (40 : Int32) → PX1_takeColor r_columns r_columnCount r_awaited r_told a_1 a_2 (1 : Int32) (fun r29_6 r_columns_3 r_awaited_4 r_told_5 => (k r29_6 r_columns_3 r_columnCount r_awaited_4 r_told_5))) ∧ (a_1 = (40 : Int32) → (k (-1 : Int32) r_columns r_columnCount (1 : Int32) r_told)))) ∧ (a_1 = (59 : Int32) → PX1_takeSemicolon r_columnCount r_told a_2 (fun r8_9 r_columnCount_7 r_told_8 => (k r8_9 r_columns r_columnCount_7 r_awaited r_told_8))))
def PX1_take_J1 (r_columns : Nat → Int64) (r_columnCount : Int32) (r_told : Int32) (r_number : Int32) (r_numberStart : Int32) (k : Int32 → (Nat → Int64) → Int32 → Int32 → Int32 → Int32 → Int32 → Prop) (r_awaited_23 : Int32) : Prop := (k (-1 : Int32) r_columns r_columnCount r_awaited_23 r_told r_number r_numberStart)
def PX1_take (r_columns : Nat → Int64) (r_columnCount : Int32) (r_awaited : Int32) (r_told : Int32) (r_number : Int32) (r_numberStart : Int32) (a_1 : Int32) (a_2 : Int32) (k : Int32 → (Nat → Int64) → Int32 → Int32 → Int32 → Int32 → Int32 → Prop) : Prop := ((¬ a_1 = (32 : Int32) → (((r_awaited.toInt < 1 ∨ 4 < r_awaited.toInt) → PX1_takePart r_columns r_columnCount r_awaited r_told a_1 a_2 (fun r116_7 r_columns_3 r_columnCount_4 r_awaited_5 r_told_6 => (k r116_7 r_columns_3 r_columnCount_4 r_awaited_5 r_told_6 r_number r_numberStart))) ∧ (r_awaited = (1 : Int32) → PX1_takeDigit r_awaited r_told (0 : Int32) a_2 a_1 a_2 (fun r69_10 r_awaited_8 r_number_9 => (k r69_10 r_columns r_columnCount r_awaited_8 r_told r_number_9 a_2))) ∧ (r_awaited = (2 : Int32) → ((¬ a_1 = (41 : Int32) → PX1_takeDigit r_awaited r_told r_number r_numberStart a_1 a_2 (fun r91_14 r_awaited_12 r_number_13 => (k r91_14 r_columns r_columnCount r_awaited_12 r_told r_number_13 r_numberStart))) ∧ (a_1 = (41 : Int32) → PX1_takeBracket r_awaited a_1 a_2 (fun r82_16 r_awaited_15 => (k r82_16 r_columns r_columnCount r_awaited_15 r_told r_number r_numberStart))))) ∧ (r_awaited = (3 : Int32) → PX1_takeBracket r_awaited a_1 a_2 (fun r98_18 r_awaited_17 => (k r98_18 r_columns r_columnCount r_awaited_17 r_told r_number r_numberStart))) ∧ (r_awaited = (4 : Int32) → PX1_takeColor r_columns r_columnCount r_awaited r_told a_1 a_2 r_number (fun r109_22 r_columns_19 r_awaited_20 r_told_21 => (k r109_22 r_columns_19 r_columnCount r_awaited_20 r_told_21 r_number r_numberStart))))) ∧ (a_1 = (32 : Int32) → ((¬ r_awaited = (2 : Int32) → PX1_take_J1 r_columns r_columnCount r_told r_number r_numberStart k r_awaited) ∧ (r_awaited = (2 : Int32) → PX1_take_J1 r_columns r_columnCount r_told r_number r_numberStart k (3 : Int32)))))
def PX1_read_L1  (kx_1 : Int32 → (Nat → Int64) → Prop) : Nat → Int32 → (Nat → Int64) → Prop
  | 0, _, _ => False
  | n_1 + 1, v3_1, r_columns_2 => (((40 : Int32) ≤ v3_1 → kx_1 v3_1 r_columns_2) ∧ (¬ (40 : Int32) ≤ v3_1 → (vp_in v3_1 40 ∧ (∀ r_columns_5 : Nat → Int64, r_columns_5 = vp_updL r_columns_2 (Int32.toNatClampNeg v3_1) (0 : Int64) → (∀ v3_6 : Int32, v3_6 = v3_1 + (1 : Int32) → PX1_read_L1  kx_1 n_1 v3_6 r_columns_5)))))
def PX1_read_L2 (t_text : Nat → Int32) (a_2 : Int32) (k : Int32 → (Nat → Int64) → Int32 → Int32 → Int32 → Int32 → Int32 → Prop) (kx_2 : Int32 → (Nat → Int64) → Int32 → Int32 → Int32 → Int32 → Int32 → Prop) : Nat → Int32 → (Nat → Int64) → Int32 → Int32 → Int32 → Int32 → Int32 → Prop
  | 0, _, _, _, _, _, _, _ => False
  | n_2 + 1, v3_7, r_columns_8, r_columnCount_9, r_awaited_10, r_told_11, r_number_12, r_numberStart_13 => ((a_2 ≤ v3_7 → kx_2 v3_7 r_columns_8 r_columnCount_9 r_awaited_10 r_told_11 r_number_12 r_numberStart_13) ∧ (¬ a_2 ≤ v3_7 → (((160 : Int32) ≤ v3_7 → kx_2 v3_7 r_columns_8 r_columnCount_9 r_awaited_10 r_told_11 r_number_12 r_numberStart_13) ∧ (¬ (160 : Int32) ≤ v3_7 → (vp_in v3_7 160 ∧ PX1_take r_columns_8 r_columnCount_9 r_awaited_10 r_told_11 r_number_12 r_numberStart_13 (t_text (Int32.toNatClampNeg v3_7)) v3_7 (fun r54_23 r_columns_17 r_columnCount_18 r_awaited_19 r_told_20 r_number_21 r_numberStart_22 => ((r54_23 < 0 → (∀ v3_25 : Int32, v3_25 = v3_7 + (1 : Int32) → PX1_read_L2 t_text a_2 k kx_2 n_2 v3_25 r_columns_17 r_columnCount_18 r_awaited_19 r_told_20 r_number_21 r_numberStart_22)) ∧ (¬ r54_23 < 0 → (k r54_23 r_columns_17 r_columnCount_18 r_awaited_19 r_told_20 r_number_21 r_numberStart_22)))))))))
def PX1_read (r_columns : Nat → Int64) (r_columnCount : Int32) (r_awaited : Int32) (r_told : Int32) (r_number : Int32) (r_numberStart : Int32) (t_text : Nat → Int32) (a_2 : Int32) (k : Int32 → (Nat → Int64) → Int32 → Int32 → Int32 → Int32 → Int32 → Prop) : Prop := (∃ n_1, PX1_read_L1  (fun v3_1 r_columns_2 => (∃ n_2, PX1_read_L2 t_text a_2 k (fun v3_7 r_columns_8 r_columnCount_9 r_awaited_10 r_told_11 r_number_12 r_numberStart_13 => ((¬ r_awaited_10 = 0 → (k a_2 r_columns_8 r_columnCount_9 r_awaited_10 r_told_11 r_number_12 r_numberStart_13)) ∧ (r_awaited_10 = 0 → (k (-1 : Int32) r_columns_8 r_columnCount_9 r_awaited_10 r_told_11 r_number_12 r_numberStart_13)))) n_2 (0 : Int32) r_columns_2 (1 : Int32) (0 : Int32) (0 : Int32) r_number r_numberStart)) n_1 (0 : Int32) r_columns)
theorem hdX1_takeSemicolon : yX1_takeSemicolon.cls = RX1 ∧ yX1_takeSemicolon.cls ≠ "java/lang/invoke/MethodHandle" ∧ yX1_takeSemicolon.cls ≠ "java/lang/invoke/VarHandle" ∧ (parseMethodDescriptor yX1_takeSemicolon.desc).map (fun d => d.parameters.length) = some 1 := by decide +kernel
set_option maxHeartbeats 4000000 in
set_option maxRecDepth 100000 in
theorem kX1_takeSemicolon (l : Launch) (g : GG) (rq : Nat → Nat) (sz : Nat) (r_columns : Nat → Int64) (r_columnCount : Int32) (r_awaited : Int32) (r_told : Int32) (r_number : Int32) (r_numberStart : Int32) (a_1 : Int32) (k : Int32 → Int32 → Int32 → Prop) (h : PX1_takeSemicolon r_columnCount r_told a_1 k) : Met l yX1_takeSemicolon wsX1_takeSemicolon ({ frames := 0, cells := 0, slots := 0, locals := 0 }) (PreM g [.ref (rq 0), .int a_1] (wR g rq r_columns r_columnCount r_awaited r_told r_number r_numberStart) sz) (va_Qi (fun (r : Int32) (u : Int32 × Int32) => k r u.1 u.2) (fun u t => PostB g (va_A (wR g rq r_columns r_columnCount r_awaited r_told r_number r_numberStart) sz) (wR g rq r_columns u.1 r_awaited u.2 r_number r_numberStart) t) (va_A (wR g rq r_columns r_columnCount r_awaited r_told r_number r_numberStart) sz)) 0 0 (va_A (wR g rq r_columns r_columnCount r_awaited r_told r_number r_numberStart) sz) := by
  refine Met.ofW (cc := cX1_takeSemicolon) (maxL := 2) (ret := (some .int)) (by decide) rfl ?_
  intro p e s m args below meth c s₁ B hml hv
  obtain ⟨rfl, hsz, hP, hK, hD0⟩ := hv
  have hx := B.exec
  have hb := B.bytes
  have hr := B.returns
  have hts := atoms_spec (ws := wsX1_takeSemicolon) B.pre
  have hown : s.vm.findClass RX1 = some m.cls := findClass_of_methodNamed B.named
  have hlocks := B.notSynchronized
  have iX1 : ∀ w ∈ wsX10, w ∈ wsX1_takeSemicolon := by decide +kernel
  subst hsz
  have hD := hD0.self (sz := s.heap.size)
  generalize hAe : va_A (wR g rq r_columns r_columnCount r_awaited r_told r_number r_numberStart) s.heap.size = A at hD ⊢
  have hA : ∀ q : Nat, s.heap.size ≤ q → A q := fun q h => by rw [← hAe]; exact Or.inr h
  clear hAe hD0
  have hS : va_S A s.heap s.heap [] := va_S.rf
  have hl := lv_entry ([.ref (rq 0), .int a_1]) (n := 2) (Nat.le_of_ble_eq_true rfl)
  rw [lg_entry_eq]
  generalize (lg_sl ([.ref (rq 0), .int a_1]) ++ List.replicate (2 - (lg_sl ([.ref (rq 0), .int a_1])).length) Slot.unset).toArray = ls at hl ⊢
  have hl : lv_has ls 2 [(0, .ref (rq 0)), (1, .int a_1)] := hl
  unfold PX1_takeSemicolon at h
  obtain ⟨H, hHe⟩ : ∃ y, y = s.heap := ⟨_, rfl⟩
  rw [← hHe] at hP
  have hS : va_S A s.heap H [] := by rw [hHe]; exact hS
  have hW0 : ∀ (Q : State → Prop), W p l e (headSpec wsX1_takeSemicolon ({ frames := 0, cells := 0, slots := 0, locals := 0 })).room s m ([.ref (rq 0), .int a_1] : List Value).toArray below meth c H [] 0 0 Q (F0 m 0 ls []) → W p l e (headSpec wsX1_takeSemicolon ({ frames := 0, cells := 0, slots := 0, locals := 0 })).room s m ([.ref (rq 0), .int a_1] : List Value).toArray below meth c s.heap [] 0 0 Q (F0 m 0 ls []) := by rw [hHe]; exact fun _ h9 => h9
  refine hW0 _ ?_
  clear hW0 hHe
  generalize ([] : List Loc) = locs at hS ⊢
  refine lv_aload_n hx hb dX1_takeSemicolon_0 rfl (lv_at hl 0 rfl) ?_
  refine va_get (D := g.1) (ci := 1) (v := .int r_columnCount) (C := RX1) (T := TX1) (N := 6) hx hb hts iX1 hown hK.1 hP 0 rfl rfl 1 (by decide) (hts (.fieldLink RX1 15 "LightWheel$Reader" "columnCount" "I") (by decide +kernel)) (fun _ h9 => h9) rfl dX1_takeSemicolon_1 ?_
  refine lv_bipush (v := (40 : Int32)) hx hb dX1_takeSemicolon_4 (by decide) ?_
  refine lv_icmp_lt (tgt := 11) hx hb dX1_takeSemicolon_6 (by decide) (fun c_6_0 => ?_) (fun c_6_0 => ?_)
  · replace h := h.1 c_6_0
    refine lv_aload_n hx hb dX1_takeSemicolon_11 rfl (lv_at hl 0 rfl) ?_
    refine lv_dup hx hb dX1_takeSemicolon_12 rfl ?_
    refine va_get (D := g.1) (ci := 1) (v := .int r_columnCount) (C := RX1) (T := TX1) (N := 6) hx hb hts iX1 hown hK.1 hP 0 rfl rfl 1 (by decide) (hts (.fieldLink RX1 15 "LightWheel$Reader" "columnCount" "I") (by decide +kernel)) (fun _ h9 => h9) rfl dX1_takeSemicolon_13 ?_
    refine lv_iconst (v := (1 : Int32)) hx hb dX1_takeSemicolon_16 (by decide) ?_
    refine lv_iadd hx hb dX1_takeSemicolon_17 ?_
    refine lv_topi (fun f_columnCount_2 e_f_columnCount_2 => ?_)
    replace h := h f_columnCount_2 e_f_columnCount_2
    refine va_put (D := g.1) (ci := 1) (v := .int f_columnCount_2) (ty := .int) (C := RX1) (T := TX1) (N := 6) hx hb hts iX1 tyX1 tyX1_ok nmX1 hown hK.1 hP hD hS 0 rfl rfl 1 (by decide) (hts (.fieldLink RX1 15 "LightWheel$Reader" "columnCount" "I") (by decide +kernel)) (fun _ h9 => h9) rfl (by decide +kernel) rfl rfl (Nat.le_of_ble_eq_true rfl) dX1_takeSemicolon_18 (fun H locs hP hD hS => ?_)
    have hP : va_P g.1 vwCl (wR g rq r_columns f_columnCount_2 r_awaited r_told r_number r_numberStart) H := hP
    have hD : va_D A (wR g rq r_columns f_columnCount_2 r_awaited r_told r_number r_numberStart) := hD
    refine lv_aload_n hx hb dX1_takeSemicolon_21 rfl (lv_at hl 0 rfl) ?_
    refine lv_iconst (v := (0 : Int32)) hx hb dX1_takeSemicolon_22 (by decide) ?_
    refine va_put (D := g.1) (ci := 1) (v := .int (0 : Int32)) (ty := .int) (C := RX1) (T := TX1) (N := 6) hx hb hts iX1 tyX1 tyX1_ok nmX1 hown hK.1 hP hD hS 0 rfl rfl 3 (by decide) (hts (.fieldLink RX1 22 "LightWheel$Reader" "told" "I") (by decide +kernel)) (fun _ h9 => h9) rfl (by decide +kernel) rfl rfl (Nat.le_of_ble_eq_true rfl) dX1_takeSemicolon_23 (fun H locs hP hD hS => ?_)
    have hP : va_P g.1 vwCl (wR g rq r_columns f_columnCount_2 r_awaited (0 : Int32) r_number r_numberStart) H := hP
    have hD : va_D A (wR g rq r_columns f_columnCount_2 r_awaited (0 : Int32) r_number r_numberStart) := hD
    refine lv_iconst (v := (-1 : Int32)) hx hb dX1_takeSemicolon_26 (by decide) ?_
    exact W.iret hx hb hr (fun t ht hW => ⟨⟨(-1 : Int32), (f_columnCount_2, (0 : Int32)), rfl, h, by rw [ht]; exact hP, hD⟩, hS.F ht⟩) hS.2.2 dX1_takeSemicolon_27
  · replace h := h.2 c_6_0
    refine lv_iload_n hx hb dX1_takeSemicolon_9 rfl (lv_at hl 1 rfl) ?_
    exact W.iret hx hb hr (fun t ht hW => ⟨⟨a_1, (r_columnCount, r_told), rfl, h, by rw [ht]; exact hP, hD⟩, hS.F ht⟩) hS.2.2 dX1_takeSemicolon_10
theorem hdX1_takeBracket : yX1_takeBracket.cls = RX1 ∧ yX1_takeBracket.cls ≠ "java/lang/invoke/MethodHandle" ∧ yX1_takeBracket.cls ≠ "java/lang/invoke/VarHandle" ∧ (parseMethodDescriptor yX1_takeBracket.desc).map (fun d => d.parameters.length) = some 2 := by decide +kernel
set_option maxHeartbeats 4000000 in
set_option maxRecDepth 100000 in
theorem kX1_takeBracket (l : Launch) (g : GG) (rq : Nat → Nat) (sz : Nat) (r_columns : Nat → Int64) (r_columnCount : Int32) (r_awaited : Int32) (r_told : Int32) (r_number : Int32) (r_numberStart : Int32) (a_1 : Int32) (a_2 : Int32) (k : Int32 → Int32 → Prop) (h : PX1_takeBracket r_awaited a_1 a_2 k) : Met l yX1_takeBracket wsX1_takeBracket ({ frames := 0, cells := 0, slots := 0, locals := 0 }) (PreM g [.ref (rq 0), .int a_1, .int a_2] (wR g rq r_columns r_columnCount r_awaited r_told r_number r_numberStart) sz) (va_Qi (fun (r : Int32) (u : Int32) => k r u) (fun u t => PostB g (va_A (wR g rq r_columns r_columnCount r_awaited r_told r_number r_numberStart) sz) (wR g rq r_columns r_columnCount u r_told r_number r_numberStart) t) (va_A (wR g rq r_columns r_columnCount r_awaited r_told r_number r_numberStart) sz)) 0 0 (va_A (wR g rq r_columns r_columnCount r_awaited r_told r_number r_numberStart) sz) := by
  refine Met.ofW (cc := cX1_takeBracket) (maxL := 3) (ret := (some .int)) (by decide) rfl ?_
  intro p e s m args below meth c s₁ B hml hv
  obtain ⟨rfl, hsz, hP, hK, hD0⟩ := hv
  have hx := B.exec
  have hb := B.bytes
  have hr := B.returns
  have hts := atoms_spec (ws := wsX1_takeBracket) B.pre
  have hown : s.vm.findClass RX1 = some m.cls := findClass_of_methodNamed B.named
  have hlocks := B.notSynchronized
  have iX1 : ∀ w ∈ wsX10, w ∈ wsX1_takeBracket := by decide +kernel
  subst hsz
  have hD := hD0.self (sz := s.heap.size)
  generalize hAe : va_A (wR g rq r_columns r_columnCount r_awaited r_told r_number r_numberStart) s.heap.size = A at hD ⊢
  have hA : ∀ q : Nat, s.heap.size ≤ q → A q := fun q h => by rw [← hAe]; exact Or.inr h
  clear hAe hD0
  have hS : va_S A s.heap s.heap [] := va_S.rf
  have hl := lv_entry ([.ref (rq 0), .int a_1, .int a_2]) (n := 3) (Nat.le_of_ble_eq_true rfl)
  rw [lg_entry_eq]
  generalize (lg_sl ([.ref (rq 0), .int a_1, .int a_2]) ++ List.replicate (3 - (lg_sl ([.ref (rq 0), .int a_1, .int a_2])).length) Slot.unset).toArray = ls at hl ⊢
  have hl : lv_has ls 3 [(0, .ref (rq 0)), (1, .int a_1), (2, .int a_2)] := hl
  unfold PX1_takeBracket at h
  obtain ⟨H, hHe⟩ : ∃ y, y = s.heap := ⟨_, rfl⟩
  rw [← hHe] at hP
  have hS : va_S A s.heap H [] := by rw [hHe]; exact hS
  have hW0 : ∀ (Q : State → Prop), W p l e (headSpec wsX1_takeBracket ({ frames := 0, cells := 0, slots := 0, locals := 0 })).room s m ([.ref (rq 0), .int a_1, .int a_2] : List Value).toArray below meth c H [] 0 0 Q (F0 m 0 ls []) → W p l e (headSpec wsX1_takeBracket ({ frames := 0, cells := 0, slots := 0, locals := 0 })).room s m ([.ref (rq 0), .int a_1, .int a_2] : List Value).toArray below meth c s.heap [] 0 0 Q (F0 m 0 ls []) := by rw [hHe]; exact fun _ h9 => h9
  refine hW0 _ ?_
  clear hW0 hHe
  generalize ([] : List Loc) = locs at hS ⊢
  refine lv_iload_n hx hb dX1_takeBracket_0 rfl (lv_at hl 1 rfl) ?_
  refine lv_bipush (v := (41 : Int32)) hx hb dX1_takeBracket_1 (by decide) ?_
  refine lv_icmp_eq (tgt := 8) hx hb dX1_takeBracket_3 (by decide) (fun c_3_0 => ?_) (fun c_3_0 => ?_)
  · replace h := h.1 c_3_0
    refine lv_aload_n hx hb dX1_takeBracket_8 rfl (lv_at hl 0 rfl) ?_
    refine lv_iconst (v := (4 : Int32)) hx hb dX1_takeBracket_9 (by decide) ?_
    refine va_put (D := g.1) (ci := 1) (v := .int (4 : Int32)) (ty := .int) (C := RX1) (T := TX1) (N := 6) hx hb hts iX1 tyX1 tyX1_ok nmX1 hown hK.1 hP hD hS 0 rfl rfl 2 (by decide) (hts (.fieldLink RX1 19 "LightWheel$Reader" "awaited" "I") (by decide +kernel)) (fun _ h9 => h9) rfl (by decide +kernel) rfl rfl (Nat.le_of_ble_eq_true rfl) dX1_takeBracket_10 (fun H locs hP hD hS => ?_)
    have hP : va_P g.1 vwCl (wR g rq r_columns r_columnCount (4 : Int32) r_told r_number r_numberStart) H := hP
    have hD : va_D A (wR g rq r_columns r_columnCount (4 : Int32) r_told r_number r_numberStart) := hD
    refine lv_iconst (v := (-1 : Int32)) hx hb dX1_takeBracket_13 (by decide) ?_
    exact W.iret hx hb hr (fun t ht hW => ⟨⟨(-1 : Int32), (4 : Int32), rfl, h, by rw [ht]; exact hP, hD⟩, hS.F ht⟩) hS.2.2 dX1_takeBracket_14
  · replace h := h.2 c_3_0
    refine lv_iload_n hx hb dX1_takeBracket_6 rfl (lv_at hl 2 rfl) ?_
    exact W.iret hx hb hr (fun t ht hW => ⟨⟨a_2, r_awaited, rfl, h, by rw [ht]; exact hP, hD⟩, hS.F ht⟩) hS.2.2 dX1_takeBracket_7
theorem hdX1_takeDigit : yX1_takeDigit.cls = RX1 ∧ yX1_takeDigit.cls ≠ "java/lang/invoke/MethodHandle" ∧ yX1_takeDigit.cls ≠ "java/lang/invoke/VarHandle" ∧ (parseMethodDescriptor yX1_takeDigit.desc).map (fun d => d.parameters.length) = some 2 := by decide +kernel
set_option maxHeartbeats 4000000 in
set_option maxRecDepth 100000 in
theorem kX1_takeDigit (l : Launch) (g : GG) (rq : Nat → Nat) (sz : Nat) (r_columns : Nat → Int64) (r_columnCount : Int32) (r_awaited : Int32) (r_told : Int32) (r_number : Int32) (r_numberStart : Int32) (a_1 : Int32) (a_2 : Int32) (k : Int32 → Int32 → Int32 → Prop) (h : PX1_takeDigit r_awaited r_told r_number r_numberStart a_1 a_2 k) : Met l yX1_takeDigit wsX1_takeDigit ({ frames := 0, cells := 0, slots := 0, locals := 0 }) (PreM g [.ref (rq 0), .int a_1, .int a_2] (wR g rq r_columns r_columnCount r_awaited r_told r_number r_numberStart) sz) (va_Qi (fun (r : Int32) (u : Int32 × Int32) => k r u.1 u.2) (fun u t => PostB g (va_A (wR g rq r_columns r_columnCount r_awaited r_told r_number r_numberStart) sz) (wR g rq r_columns r_columnCount u.1 r_told u.2 r_numberStart) t) (va_A (wR g rq r_columns r_columnCount r_awaited r_told r_number r_numberStart) sz)) 0 0 (va_A (wR g rq r_columns r_columnCount r_awaited r_told r_number r_numberStart) sz) := by
  refine Met.ofW (cc := cX1_takeDigit) (maxL := 3) (ret := (some .int)) (by decide) rfl ?_
  intro p e s m args below meth c s₁ B hml hv
  obtain ⟨rfl, hsz, hP, hK, hD0⟩ := hv
  have hx := B.exec
  have hb := B.bytes
  have hr := B.returns
  have hts := atoms_spec (ws := wsX1_takeDigit) B.pre
  have hown : s.vm.findClass RX1 = some m.cls := findClass_of_methodNamed B.named
  have hlocks := B.notSynchronized
  have iX1 : ∀ w ∈ wsX10, w ∈ wsX1_takeDigit := by decide +kernel
  subst hsz
  have hD := hD0.self (sz := s.heap.size)
  generalize hAe : va_A (wR g rq r_columns r_columnCount r_awaited r_told r_number r_numberStart) s.heap.size = A at hD ⊢
  have hA : ∀ q : Nat, s.heap.size ≤ q → A q := fun q h => by rw [← hAe]; exact Or.inr h
  clear hAe hD0
  have hS : va_S A s.heap s.heap [] := va_S.rf
  have hl := lv_entry ([.ref (rq 0), .int a_1, .int a_2]) (n := 3) (Nat.le_of_ble_eq_true rfl)
  rw [lg_entry_eq]
  generalize (lg_sl ([.ref (rq 0), .int a_1, .int a_2]) ++ List.replicate (3 - (lg_sl ([.ref (rq 0), .int a_1, .int a_2])).length) Slot.unset).toArray = ls at hl ⊢
  have hl : lv_has ls 3 [(0, .ref (rq 0)), (1, .int a_1), (2, .int a_2)] := hl
  unfold PX1_takeDigit at h
  obtain ⟨H, hHe⟩ : ∃ y, y = s.heap := ⟨_, rfl⟩
  rw [← hHe] at hP
  have hS : va_S A s.heap H [] := by rw [hHe]; exact hS
  have hW0 : ∀ (Q : State → Prop), W p l e (headSpec wsX1_takeDigit ({ frames := 0, cells := 0, slots := 0, locals := 0 })).room s m ([.ref (rq 0), .int a_1, .int a_2] : List Value).toArray below meth c H [] 0 0 Q (F0 m 0 ls []) → W p l e (headSpec wsX1_takeDigit ({ frames := 0, cells := 0, slots := 0, locals := 0 })).room s m ([.ref (rq 0), .int a_1, .int a_2] : List Value).toArray below meth c s.heap [] 0 0 Q (F0 m 0 ls []) := by rw [hHe]; exact fun _ h9 => h9
  refine hW0 _ ?_
  clear hW0 hHe
  generalize ([] : List Loc) = locs at hS ⊢
  refine lv_iload_n hx hb dX1_takeDigit_0 rfl (lv_at hl 1 rfl) ?_
  refine lv_bipush (v := (48 : Int32)) hx hb dX1_takeDigit_1 (by decide) ?_
  refine lv_icmp_lt (tgt := 12) hx hb dX1_takeDigit_3 (by decide) (fun c_3_0 => ?_) (fun c_3_0 => ?_)
  · replace h := h.1 c_3_0
    refine lv_iload_n hx hb dX1_takeDigit_12 rfl (lv_at hl 2 rfl) ?_
    exact W.iret hx hb hr (fun t ht hW => ⟨⟨a_2, (r_awaited, r_number), rfl, h, by rw [ht]; exact hP, hD⟩, hS.F ht⟩) hS.2.2 dX1_takeDigit_13
  · replace h := h.2 c_3_0
    refine lv_iload_n hx hb dX1_takeDigit_6 rfl (lv_at hl 1 rfl) ?_
    refine lv_bipush (v := (57 : Int32)) hx hb dX1_takeDigit_7 (by decide) ?_
    refine lv_icmp_le (tgt := 14) hx hb dX1_takeDigit_9 (by decide) (fun c_9_1 => ?_) (fun c_9_1 => ?_)
    · replace h := h.1 c_9_1
      refine lv_aload_n hx hb dX1_takeDigit_14 rfl (lv_at hl 0 rfl) ?_
      refine lv_aload_n hx hb dX1_takeDigit_15 rfl (lv_at hl 0 rfl) ?_
      refine va_get (D := g.1) (ci := 1) (v := .int r_number) (C := RX1) (T := TX1) (N := 6) hx hb hts iX1 hown hK.1 hP 0 rfl rfl 4 (by decide) (hts (.fieldLink RX1 32 "LightWheel$Reader" "number" "I") (by decide +kernel)) (fun _ h9 => h9) rfl dX1_takeDigit_16 ?_
      refine lv_bipush (v := (10 : Int32)) hx hb dX1_takeDigit_19 (by decide) ?_
      refine lv_imul hx hb dX1_takeDigit_21 ?_
      refine lv_iload_n hx hb dX1_takeDigit_22 rfl (lv_at hl 1 rfl) ?_
      refine lv_bipush (v := (48 : Int32)) hx hb dX1_takeDigit_23 (by decide) ?_
      refine lv_isub hx hb dX1_takeDigit_25 ?_
      refine lv_iadd hx hb dX1_takeDigit_26 ?_
      refine lv_topi (fun f_number_3 e_f_number_3 => ?_)
      replace h := h f_number_3 e_f_number_3
      refine va_put (D := g.1) (ci := 1) (v := .int f_number_3) (ty := .int) (C := RX1) (T := TX1) (N := 6) hx hb hts iX1 tyX1 tyX1_ok nmX1 hown hK.1 hP hD hS 0 rfl rfl 4 (by decide) (hts (.fieldLink RX1 32 "LightWheel$Reader" "number" "I") (by decide +kernel)) (fun _ h9 => h9) rfl (by decide +kernel) rfl rfl (Nat.le_of_ble_eq_true rfl) dX1_takeDigit_27 (fun H locs hP hD hS => ?_)
      have hP : va_P g.1 vwCl (wR g rq r_columns r_columnCount r_awaited r_told f_number_3 r_numberStart) H := hP
      have hD : va_D A (wR g rq r_columns r_columnCount r_awaited r_told f_number_3 r_numberStart) := hD
      refine lv_aload_n hx hb dX1_takeDigit_30 rfl (lv_at hl 0 rfl) ?_
      refine va_get (D := g.1) (ci := 1) (v := .int f_number_3) (C := RX1) (T := TX1) (N := 6) hx hb hts iX1 hown hK.1 hP 0 rfl rfl 4 (by decide) (hts (.fieldLink RX1 32 "LightWheel$Reader" "number" "I") (by decide +kernel)) (fun _ h9 => h9) rfl dX1_takeDigit_31 ?_
      refine lv_iconst (v := (1 : Int32)) hx hb dX1_takeDigit_34 (by decide) ?_
      refine lv_icmp_lt (tgt := 52) hx hb dX1_takeDigit_35 (by decide) (fun c_35_3 => ?_) (fun c_35_3 => ?_)
      · replace h := h.1 c_35_3
        refine lv_aload_n hx hb dX1_takeDigit_52 rfl (lv_at hl 0 rfl) ?_
        refine va_get (D := g.1) (ci := 1) (v := .int r_numberStart) (C := RX1) (T := TX1) (N := 6) hx hb hts iX1 hown hK.1 hP 0 rfl rfl 5 (by decide) (hts (.fieldLink RX1 29 "LightWheel$Reader" "numberStart" "I") (by decide +kernel)) (fun _ h9 => h9) rfl dX1_takeDigit_53 ?_
        exact W.iret hx hb hr (fun t ht hW => ⟨⟨r_numberStart, (r_awaited, f_number_3), rfl, h, by rw [ht]; exact hP, hD⟩, hS.F ht⟩) hS.2.2 dX1_takeDigit_56
      · replace h := h.2 c_35_3
        refine lv_aload_n hx hb dX1_takeDigit_38 rfl (lv_at hl 0 rfl) ?_
        refine va_get (D := g.1) (ci := 1) (v := .int r_told) (C := RX1) (T := TX1) (N := 6) hx hb hts iX1 hown hK.1 hP 0 rfl rfl 3 (by decide) (hts (.fieldLink RX1 22 "LightWheel$Reader" "told" "I") (by decide +kernel)) (fun _ h9 => h9) rfl dX1_takeDigit_39 ?_
        refine lv_aload_n hx hb dX1_takeDigit_42 rfl (lv_at hl 0 rfl) ?_
        refine va_get (D := g.1) (ci := 1) (v := .int f_number_3) (C := RX1) (T := TX1) (N := 6) hx hb hts iX1 hown hK.1 hP 0 rfl rfl 4 (by decide) (hts (.fieldLink RX1 32 "LightWheel$Reader" "number" "I") (by decide +kernel)) (fun _ h9 => h9) rfl dX1_takeDigit_43 ?_
        refine lv_iadd hx hb dX1_takeDigit_46 ?_
        refine lv_bipush (v := (12 : Int32)) hx hb dX1_takeDigit_47 (by decide) ?_
        refine lv_icmp_le (tgt := 57) hx hb dX1_takeDigit_49 (by decide) (fun c_49_4 => ?_) (fun c_49_4 => ?_)
        · replace h := h.1 c_49_4
          refine lv_aload_n hx hb dX1_takeDigit_57 rfl (lv_at hl 0 rfl) ?_
          refine lv_iconst (v := (2 : Int32)) hx hb dX1_takeDigit_58 (by decide) ?_
          refine va_put (D := g.1) (ci := 1) (v := .int (2 : Int32)) (ty := .int) (C := RX1) (T := TX1) (N := 6) hx hb hts iX1 tyX1 tyX1_ok nmX1 hown hK.1 hP hD hS 0 rfl rfl 2 (by decide) (hts (.fieldLink RX1 19 "LightWheel$Reader" "awaited" "I") (by decide +kernel)) (fun _ h9 => h9) rfl (by decide +kernel) rfl rfl (Nat.le_of_ble_eq_true rfl) dX1_takeDigit_59 (fun H locs hP hD hS => ?_)
          have hP : va_P g.1 vwCl (wR g rq r_columns r_columnCount (2 : Int32) r_told f_number_3 r_numberStart) H := hP
          have hD : va_D A (wR g rq r_columns r_columnCount (2 : Int32) r_told f_number_3 r_numberStart) := hD
          refine lv_iconst (v := (-1 : Int32)) hx hb dX1_takeDigit_62 (by decide) ?_
          exact W.iret hx hb hr (fun t ht hW => ⟨⟨(-1 : Int32), ((2 : Int32), f_number_3), rfl, h, by rw [ht]; exact hP, hD⟩, hS.F ht⟩) hS.2.2 dX1_takeDigit_63
        · replace h := h.2 c_49_4
          refine lv_aload_n hx hb dX1_takeDigit_52 rfl (lv_at hl 0 rfl) ?_
          refine va_get (D := g.1) (ci := 1) (v := .int r_numberStart) (C := RX1) (T := TX1) (N := 6) hx hb hts iX1 hown hK.1 hP 0 rfl rfl 5 (by decide) (hts (.fieldLink RX1 29 "LightWheel$Reader" "numberStart" "I") (by decide +kernel)) (fun _ h9 => h9) rfl dX1_takeDigit_53 ?_
          exact W.iret hx hb hr (fun t ht hW => ⟨⟨r_numberStart, (r_awaited, f_number_3), rfl, h, by rw [ht]; exact hP, hD⟩, hS.F ht⟩) hS.2.2 dX1_takeDigit_56
    · replace h := h.2 c_9_1
      refine lv_iload_n hx hb dX1_takeDigit_12 rfl (lv_at hl 2 rfl) ?_
      exact W.iret hx hb hr (fun t ht hW => ⟨⟨a_2, (r_awaited, r_number), rfl, h, by rw [ht]; exact hP, hD⟩, hS.F ht⟩) hS.2.2 dX1_takeDigit_13
theorem hdX1_takeColor : yX1_takeColor.cls = RX1 ∧ yX1_takeColor.cls ≠ "java/lang/invoke/MethodHandle" ∧ yX1_takeColor.cls ≠ "java/lang/invoke/VarHandle" ∧ (parseMethodDescriptor yX1_takeColor.desc).map (fun d => d.parameters.length) = some 3 := by decide +kernel
set_option maxHeartbeats 4000000 in
set_option maxRecDepth 100000 in
theorem kX1_takeColor (l : Launch) (g : GG) (rq : Nat → Nat) (sz : Nat) (r_columns : Nat → Int64) (r_columnCount : Int32) (r_awaited : Int32) (r_told : Int32) (r_number : Int32) (r_numberStart : Int32) (a_1 : Int32) (a_2 : Int32) (a_3 : Int32) (k : Int32 → (Nat → Int64) → Int32 → Int32 → Prop) (h : PX1_takeColor r_columns r_columnCount r_awaited r_told a_1 a_2 a_3 k) : Met l yX1_takeColor wsX1_takeColor ({ frames := 1, cells := 0, slots := 0, locals := 24 }) (PreM g [.ref (rq 0), .int a_1, .int a_2, .int a_3] (wR g rq r_columns r_columnCount r_awaited r_told r_number r_numberStart) sz) (va_Qi (fun (r : Int32) (u : (Nat → Int64) × Int32 × Int32) => k r u.1 u.2.1 u.2.2) (fun u t => PostB g (va_A (wR g rq r_columns r_columnCount r_awaited r_told r_number r_numberStart) sz) (wR g rq u.1 r_columnCount u.2.1 u.2.2 r_number r_numberStart) t) (va_A (wR g rq r_columns r_columnCount r_awaited r_told r_number r_numberStart) sz)) 0 0 (va_A (wR g rq r_columns r_columnCount r_awaited r_told r_number r_numberStart) sz) := by
  refine Met.ofW (cc := cX1_takeColor) (maxL := 6) (ret := (some .int)) (by decide) rfl ?_
  intro p e s m args below meth c s₁ B hml hv
  obtain ⟨rfl, hsz, hP, hK, hD0⟩ := hv
  have hx := B.exec
  have hb := B.bytes
  have hr := B.returns
  have hts := atoms_spec (ws := wsX1_takeColor) B.pre
  have hown : s.vm.findClass RX1 = some m.cls := findClass_of_methodNamed B.named
  have hlocks := B.notSynchronized
  have iX1 : ∀ w ∈ wsX10, w ∈ wsX1_takeColor := by decide +kernel
  subst hsz
  have hD := hD0.self (sz := s.heap.size)
  generalize hAe : va_A (wR g rq r_columns r_columnCount r_awaited r_told r_number r_numberStart) s.heap.size = A at hD ⊢
  have hA : ∀ q : Nat, s.heap.size ≤ q → A q := fun q h => by rw [← hAe]; exact Or.inr h
  clear hAe hD0
  have hS : va_S A s.heap s.heap [] := va_S.rf
  have hl := lv_entry ([.ref (rq 0), .int a_1, .int a_2, .int a_3]) (n := 6) (Nat.le_of_ble_eq_true rfl)
  rw [lg_entry_eq]
  generalize (lg_sl ([.ref (rq 0), .int a_1, .int a_2, .int a_3]) ++ List.replicate (6 - (lg_sl ([.ref (rq 0), .int a_1, .int a_2, .int a_3])).length) Slot.unset).toArray = ls at hl ⊢
  have hl : lv_has ls 6 [(0, .ref (rq 0)), (1, .int a_1), (2, .int a_2), (3, .int a_3)] := hl
  unfold PX1_takeColor at h
  obtain ⟨H, hHe⟩ : ∃ y, y = s.heap := ⟨_, rfl⟩
  rw [← hHe] at hP
  have hS : va_S A s.heap H [] := by rw [hHe]; exact hS
  have hW0 : ∀ (Q : State → Prop), W p l e (headSpec wsX1_takeColor ({ frames := 1, cells := 0, slots := 0, locals := 24 })).room s m ([.ref (rq 0), .int a_1, .int a_2, .int a_3] : List Value).toArray below meth c H [] 0 0 Q (F0 m 0 ls []) → W p l e (headSpec wsX1_takeColor ({ frames := 1, cells := 0, slots := 0, locals := 24 })).room s m ([.ref (rq 0), .int a_1, .int a_2, .int a_3] : List Value).toArray below meth c s.heap [] 0 0 Q (F0 m 0 ls []) := by rw [hHe]; exact fun _ h9 => h9
  refine hW0 _ ?_
  clear hW0 hHe
  generalize ([] : List Loc) = locs at hS ⊢
  refine lv_iload_n hx hb dX1_takeColor_0 rfl (lv_at hl 1 rfl) ?_
  refine lv_bipush (v := (48 : Int32)) hx hb dX1_takeColor_1 (by decide) ?_
  have tail_1 : ∀ (H : Heap) (locs : List Loc) (ls : Array Slot), PX1_takeColor_J1 r_columns r_awaited r_told a_2 k  → va_P g.1 vwCl (wR g rq r_columns r_columnCount r_awaited r_told r_number r_numberStart) H → va_D A (wR g rq r_columns r_columnCount r_awaited r_told r_number r_numberStart) → va_S A s.heap H locs → lv_has ls 6 [(0, .ref (rq 0)), (1, .int a_1), (2, .int a_2), (3, .int a_3)] → W p l e (headSpec wsX1_takeColor ({ frames := 1, cells := 0, slots := 0, locals := 24 })).room s m ([.ref (rq 0), .int a_1, .int a_2, .int a_3] : List Value).toArray below meth c H locs 0 0 (MQ below (va_Qi (fun (r : Int32) (u : (Nat → Int64) × Int32 × Int32) => k r u.1 u.2.1 u.2.2) (fun u t => PostB g A (wR g rq u.1 r_columnCount u.2.1 u.2.2 r_number r_numberStart) t) A) ([.ref (rq 0), .int a_1, .int a_2, .int a_3] : List Value).toArray s 0 0 A) (F0 m 23 ls []) := by
    intro  H locs ls h hP hD hS hl
    unfold PX1_takeColor_J1 at h
    refine lv_iload_n hx hb dX1_takeColor_23 rfl (lv_at hl 2 rfl) ?_
    exact W.iret hx hb hr (fun t ht hW => ⟨⟨a_2, (r_columns, r_awaited, r_told), rfl, h, by rw [ht]; exact hP, hD⟩, hS.F ht⟩) hS.2.2 dX1_takeColor_24
  refine lv_icmp_lt (tgt := 23) hx hb dX1_takeColor_3 (by decide) (fun c_3_0 => ?_) (fun c_3_0 => ?_)
  · replace h := h.1 c_3_0
    exact tail_1  H locs ls h hP hD hS (lv_sub hl [0, 1, 2, 3] rfl)
  · replace h := h.2 c_3_0
    refine lv_iload_n hx hb dX1_takeColor_6 rfl (lv_at hl 1 rfl) ?_
    refine lv_bipush (v := (55 : Int32)) hx hb dX1_takeColor_7 (by decide) ?_
    refine lv_icmp_gt (tgt := 23) hx hb dX1_takeColor_9 (by decide) (fun c_9_1 => ?_) (fun c_9_1 => ?_)
    · replace h := h.1 c_9_1
      exact tail_1  H locs ls h hP hD hS (lv_sub hl [0, 1, 2, 3] rfl)
    · replace h := h.2 c_9_1
      refine lv_aload_n hx hb dX1_takeColor_12 rfl (lv_at hl 0 rfl) ?_
      refine va_get (D := g.1) (ci := 1) (v := .int r_told) (C := RX1) (T := TX1) (N := 6) hx hb hts iX1 hown hK.1 hP 0 rfl rfl 3 (by decide) (hts (.fieldLink RX1 22 "LightWheel$Reader" "told" "I") (by decide +kernel)) (fun _ h9 => h9) rfl dX1_takeColor_13 ?_
      refine lv_iload_n hx hb dX1_takeColor_16 rfl (lv_at hl 3 rfl) ?_
      refine lv_iadd hx hb dX1_takeColor_17 ?_
      refine lv_bipush (v := (12 : Int32)) hx hb dX1_takeColor_18 (by decide) ?_
      refine lv_icmp_le (tgt := 25) hx hb dX1_takeColor_20 (by decide) (fun c_20_2 => ?_) (fun c_20_2 => ?_)
      · replace h := h.1 c_20_2
        refine lv_iload_n hx hb dX1_takeColor_25 rfl (lv_at hl 1 rfl) ?_
        refine lv_bipush (v := (48 : Int32)) hx hb dX1_takeColor_26 (by decide) ?_
        refine lv_isub hx hb dX1_takeColor_28 ?_
        refine lv_topi (fun v4_4 e_v4_4 => ?_)
        replace h := h v4_4 e_v4_4
        refine lv_istore (lv' := [(4, .int v4_4), (0, .ref (rq 0)), (1, .int a_1), (2, .int a_2), (3, .int a_3)]) hx hb dX1_takeColor_29 hl (by decide) rfl (fun ls hl => ?_)
        refine lv_iconst (v := (0 : Int32)) hx hb dX1_takeColor_31 (by decide) ?_
        refine lv_istore (lv' := [(5, .int (0 : Int32)), (4, .int v4_4), (0, .ref (rq 0)), (1, .int a_1), (2, .int a_2), (3, .int a_3)]) hx hb dX1_takeColor_32 hl (by decide) rfl (fun ls hl => ?_)
        have loop_2 : ∀ (kx_2 : Int32 → (Nat → Int64) → Int32 → Prop), (∀ (v5_5 : Int32) (r_columns_6 : Nat → Int64) (r_told_7 : Int32) (H : Heap) (locs : List Loc) (ls : Array Slot), kx_2 v5_5 r_columns_6 r_told_7 → va_P g.1 vwCl (wR g rq r_columns_6 r_columnCount r_awaited r_told_7 r_number r_numberStart) H → va_D A (wR g rq r_columns_6 r_columnCount r_awaited r_told_7 r_number r_numberStart) → va_S A s.heap H locs → lv_has ls 6 [(5, .int v5_5), (4, .int v4_4), (0, .ref (rq 0)), (1, .int a_1), (2, .int a_2), (3, .int a_3)] → W p l e (headSpec wsX1_takeColor ({ frames := 1, cells := 0, slots := 0, locals := 24 })).room s m ([.ref (rq 0), .int a_1, .int a_2, .int a_3] : List Value).toArray below meth c H locs 0 0 (MQ below (va_Qi (fun (r : Int32) (u : (Nat → Int64) × Int32 × Int32) => k r u.1 u.2.1 u.2.2) (fun u t => PostB g A (wR g rq u.1 r_columnCount u.2.1 u.2.2 r_number r_numberStart) t) A) ([.ref (rq 0), .int a_1, .int a_2, .int a_3] : List Value).toArray s 0 0 A) (F0 m 87 ls [])) → ∀ (n_2 : Nat) (v5_5 : Int32) (r_columns_6 : Nat → Int64) (r_told_7 : Int32) (H : Heap) (locs : List Loc) (ls : Array Slot), PX1_takeColor_L2 r_columnCount a_3 v4_4 kx_2 n_2 v5_5 r_columns_6 r_told_7 → va_P g.1 vwCl (wR g rq r_columns_6 r_columnCount r_awaited r_told_7 r_number r_numberStart) H → va_D A (wR g rq r_columns_6 r_columnCount r_awaited r_told_7 r_number r_numberStart) → va_S A s.heap H locs → lv_has ls 6 [(5, .int v5_5), (4, .int v4_4), (0, .ref (rq 0)), (1, .int a_1), (2, .int a_2), (3, .int a_3)] → W p l e (headSpec wsX1_takeColor ({ frames := 1, cells := 0, slots := 0, locals := 24 })).room s m ([.ref (rq 0), .int a_1, .int a_2, .int a_3] : List Value).toArray below meth c H locs 0 0 (MQ below (va_Qi (fun (r : Int32) (u : (Nat → Int64) × Int32 × Int32) => k r u.1 u.2.1 u.2.2) (fun u t => PostB g A (wR g rq u.1 r_columnCount u.2.1 u.2.2 r_number r_numberStart) t) A) ([.ref (rq 0), .int a_1, .int a_2, .int a_3] : List Value).toArray s 0 0 A) (F0 m 34 ls []) := by
          intro kx_2 hexit_2 n_2
          induction n_2 with
          | zero => exact fun _ _ _ _ _ _ h _ _ _ _ => (h : False).elim
          | succ n_2 ih_2 =>
            intro v5_5 r_columns_6 r_told_7 H locs ls h hP hD hS hl
            unfold PX1_takeColor_L2 at h
            refine lv_iload hx hb dX1_takeColor_34 (lv_at hl 0 rfl) ?_
            refine lv_iload_n hx hb dX1_takeColor_36 rfl (lv_at hl 5 rfl) ?_
            refine lv_icmp_ge (tgt := 87) hx hb dX1_takeColor_37 (by decide) (fun c_37_7 => ?_) (fun c_37_7 => ?_)
            · replace h := h.1 c_37_7
              exact hexit_2 v5_5 r_columns_6 r_told_7 H locs ls h hP hD hS (lv_sub hl [0, 1, 2, 3, 4, 5] rfl)
            · replace h := h.2 c_37_7
              refine lv_aload_n hx hb dX1_takeColor_40 rfl (lv_at hl 2 rfl) ?_
              refine va_get (D := g.1) (ci := 1) (v := .ref (rq 1)) (C := RX1) (T := TX1) (N := 6) hx hb hts iX1 hown hK.1 hP 0 rfl rfl 0 (by decide) (hts (.fieldLink RX1 9 "LightWheel$Reader" "columns" "[J") (by decide +kernel)) (fun _ h9 => h9) rfl dX1_takeColor_41 ?_
              refine lv_aload_n hx hb dX1_takeColor_44 rfl (lv_at hl 2 rfl) ?_
              refine va_get (D := g.1) (ci := 1) (v := .int r_columnCount) (C := RX1) (T := TX1) (N := 6) hx hb hts iX1 hown hK.1 hP 0 rfl rfl 1 (by decide) (hts (.fieldLink RX1 15 "LightWheel$Reader" "columnCount" "I") (by decide +kernel)) (fun _ h9 => h9) rfl dX1_takeColor_45 ?_
              refine lv_iconst (v := (1 : Int32)) hx hb dX1_takeColor_48 (by decide) ?_
              refine lv_isub hx hb dX1_takeColor_49 ?_
              refine lv_aload_n hx hb dX1_takeColor_50 rfl (lv_at hl 2 rfl) ?_
              refine va_get (D := g.1) (ci := 1) (v := .ref (rq 1)) (C := RX1) (T := TX1) (N := 6) hx hb hts iX1 hown hK.1 hP 0 rfl rfl 0 (by decide) (hts (.fieldLink RX1 9 "LightWheel$Reader" "columns" "[J") (by decide +kernel)) (fun _ h9 => h9) rfl dX1_takeColor_51 ?_
              refine lv_aload_n hx hb dX1_takeColor_54 rfl (lv_at hl 2 rfl) ?_
              refine va_get (D := g.1) (ci := 1) (v := .int r_columnCount) (C := RX1) (T := TX1) (N := 6) hx hb hts iX1 hown hK.1 hP 0 rfl rfl 1 (by decide) (hts (.fieldLink RX1 15 "LightWheel$Reader" "columnCount" "I") (by decide +kernel)) (fun _ h9 => h9) rfl dX1_takeColor_55 ?_
              refine lv_iconst (v := (1 : Int32)) hx hb dX1_takeColor_58 (by decide) ?_
              refine lv_isub hx hb dX1_takeColor_59 ?_
              have o_60_8 := h.1
              replace h := h.2
              refine va_lald hx hb hK.1 hP 1 1 rfl rfl o_60_8 dX1_takeColor_60 ?_
              refine lv_aload_n hx hb dX1_takeColor_61 rfl (lv_at hl 2 rfl) ?_
              refine va_get (D := g.1) (ci := 1) (v := .int r_told_7) (C := RX1) (T := TX1) (N := 6) hx hb hts iX1 hown hK.1 hP 0 rfl rfl 3 (by decide) (hts (.fieldLink RX1 22 "LightWheel$Reader" "told" "I") (by decide +kernel)) (fun _ h9 => h9) rfl dX1_takeColor_62 ?_
              refine lv_iload hx hb dX1_takeColor_65 (lv_at hl 1 rfl) ?_
              refine vp_callSl (va_Run.run (va_runSN (As := [.long (r_columns_6 (Int32.toNatClampNeg (r_columnCount - (1 : Int32)))), .int r_told_7, .int v4_4]) (rest := [.int (r_columnCount - (1 : Int32)), .ref (rq 1)]) ⟨hx, hb, hml, hown, hts⟩ (kX4_withColor l g  (r_columns_6 (Int32.toNatClampNeg (r_columnCount - (1 : Int32)))) r_told_7 v4_4 _ h) ⟨va_cnB 3 hts gX1_takeColor_X4_withColor_n52 rfl rfl rfl hK.2.2.1 (hts (.initialized RX4) (by decide +kernel)) hdX4_withColor.2 ⟨(Nat.le_of_ble_eq_true rfl), (Nat.le_of_ble_eq_true rfl)⟩, hts (.static yX4_withColor) (by decide +kernel), trivial⟩ (preS_R hK (va_P_nil (D := g.1) (cl := vwCl))) rfl rfl hl.1 rfl (lv_room (Nat.le_of_ble_eq_true rfl)) dX1_takeColor_67 ⟨(Nat.le_of_ble_eq_true rfl), (Nat.le_of_ble_eq_true rfl)⟩)) (fun r67_10 h => ?_)
              have o_70_10 := h.1
              replace h := h.2
              refine xs_last hx hb hK.1 hP hD hS 1 1 rfl rfl o_70_10 dX1_takeColor_70 (fun r_columns_12 e_r_columns_12 H locs hP hD hS => ?_)
              replace h := h r_columns_12 e_r_columns_12
              have hP : va_P g.1 vwCl (wR g rq r_columns_12 r_columnCount r_awaited r_told_7 r_number r_numberStart) H := hP
              have hD : va_D A (wR g rq r_columns_12 r_columnCount r_awaited r_told_7 r_number r_numberStart) := hD
              refine lv_aload_n hx hb dX1_takeColor_71 rfl (lv_at hl 2 rfl) ?_
              refine lv_dup hx hb dX1_takeColor_72 rfl ?_
              refine va_get (D := g.1) (ci := 1) (v := .int r_told_7) (C := RX1) (T := TX1) (N := 6) hx hb hts iX1 hown hK.1 hP 0 rfl rfl 3 (by decide) (hts (.fieldLink RX1 22 "LightWheel$Reader" "told" "I") (by decide +kernel)) (fun _ h9 => h9) rfl dX1_takeColor_73 ?_
              refine lv_iconst (v := (1 : Int32)) hx hb dX1_takeColor_76 (by decide) ?_
              refine lv_iadd hx hb dX1_takeColor_77 ?_
              refine lv_topi (fun f_told_13 e_f_told_13 => ?_)
              replace h := h f_told_13 e_f_told_13
              refine va_put (D := g.1) (ci := 1) (v := .int f_told_13) (ty := .int) (C := RX1) (T := TX1) (N := 6) hx hb hts iX1 tyX1 tyX1_ok nmX1 hown hK.1 hP hD hS 0 rfl rfl 3 (by decide) (hts (.fieldLink RX1 22 "LightWheel$Reader" "told" "I") (by decide +kernel)) (fun _ h9 => h9) rfl (by decide +kernel) rfl rfl (Nat.le_of_ble_eq_true rfl) dX1_takeColor_78 (fun H locs hP hD hS => ?_)
              have hP : va_P g.1 vwCl (wR g rq r_columns_12 r_columnCount r_awaited f_told_13 r_number r_numberStart) H := hP
              have hD : va_D A (wR g rq r_columns_12 r_columnCount r_awaited f_told_13 r_number r_numberStart) := hD
              obtain ⟨v5_14, e_v5_14⟩ : ∃ y : Int32, y = v5_5 + (1 : Int32) := ⟨_, rfl⟩
              replace h := h v5_14 e_v5_14
              refine lv_iinc (v := v5_14) (lv' := [(5, .int v5_14), (4, .int v4_4), (0, .ref (rq 0)), (1, .int a_1), (2, .int a_2), (3, .int a_3)]) hx hb dX1_takeColor_81 hl (k := 0) rfl (by rw [e_v5_14]; rfl) (by decide) rfl (fun ls hl => ?_)
              refine lv_goto (tgt := 34) hx hb dX1_takeColor_84 (by decide) ?_
              exact ih_2 v5_14 r_columns_12 f_told_13 H locs ls h hP hD hS (lv_sub hl [0, 1, 2, 3, 4, 5] rfl)
        obtain ⟨n_2, h⟩ := h
        refine loop_2 _ ?_ n_2 (0 : Int32) r_columns r_told _ _ ls h hP hD hS (lv_sub hl [0, 1, 2, 3, 4, 5] rfl)
        intro v5_5 r_columns_6 r_told_7 H locs ls h hP hD hS hl
        refine lv_aload_n hx hb dX1_takeColor_87 rfl (lv_at hl 2 rfl) ?_
        refine lv_iconst (v := (0 : Int32)) hx hb dX1_takeColor_88 (by decide) ?_
        refine va_put (D := g.1) (ci := 1) (v := .int (0 : Int32)) (ty := .int) (C := RX1) (T := TX1) (N := 6) hx hb hts iX1 tyX1 tyX1_ok nmX1 hown hK.1 hP hD hS 0 rfl rfl 2 (by decide) (hts (.fieldLink RX1 19 "LightWheel$Reader" "awaited" "I") (by decide +kernel)) (fun _ h9 => h9) rfl (by decide +kernel) rfl rfl (Nat.le_of_ble_eq_true rfl) dX1_takeColor_89 (fun H locs hP hD hS => ?_)
        have hP : va_P g.1 vwCl (wR g rq r_columns_6 r_columnCount (0 : Int32) r_told_7 r_number r_numberStart) H := hP
        have hD : va_D A (wR g rq r_columns_6 r_columnCount (0 : Int32) r_told_7 r_number r_numberStart) := hD
        refine lv_iconst (v := (-1 : Int32)) hx hb dX1_takeColor_92 (by decide) ?_
        exact W.iret hx hb hr (fun t ht hW => ⟨⟨(-1 : Int32), (r_columns_6, (0 : Int32), r_told_7), rfl, h, by rw [ht]; exact hP, hD⟩, hS.F ht⟩) hS.2.2 dX1_takeColor_93
      · replace h := h.2 c_20_2
        exact tail_1  H locs ls h hP hD hS (lv_sub hl [0, 1, 2, 3] rfl)
theorem hdX1_takePart : yX1_takePart.cls = RX1 ∧ yX1_takePart.cls ≠ "java/lang/invoke/MethodHandle" ∧ yX1_takePart.cls ≠ "java/lang/invoke/VarHandle" ∧ (parseMethodDescriptor yX1_takePart.desc).map (fun d => d.parameters.length) = some 2 := by decide +kernel
set_option maxHeartbeats 4000000 in
set_option maxRecDepth 100000 in
theorem kX1_takePart (l : Launch) (g : GG) (rq : Nat → Nat) (sz : Nat) (r_columns : Nat → Int64) (r_columnCount : Int32) (r_awaited : Int32) (r_told : Int32) (r_number : Int32) (r_numberStart : Int32) (a_1 : Int32) (a_2 : Int32) (k : Int32 → (Nat → Int64) → Int32 → Int32 → Int32 → Prop) (h : PX1_takePart r_columns r_columnCount r_awaited r_told a_1 a_2 k) : Met l yX1_takePart wsX1_takePart ({ frames := 2, cells := 0, slots := 0, locals := 49 }) (PreM g [.ref (rq 0), .int a_1, .int a_2] (wR g rq r_columns r_columnCount r_awaited r_told r_number r_numberStart) sz) (va_Qi (fun (r : Int32) (u : (Nat → Int64) × Int32 × Int32 × Int32) => k r u.1 u.2.1 u.2.2.1 u.2.2.2) (fun u t => PostB g (va_A (wR g rq r_columns r_columnCount r_awaited r_told r_number r_numberStart) sz) (wR g rq u.1 u.2.1 u.2.2.1 u.2.2.2 r_number r_numberStart) t) (va_A (wR g rq r_columns r_columnCount r_awaited r_told r_number r_numberStart) sz)) 0 0 (va_A (wR g rq r_columns r_columnCount r_awaited r_told r_number r_numberStart) sz) := by
  refine Met.ofW (cc := cX1_takePart) (maxL := 3) (ret := (some .int)) (by decide) rfl ?_
  intro p e s m args below meth c s₁ B hml hv
  obtain ⟨rfl, hsz, hP, hK, hD0⟩ := hv
  have hx := B.exec
  have hb := B.bytes
  have hr := B.returns
  have hts := atoms_spec (ws := wsX1_takePart) B.pre
  have hown : s.vm.findClass RX1 = some m.cls := findClass_of_methodNamed B.named
  have hlocks := B.notSynchronized
  have iX1 : ∀ w ∈ wsX10, w ∈ wsX1_takePart := by decide +kernel
  subst hsz
  have hD := hD0.self (sz := s.heap.size)
  generalize hAe : va_A (wR g rq r_columns r_columnCount r_awaited r_told r_number r_numberStart) s.heap.size = A at hD ⊢
  have hA : ∀ q : Nat, s.heap.size ≤ q → A q := fun q h => by rw [← hAe]; exact Or.inr h
  clear hAe hD0
  have hS : va_S A s.heap s.heap [] := va_S.rf
  have hl := lv_entry ([.ref (rq 0), .int a_1, .int a_2]) (n := 3) (Nat.le_of_ble_eq_true rfl)
  rw [lg_entry_eq]
  generalize (lg_sl ([.ref (rq 0), .int a_1, .int a_2]) ++ List.replicate (3 - (lg_sl ([.ref (rq 0), .int a_1, .int a_2])).length) Slot.unset).toArray = ls at hl ⊢
  have hl : lv_has ls 3 [(0, .ref (rq 0)), (1, .int a_1), (2, .int a_2)] := hl
  unfold PX1_takePart at h
  obtain ⟨H, hHe⟩ : ∃ y, y = s.heap := ⟨_, rfl⟩
  rw [← hHe] at hP
  have hS : va_S A s.heap H [] := by rw [hHe]; exact hS
  have hW0 : ∀ (Q : State → Prop), W p l e (headSpec wsX1_takePart ({ frames := 2, cells := 0, slots := 0, locals := 49 })).room s m ([.ref (rq 0), .int a_1, .int a_2] : List Value).toArray below meth c H [] 0 0 Q (F0 m 0 ls []) → W p l e (headSpec wsX1_takePart ({ frames := 2, cells := 0, slots := 0, locals := 49 })).room s m ([.ref (rq 0), .int a_1, .int a_2] : List Value).toArray below meth c s.heap [] 0 0 Q (F0 m 0 ls []) := by rw [hHe]; exact fun _ h9 => h9
  refine hW0 _ ?_
  clear hW0 hHe
  generalize ([] : List Loc) = locs at hS ⊢
  refine lv_iload_n hx hb dX1_takePart_0 rfl (lv_at hl 1 rfl) ?_
  refine lv_bipush (v := (59 : Int32)) hx hb dX1_takePart_1 (by decide) ?_
  refine lv_icmp_ne (tgt := 12) hx hb dX1_takePart_3 (by decide) (fun c_3_0 => ?_) (fun c_3_0 => ?_)
  · replace h := h.1 c_3_0
    refine lv_iload_n hx hb dX1_takePart_12 rfl (lv_at hl 1 rfl) ?_
    refine lv_bipush (v := (40 : Int32)) hx hb dX1_takePart_13 (by decide) ?_
    refine lv_icmp_ne (tgt := 25) hx hb dX1_takePart_15 (by decide) (fun c_15_1 => ?_) (fun c_15_1 => ?_)
    · replace h := h.1 c_15_1
      refine lv_aload_n hx hb dX1_takePart_25 rfl (lv_at hl 0 rfl) ?_
      refine lv_iload_n hx hb dX1_takePart_26 rfl (lv_at hl 1 rfl) ?_
      refine lv_iload_n hx hb dX1_takePart_27 rfl (lv_at hl 2 rfl) ?_
      refine lv_iconst (v := (1 : Int32)) hx hb dX1_takePart_28 (by decide) ?_
      have hFc := va_freeA hD hS hA
      refine va_calli (va_runV (As := [.int a_1, .int a_2, .int (1 : Int32)]) (rest := []) ⟨hx, hb, hml, hown, hts⟩ (kX1_takeColor l g rq H.size r_columns r_columnCount r_awaited r_told r_number r_numberStart a_1 a_2 (1 : Int32) _ h) (cwV 3 hts gX1_takePart_X1_takeColor rfl rfl rfl hdX1_takeColor ⟨(Nat.le_of_ble_eq_true rfl), (Nat.le_of_ble_eq_true rfl)⟩) (preV_M (r := (RX1, TX1, 6)) hK hP hD (ci := 1) (q0 := 0) rfl rfl) rfl rfl hl.1 rfl (lv_room (Nat.le_of_ble_eq_true rfl)) dX1_takePart_29 ⟨(Nat.le_of_ble_eq_true rfl), (Nat.le_of_ble_eq_true rfl)⟩) hS (fun q _ h9 => hFc q h9) hFc (fun r29_6 u t H1 locs ht hvm hw hB hz1 hk1 hS => ?_)
      obtain ⟨r_columns_3, r_awaited_4, r_told_5⟩ := u
      replace h := hw
      try dsimp only at h
      obtain ⟨hP, hD⟩ := jn0 (wf := (wR g rq r_columns_3 r_columnCount r_awaited_4 r_told_5 r_number r_numberStart)) hB ht hFc
      have hP : va_P g.1 vwCl (wR g rq r_columns_3 r_columnCount r_awaited_4 r_told_5 r_number r_numberStart) H1 := hP
      have hD : va_D A (wR g rq r_columns_3 r_columnCount r_awaited_4 r_told_5 r_number r_numberStart) := hD
      clear hk1 hz1 hB ht hw hFc
      generalize H1 = H at hP hS ⊢
      exact W.iret hx hb hr (fun t ht hW => ⟨⟨r29_6, (r_columns_3, r_columnCount, r_awaited_4, r_told_5), rfl, h, by rw [ht]; exact hP, hD⟩, hS.F ht⟩) hS.2.2 dX1_takePart_32
    · replace h := h.2 c_15_1
      refine lv_aload_n hx hb dX1_takePart_18 rfl (lv_at hl 0 rfl) ?_
      refine lv_iconst (v := (1 : Int32)) hx hb dX1_takePart_19 (by decide) ?_
      refine va_put (D := g.1) (ci := 1) (v := .int (1 : Int32)) (ty := .int) (C := RX1) (T := TX1) (N := 6) hx hb hts iX1 tyX1 tyX1_ok nmX1 hown hK.1 hP hD hS 0 rfl rfl 2 (by decide) (hts (.fieldLink RX1 19 "LightWheel$Reader" "awaited" "I") (by decide +kernel)) (fun _ h9 => h9) rfl (by decide +kernel) rfl rfl (Nat.le_of_ble_eq_true rfl) dX1_takePart_20 (fun H locs hP hD hS => ?_)
      have hP : va_P g.1 vwCl (wR g rq r_columns r_columnCount (1 : Int32) r_told r_number r_numberStart) H := hP
      have hD : va_D A (wR g rq r_columns r_columnCount (1 : Int32) r_told r_number r_numberStart) := hD
      refine lv_iconst (v := (-1 : Int32)) hx hb dX1_takePart_23 (by decide) ?_
      exact W.iret hx hb hr (fun t ht hW => ⟨⟨(-1 : Int32), (r_columns, r_columnCount, (1 : Int32), r_told), rfl, h, by rw [ht]; exact hP, hD⟩, hS.F ht⟩) hS.2.2 dX1_takePart_24
  · replace h := h.2 c_3_0
    refine lv_aload_n hx hb dX1_takePart_6 rfl (lv_at hl 0 rfl) ?_
    refine lv_iload_n hx hb dX1_takePart_7 rfl (lv_at hl 2 rfl) ?_
    have hFc := va_freeA hD hS hA
    refine va_calli (va_runV (As := [.int a_2]) (rest := []) ⟨hx, hb, hml, hown, hts⟩ (kX1_takeSemicolon l g rq H.size r_columns r_columnCount r_awaited r_told r_number r_numberStart a_2 _ h) (cwV 1 hts gX1_takePart_X1_takeSemicolon rfl rfl rfl hdX1_takeSemicolon ⟨(Nat.le_of_ble_eq_true rfl), (Nat.le_of_ble_eq_true rfl)⟩) (preV_M (r := (RX1, TX1, 6)) hK hP hD (ci := 1) (q0 := 0) rfl rfl) rfl rfl hl.1 rfl (lv_room (Nat.le_of_ble_eq_true rfl)) dX1_takePart_8 ⟨(Nat.le_of_ble_eq_true rfl), (Nat.le_of_ble_eq_true rfl)⟩) hS (fun q _ h9 => hFc q h9) hFc (fun r8_9 u t H1 locs ht hvm hw hB hz1 hk1 hS => ?_)
    obtain ⟨r_columnCount_7, r_told_8⟩ := u
    replace h := hw
    try dsimp only at h
    obtain ⟨hP, hD⟩ := jn0 (wf := (wR g rq r_columns r_columnCount_7 r_awaited r_told_8 r_number r_numberStart)) hB ht hFc
    have hP : va_P g.1 vwCl (wR g rq r_columns r_columnCount_7 r_awaited r_told_8 r_number r_numberStart) H1 := hP
    have hD : va_D A (wR g rq r_columns r_columnCount_7 r_awaited r_told_8 r_number r_numberStart) := hD
    clear hk1 hz1 hB ht hw hFc
    generalize H1 = H at hP hS ⊢
    exact W.iret hx hb hr (fun t ht hW => ⟨⟨r8_9, (r_columns, r_columnCount_7, r_awaited, r_told_8), rfl, h, by rw [ht]; exact hP, hD⟩, hS.F ht⟩) hS.2.2 dX1_takePart_11
theorem hdX1_take : yX1_take.cls = RX1 ∧ yX1_take.cls ≠ "java/lang/invoke/MethodHandle" ∧ yX1_take.cls ≠ "java/lang/invoke/VarHandle" ∧ (parseMethodDescriptor yX1_take.desc).map (fun d => d.parameters.length) = some 2 := by decide +kernel
set_option maxHeartbeats 4000000 in
set_option maxRecDepth 100000 in
theorem kX1_take (l : Launch) (g : GG) (rq : Nat → Nat) (sz : Nat) (r_columns : Nat → Int64) (r_columnCount : Int32) (r_awaited : Int32) (r_told : Int32) (r_number : Int32) (r_numberStart : Int32) (a_1 : Int32) (a_2 : Int32) (k : Int32 → (Nat → Int64) → Int32 → Int32 → Int32 → Int32 → Int32 → Prop) (h : PX1_take r_columns r_columnCount r_awaited r_told r_number r_numberStart a_1 a_2 k) : Met l yX1_take wsX1_take ({ frames := 3, cells := 0, slots := 0, locals := 71 }) (PreM g [.ref (rq 0), .int a_1, .int a_2] (wR g rq r_columns r_columnCount r_awaited r_told r_number r_numberStart) sz) (va_Qi (fun (r : Int32) (u : (Nat → Int64) × Int32 × Int32 × Int32 × Int32 × Int32) => k r u.1 u.2.1 u.2.2.1 u.2.2.2.1 u.2.2.2.2.1 u.2.2.2.2.2) (fun u t => PostB g (va_A (wR g rq r_columns r_columnCount r_awaited r_told r_number r_numberStart) sz) (wR g rq u.1 u.2.1 u.2.2.1 u.2.2.2.1 u.2.2.2.2.1 u.2.2.2.2.2) t) (va_A (wR g rq r_columns r_columnCount r_awaited r_told r_number r_numberStart) sz)) 0 0 (va_A (wR g rq r_columns r_columnCount r_awaited r_told r_number r_numberStart) sz) := by
  refine Met.ofW (cc := cX1_take) (maxL := 3) (ret := (some .int)) (by decide) rfl ?_
  intro p e s m args below meth c s₁ B hml hv
  obtain ⟨rfl, hsz, hP, hK, hD0⟩ := hv
  have hx := B.exec
  have hb := B.bytes
  have hr := B.returns
  have hts := atoms_spec (ws := wsX1_take) B.pre
  have hown : s.vm.findClass RX1 = some m.cls := findClass_of_methodNamed B.named
  have hlocks := B.notSynchronized
  have iX1 : ∀ w ∈ wsX10, w ∈ wsX1_take := by decide +kernel
  subst hsz
  have hD := hD0.self (sz := s.heap.size)
  generalize hAe : va_A (wR g rq r_columns r_columnCount r_awaited r_told r_number r_numberStart) s.heap.size = A at hD ⊢
  have hA : ∀ q : Nat, s.heap.size ≤ q → A q := fun q h => by rw [← hAe]; exact Or.inr h
  clear hAe hD0
  have hS : va_S A s.heap s.heap [] := va_S.rf
  have hl := lv_entry ([.ref (rq 0), .int a_1, .int a_2]) (n := 3) (Nat.le_of_ble_eq_true rfl)
  rw [lg_entry_eq]
  generalize (lg_sl ([.ref (rq 0), .int a_1, .int a_2]) ++ List.replicate (3 - (lg_sl ([.ref (rq 0), .int a_1, .int a_2])).length) Slot.unset).toArray = ls at hl ⊢
  have hl : lv_has ls 3 [(0, .ref (rq 0)), (1, .int a_1), (2, .int a_2)] := hl
  unfold PX1_take at h
  obtain ⟨H, hHe⟩ : ∃ y, y = s.heap := ⟨_, rfl⟩
  rw [← hHe] at hP
  have hS : va_S A s.heap H [] := by rw [hHe]; exact hS
  have hW0 : ∀ (Q : State → Prop), W p l e (headSpec wsX1_take ({ frames := 3, cells := 0, slots := 0, locals := 71 })).room s m ([.ref (rq 0), .int a_1, .int a_2] : List Value).toArray below meth c H [] 0 0 Q (F0 m 0 ls []) → W p l e (headSpec wsX1_take ({ frames := 3, cells := 0, slots := 0, locals := 71 })).room s m ([.ref (rq 0), .int a_1, .int a_2] : List Value).toArray below meth c s.heap [] 0 0 Q (F0 m 0 ls []) := by rw [hHe]; exact fun _ h9 => h9
  refine hW0 _ ?_
  clear hW0 hHe
  generalize ([] : List Loc) = locs at hS ⊢
  refine lv_iload_n hx hb dX1_take_0 rfl (lv_at hl 1 rfl) ?_
  refine lv_bipush (v := (32 : Int32)) hx hb dX1_take_1 (by decide) ?_
  refine lv_icmp_ne (tgt := 21) hx hb dX1_take_3 (by decide) (fun c_3_0 => ?_) (fun c_3_0 => ?_)
  · replace h := h.1 c_3_0
    refine lv_aload_n hx hb dX1_take_21 rfl (lv_at hl 0 rfl) ?_
    refine va_get (D := g.1) (ci := 1) (v := .int r_awaited) (C := RX1) (T := TX1) (N := 6) hx hb hts iX1 hown hK.1 hP 0 rfl rfl 2 (by decide) (hts (.fieldLink RX1 19 "LightWheel$Reader" "awaited" "I") (by decide +kernel)) (fun _ h9 => h9) rfl dX1_take_22 ?_
    by_cases c_25_1 : r_awaited.toInt < 1 ∨ 4 < r_awaited.toInt
    · replace h := h.1 c_25_1
      refine lv_tableOut (tgt := 113) hx hb dX1_take_25 c_25_1 (by decide) ?_
      refine lv_aload_n hx hb dX1_take_113 rfl (lv_at hl 0 rfl) ?_
      refine lv_iload_n hx hb dX1_take_114 rfl (lv_at hl 1 rfl) ?_
      refine lv_iload_n hx hb dX1_take_115 rfl (lv_at hl 2 rfl) ?_
      have hFc := va_freeA hD hS hA
      refine va_calli (va_runV (As := [.int a_1, .int a_2]) (rest := []) ⟨hx, hb, hml, hown, hts⟩ (kX1_takePart l g rq H.size r_columns r_columnCount r_awaited r_told r_number r_numberStart a_1 a_2 _ h) (cwV 2 hts gX1_take_X1_takePart rfl rfl rfl hdX1_takePart ⟨(Nat.le_of_ble_eq_true rfl), (Nat.le_of_ble_eq_true rfl)⟩) (preV_M (r := (RX1, TX1, 6)) hK hP hD (ci := 1) (q0 := 0) rfl rfl) rfl rfl hl.1 rfl (lv_room (Nat.le_of_ble_eq_true rfl)) dX1_take_116 ⟨(Nat.le_of_ble_eq_true rfl), (Nat.le_of_ble_eq_true rfl)⟩) hS (fun q _ h9 => hFc q h9) hFc (fun r116_7 u t H1 locs ht hvm hw hB hz1 hk1 hS => ?_)
      obtain ⟨r_columns_3, r_columnCount_4, r_awaited_5, r_told_6⟩ := u
      replace h := hw
      try dsimp only at h
      obtain ⟨hP, hD⟩ := jn0 (wf := (wR g rq r_columns_3 r_columnCount_4 r_awaited_5 r_told_6 r_number r_numberStart)) hB ht hFc
      have hP : va_P g.1 vwCl (wR g rq r_columns_3 r_columnCount_4 r_awaited_5 r_told_6 r_number r_numberStart) H1 := hP
      have hD : va_D A (wR g rq r_columns_3 r_columnCount_4 r_awaited_5 r_told_6 r_number r_numberStart) := hD
      clear hk1 hz1 hB ht hw hFc
      generalize H1 = H at hP hS ⊢
      exact W.iret hx hb hr (fun t ht hW => ⟨⟨r116_7, (r_columns_3, r_columnCount_4, r_awaited_5, r_told_6, r_number, r_numberStart), rfl, h, by rw [ht]; exact hP, hD⟩, hS.F ht⟩) hS.2.2 dX1_take_119
    · replace h := h.2
      by_cases c_25_1_0 : r_awaited = (1 : Int32)
      · replace h := h.1 c_25_1_0
        refine lv_tableIn (tgt := 56) hx hb dX1_take_25 (by rw [c_25_1_0]; decide) (by rw [c_25_1_0]; decide) (by rw [c_25_1_0]; rfl) (by decide) ?_
        refine lv_aload_n hx hb dX1_take_56 rfl (lv_at hl 0 rfl) ?_
        refine lv_iload_n hx hb dX1_take_57 rfl (lv_at hl 2 rfl) ?_
        refine va_put (D := g.1) (ci := 1) (v := .int a_2) (ty := .int) (C := RX1) (T := TX1) (N := 6) hx hb hts iX1 tyX1 tyX1_ok nmX1 hown hK.1 hP hD hS 0 rfl rfl 5 (by decide) (hts (.fieldLink RX1 29 "LightWheel$Reader" "numberStart" "I") (by decide +kernel)) (fun _ h9 => h9) rfl (by decide +kernel) rfl rfl (Nat.le_of_ble_eq_true rfl) dX1_take_58 (fun H locs hP hD hS => ?_)
        have hP : va_P g.1 vwCl (wR g rq r_columns r_columnCount r_awaited r_told r_number a_2) H := hP
        have hD : va_D A (wR g rq r_columns r_columnCount r_awaited r_told r_number a_2) := hD
        refine lv_aload_n hx hb dX1_take_61 rfl (lv_at hl 0 rfl) ?_
        refine lv_iconst (v := (0 : Int32)) hx hb dX1_take_62 (by decide) ?_
        refine va_put (D := g.1) (ci := 1) (v := .int (0 : Int32)) (ty := .int) (C := RX1) (T := TX1) (N := 6) hx hb hts iX1 tyX1 tyX1_ok nmX1 hown hK.1 hP hD hS 0 rfl rfl 4 (by decide) (hts (.fieldLink RX1 32 "LightWheel$Reader" "number" "I") (by decide +kernel)) (fun _ h9 => h9) rfl (by decide +kernel) rfl rfl (Nat.le_of_ble_eq_true rfl) dX1_take_63 (fun H locs hP hD hS => ?_)
        have hP : va_P g.1 vwCl (wR g rq r_columns r_columnCount r_awaited r_told (0 : Int32) a_2) H := hP
        have hD : va_D A (wR g rq r_columns r_columnCount r_awaited r_told (0 : Int32) a_2) := hD
        refine lv_aload_n hx hb dX1_take_66 rfl (lv_at hl 0 rfl) ?_
        refine lv_iload_n hx hb dX1_take_67 rfl (lv_at hl 1 rfl) ?_
        refine lv_iload_n hx hb dX1_take_68 rfl (lv_at hl 2 rfl) ?_
        have hFc := va_freeA hD hS hA
        refine va_calli (va_runV (As := [.int a_1, .int a_2]) (rest := []) ⟨hx, hb, hml, hown, hts⟩ (kX1_takeDigit l g rq H.size r_columns r_columnCount r_awaited r_told (0 : Int32) a_2 a_1 a_2 _ h) (cwV 2 hts gX1_take_X1_takeDigit rfl rfl rfl hdX1_takeDigit ⟨(Nat.le_of_ble_eq_true rfl), (Nat.le_of_ble_eq_true rfl)⟩) (preV_M (r := (RX1, TX1, 6)) hK hP hD (ci := 1) (q0 := 0) rfl rfl) rfl rfl hl.1 rfl (lv_room (Nat.le_of_ble_eq_true rfl)) dX1_take_69 ⟨(Nat.le_of_ble_eq_true rfl), (Nat.le_of_ble_eq_true rfl)⟩) hS (fun q _ h9 => hFc q h9) hFc (fun r69_10 u t H1 locs ht hvm hw hB hz1 hk1 hS => ?_)
        obtain ⟨r_awaited_8, r_number_9⟩ := u
        replace h := hw
        try dsimp only at h
        obtain ⟨hP, hD⟩ := jn0 (wf := (wR g rq r_columns r_columnCount r_awaited_8 r_told r_number_9 a_2)) hB ht hFc
        have hP : va_P g.1 vwCl (wR g rq r_columns r_columnCount r_awaited_8 r_told r_number_9 a_2) H1 := hP
        have hD : va_D A (wR g rq r_columns r_columnCount r_awaited_8 r_told r_number_9 a_2) := hD
        clear hk1 hz1 hB ht hw hFc
        generalize H1 = H at hP hS ⊢
        exact W.iret hx hb hr (fun t ht hW => ⟨⟨r69_10, (r_columns, r_columnCount, r_awaited_8, r_told, r_number_9, a_2), rfl, h, by rw [ht]; exact hP, hD⟩, hS.F ht⟩) hS.2.2 dX1_take_72
      refine id ?_
      by_cases c_25_1_1 : r_awaited = (2 : Int32)
      · replace h := h.2.1 c_25_1_1
        refine lv_tableIn (tgt := 73) hx hb dX1_take_25 (by rw [c_25_1_1]; decide) (by rw [c_25_1_1]; decide) (by rw [c_25_1_1]; rfl) (by decide) ?_
        refine lv_iload_n hx hb dX1_take_73 rfl (lv_at hl 1 rfl) ?_
        refine lv_bipush (v := (41 : Int32)) hx hb dX1_take_74 (by decide) ?_
        refine lv_icmp_ne (tgt := 88) hx hb dX1_take_76 (by decide) (fun c_76_10 => ?_) (fun c_76_10 => ?_)
        · replace h := h.1 c_76_10
          refine lv_aload_n hx hb dX1_take_88 rfl (lv_at hl 0 rfl) ?_
          refine lv_iload_n hx hb dX1_take_89 rfl (lv_at hl 1 rfl) ?_
          refine lv_iload_n hx hb dX1_take_90 rfl (lv_at hl 2 rfl) ?_
          have hFc := va_freeA hD hS hA
          refine va_calli (va_runV (As := [.int a_1, .int a_2]) (rest := []) ⟨hx, hb, hml, hown, hts⟩ (kX1_takeDigit l g rq H.size r_columns r_columnCount r_awaited r_told r_number r_numberStart a_1 a_2 _ h) (cwV 2 hts gX1_take_X1_takeDigit rfl rfl rfl hdX1_takeDigit ⟨(Nat.le_of_ble_eq_true rfl), (Nat.le_of_ble_eq_true rfl)⟩) (preV_M (r := (RX1, TX1, 6)) hK hP hD (ci := 1) (q0 := 0) rfl rfl) rfl rfl hl.1 rfl (lv_room (Nat.le_of_ble_eq_true rfl)) dX1_take_91 ⟨(Nat.le_of_ble_eq_true rfl), (Nat.le_of_ble_eq_true rfl)⟩) hS (fun q _ h9 => hFc q h9) hFc (fun r91_14 u t H1 locs ht hvm hw hB hz1 hk1 hS => ?_)
          obtain ⟨r_awaited_12, r_number_13⟩ := u
          replace h := hw
          try dsimp only at h
          obtain ⟨hP, hD⟩ := jn0 (wf := (wR g rq r_columns r_columnCount r_awaited_12 r_told r_number_13 r_numberStart)) hB ht hFc
          have hP : va_P g.1 vwCl (wR g rq r_columns r_columnCount r_awaited_12 r_told r_number_13 r_numberStart) H1 := hP
          have hD : va_D A (wR g rq r_columns r_columnCount r_awaited_12 r_told r_number_13 r_numberStart) := hD
          clear hk1 hz1 hB ht hw hFc
          generalize H1 = H at hP hS ⊢
          exact W.iret hx hb hr (fun t ht hW => ⟨⟨r91_14, (r_columns, r_columnCount, r_awaited_12, r_told, r_number_13, r_numberStart), rfl, h, by rw [ht]; exact hP, hD⟩, hS.F ht⟩) hS.2.2 dX1_take_94
        · replace h := h.2 c_76_10
          refine lv_aload_n hx hb dX1_take_79 rfl (lv_at hl 0 rfl) ?_
          refine lv_iload_n hx hb dX1_take_80 rfl (lv_at hl 1 rfl) ?_
          refine lv_iload_n hx hb dX1_take_81 rfl (lv_at hl 2 rfl) ?_
          have hFc := va_freeA hD hS hA
          refine va_calli (va_runV (As := [.int a_1, .int a_2]) (rest := []) ⟨hx, hb, hml, hown, hts⟩ (kX1_takeBracket l g rq H.size r_columns r_columnCount r_awaited r_told r_number r_numberStart a_1 a_2 _ h) (cwV 2 hts gX1_take_X1_takeBracket rfl rfl rfl hdX1_takeBracket ⟨(Nat.le_of_ble_eq_true rfl), (Nat.le_of_ble_eq_true rfl)⟩) (preV_M (r := (RX1, TX1, 6)) hK hP hD (ci := 1) (q0 := 0) rfl rfl) rfl rfl hl.1 rfl (lv_room (Nat.le_of_ble_eq_true rfl)) dX1_take_82 ⟨(Nat.le_of_ble_eq_true rfl), (Nat.le_of_ble_eq_true rfl)⟩) hS (fun q _ h9 => hFc q h9) hFc (fun r82_16 u t H1 locs ht hvm hw hB hz1 hk1 hS => ?_)
          obtain ⟨r_awaited_15, ez9⟩ : ∃ y, y = u := ⟨_, rfl⟩
          subst ez9
          replace h := hw
          try dsimp only at h
          obtain ⟨hP, hD⟩ := jn0 (wf := (wR g rq r_columns r_columnCount r_awaited_15 r_told r_number r_numberStart)) hB ht hFc
          have hP : va_P g.1 vwCl (wR g rq r_columns r_columnCount r_awaited_15 r_told r_number r_numberStart) H1 := hP
          have hD : va_D A (wR g rq r_columns r_columnCount r_awaited_15 r_told r_number r_numberStart) := hD
          clear hk1 hz1 hB ht hw hFc
          generalize H1 = H at hP hS ⊢
          refine lv_goto (tgt := 94) hx hb dX1_take_85 (by decide) ?_
          exact W.iret hx hb hr (fun t ht hW => ⟨⟨r82_16, (r_columns, r_columnCount, r_awaited_15, r_told, r_number, r_numberStart), rfl, h, by rw [ht]; exact hP, hD⟩, hS.F ht⟩) hS.2.2 dX1_take_94
      refine id ?_
      by_cases c_25_1_2 : r_awaited = (3 : Int32)
      · replace h := h.2.2.1 c_25_1_2
        refine lv_tableIn (tgt := 95) hx hb dX1_take_25 (by rw [c_25_1_2]; decide) (by rw [c_25_1_2]; decide) (by rw [c_25_1_2]; rfl) (by decide) ?_
        refine lv_aload_n hx hb dX1_take_95 rfl (lv_at hl 0 rfl) ?_
        refine lv_iload_n hx hb dX1_take_96 rfl (lv_at hl 1 rfl) ?_
        refine lv_iload_n hx hb dX1_take_97 rfl (lv_at hl 2 rfl) ?_
        have hFc := va_freeA hD hS hA
        refine va_calli (va_runV (As := [.int a_1, .int a_2]) (rest := []) ⟨hx, hb, hml, hown, hts⟩ (kX1_takeBracket l g rq H.size r_columns r_columnCount r_awaited r_told r_number r_numberStart a_1 a_2 _ h) (cwV 2 hts gX1_take_X1_takeBracket rfl rfl rfl hdX1_takeBracket ⟨(Nat.le_of_ble_eq_true rfl), (Nat.le_of_ble_eq_true rfl)⟩) (preV_M (r := (RX1, TX1, 6)) hK hP hD (ci := 1) (q0 := 0) rfl rfl) rfl rfl hl.1 rfl (lv_room (Nat.le_of_ble_eq_true rfl)) dX1_take_98 ⟨(Nat.le_of_ble_eq_true rfl), (Nat.le_of_ble_eq_true rfl)⟩) hS (fun q _ h9 => hFc q h9) hFc (fun r98_18 u t H1 locs ht hvm hw hB hz1 hk1 hS => ?_)
        obtain ⟨r_awaited_17, ez9⟩ : ∃ y, y = u := ⟨_, rfl⟩
        subst ez9
        replace h := hw
        try dsimp only at h
        obtain ⟨hP, hD⟩ := jn0 (wf := (wR g rq r_columns r_columnCount r_awaited_17 r_told r_number r_numberStart)) hB ht hFc
        have hP : va_P g.1 vwCl (wR g rq r_columns r_columnCount r_awaited_17 r_told r_number r_numberStart) H1 := hP
        have hD : va_D A (wR g rq r_columns r_columnCount r_awaited_17 r_told r_number r_numberStart) := hD
        clear hk1 hz1 hB ht hw hFc
        generalize H1 = H at hP hS ⊢
        exact W.iret hx hb hr (fun t ht hW => ⟨⟨r98_18, (r_columns, r_columnCount, r_awaited_17, r_told, r_number, r_numberStart), rfl, h, by rw [ht]; exact hP, hD⟩, hS.F ht⟩) hS.2.2 dX1_take_101
      refine id ?_
      have c_25_1_3 : r_awaited = (4 : Int32) := by
        have z0 : r_awaited.toInt ≠ 1 := fun q => c_25_1_0 (Int32.toInt_inj.mp (q.trans (by decide)))
        have z1 : r_awaited.toInt ≠ 2 := fun q => c_25_1_1 (Int32.toInt_inj.mp (q.trans (by decide)))
        have z2 : r_awaited.toInt ≠ 3 := fun q => c_25_1_2 (Int32.toInt_inj.mp (q.trans (by decide)))
        exact Int32.toInt_inj.mp ((by omega : r_awaited.toInt = 4).trans (by decide))
      replace h := h.2.2.2 c_25_1_3
      refine lv_tableIn (tgt := 102) hx hb dX1_take_25 (by rw [c_25_1_3]; decide) (by rw [c_25_1_3]; decide) (by rw [c_25_1_3]; rfl) (by decide) ?_
      refine lv_aload_n hx hb dX1_take_102 rfl (lv_at hl 0 rfl) ?_
      refine lv_iload_n hx hb dX1_take_103 rfl (lv_at hl 1 rfl) ?_
      refine lv_iload_n hx hb dX1_take_104 rfl (lv_at hl 2 rfl) ?_
      refine lv_aload_n hx hb dX1_take_105 rfl (lv_at hl 0 rfl) ?_
      refine va_get (D := g.1) (ci := 1) (v := .int r_number) (C := RX1) (T := TX1) (N := 6) hx hb hts iX1 hown hK.1 hP 0 rfl rfl 4 (by decide) (hts (.fieldLink RX1 32 "LightWheel$Reader" "number" "I") (by decide +kernel)) (fun _ h9 => h9) rfl dX1_take_106 ?_
      have hFc := va_freeA hD hS hA
      refine va_calli (va_runV (As := [.int a_1, .int a_2, .int r_number]) (rest := []) ⟨hx, hb, hml, hown, hts⟩ (kX1_takeColor l g rq H.size r_columns r_columnCount r_awaited r_told r_number r_numberStart a_1 a_2 r_number _ h) (cwV 3 hts gX1_take_X1_takeColor rfl rfl rfl hdX1_takeColor ⟨(Nat.le_of_ble_eq_true rfl), (Nat.le_of_ble_eq_true rfl)⟩) (preV_M (r := (RX1, TX1, 6)) hK hP hD (ci := 1) (q0 := 0) rfl rfl) rfl rfl hl.1 rfl (lv_room (Nat.le_of_ble_eq_true rfl)) dX1_take_109 ⟨(Nat.le_of_ble_eq_true rfl), (Nat.le_of_ble_eq_true rfl)⟩) hS (fun q _ h9 => hFc q h9) hFc (fun r109_22 u t H1 locs ht hvm hw hB hz1 hk1 hS => ?_)
      obtain ⟨r_columns_19, r_awaited_20, r_told_21⟩ := u
      replace h := hw
      try dsimp only at h
      obtain ⟨hP, hD⟩ := jn0 (wf := (wR g rq r_columns_19 r_columnCount r_awaited_20 r_told_21 r_number r_numberStart)) hB ht hFc
      have hP : va_P g.1 vwCl (wR g rq r_columns_19 r_columnCount r_awaited_20 r_told_21 r_number r_numberStart) H1 := hP
      have hD : va_D A (wR g rq r_columns_19 r_columnCount r_awaited_20 r_told_21 r_number r_numberStart) := hD
      clear hk1 hz1 hB ht hw hFc
      generalize H1 = H at hP hS ⊢
      exact W.iret hx hb hr (fun t ht hW => ⟨⟨r109_22, (r_columns_19, r_columnCount, r_awaited_20, r_told_21, r_number, r_numberStart), rfl, h, by rw [ht]; exact hP, hD⟩, hS.F ht⟩) hS.2.2 dX1_take_112
  · replace h := h.2 c_3_0
    refine lv_aload_n hx hb dX1_take_6 rfl (lv_at hl 0 rfl) ?_
    refine va_get (D := g.1) (ci := 1) (v := .int r_awaited) (C := RX1) (T := TX1) (N := 6) hx hb hts iX1 hown hK.1 hP 0 rfl rfl 2 (by decide) (hts (.fieldLink RX1 19 "LightWheel$Reader" "awaited" "I") (by decide +kernel)) (fun _ h9 => h9) rfl dX1_take_7 ?_
    refine lv_iconst (v := (2 : Int32)) hx hb dX1_take_10 (by decide) ?_
    have tail_1 : ∀ (r_awaited_23 : Int32) (H : Heap) (locs : List Loc) (ls : Array Slot), PX1_take_J1 r_columns r_columnCount r_told r_number r_numberStart k r_awaited_23 → va_P g.1 vwCl (wR g rq r_columns r_columnCount r_awaited_23 r_told r_number r_numberStart) H → va_D A (wR g rq r_columns r_columnCount r_awaited_23 r_told r_number r_numberStart) → va_S A s.heap H locs → lv_has ls 3 [(0, .ref (rq 0)), (1, .int a_1), (2, .int a_2)] → W p l e (headSpec wsX1_take ({ frames := 3, cells := 0, slots := 0, locals := 71 })).room s m ([.ref (rq 0), .int a_1, .int a_2] : List Value).toArray below meth c H locs 0 0 (MQ below (va_Qi (fun (r : Int32) (u : (Nat → Int64) × Int32 × Int32 × Int32 × Int32 × Int32) => k r u.1 u.2.1 u.2.2.1 u.2.2.2.1 u.2.2.2.2.1 u.2.2.2.2.2) (fun u t => PostB g A (wR g rq u.1 u.2.1 u.2.2.1 u.2.2.2.1 u.2.2.2.2.1 u.2.2.2.2.2) t) A) ([.ref (rq 0), .int a_1, .int a_2] : List Value).toArray s 0 0 A) (F0 m 19 ls []) := by
      intro r_awaited_23 H locs ls h hP hD hS hl
      unfold PX1_take_J1 at h
      refine lv_iconst (v := (-1 : Int32)) hx hb dX1_take_19 (by decide) ?_
      exact W.iret hx hb hr (fun t ht hW => ⟨⟨(-1 : Int32), (r_columns, r_columnCount, r_awaited_23, r_told, r_number, r_numberStart), rfl, h, by rw [ht]; exact hP, hD⟩, hS.F ht⟩) hS.2.2 dX1_take_20
    refine lv_icmp_ne (tgt := 19) hx hb dX1_take_11 (by decide) (fun c_11_23 => ?_) (fun c_11_23 => ?_)
    · replace h := h.1 c_11_23
      exact tail_1 r_awaited H locs ls h hP hD hS (lv_sub hl [0, 1, 2] rfl)
    · replace h := h.2 c_11_23
      refine lv_aload_n hx hb dX1_take_14 rfl (lv_at hl 0 rfl) ?_
      refine lv_iconst (v := (3 : Int32)) hx hb dX1_take_15 (by decide) ?_
      refine va_put (D := g.1) (ci := 1) (v := .int (3 : Int32)) (ty := .int) (C := RX1) (T := TX1) (N := 6) hx hb hts iX1 tyX1 tyX1_ok nmX1 hown hK.1 hP hD hS 0 rfl rfl 2 (by decide) (hts (.fieldLink RX1 19 "LightWheel$Reader" "awaited" "I") (by decide +kernel)) (fun _ h9 => h9) rfl (by decide +kernel) rfl rfl (Nat.le_of_ble_eq_true rfl) dX1_take_16 (fun H locs hP hD hS => ?_)
      have hP : va_P g.1 vwCl (wR g rq r_columns r_columnCount (3 : Int32) r_told r_number r_numberStart) H := hP
      have hD : va_D A (wR g rq r_columns r_columnCount (3 : Int32) r_told r_number r_numberStart) := hD
      exact tail_1 (3 : Int32) H locs ls h hP hD hS (lv_sub hl [0, 1, 2] rfl)
theorem hdX1_read : yX1_read.cls = RX1 ∧ yX1_read.cls ≠ "java/lang/invoke/MethodHandle" ∧ yX1_read.cls ≠ "java/lang/invoke/VarHandle" ∧ (parseMethodDescriptor yX1_read.desc).map (fun d => d.parameters.length) = some 2 := by decide +kernel
set_option maxHeartbeats 4000000 in
set_option maxRecDepth 100000 in
theorem kX1_read (l : Launch) (g : GG) (rq tq : Nat → Nat) (sz : Nat) (r_columns : Nat → Int64) (r_columnCount : Int32) (r_awaited : Int32) (r_told : Int32) (r_number : Int32) (r_numberStart : Int32) (t_text : Nat → Int32) (a_2 : Int32) (k : Int32 → (Nat → Int64) → Int32 → Int32 → Int32 → Int32 → Int32 → Prop) (h : PX1_read r_columns r_columnCount r_awaited r_told r_number r_numberStart t_text a_2 k) : Met l yX1_read wsX1_read ({ frames := 4, cells := 0, slots := 0, locals := 93 }) (PreM g [.ref (rq 0), .ref (tq 0), .int a_2] (wR g rq r_columns r_columnCount r_awaited r_told r_number r_numberStart ++ (wT g tq t_text)) sz) (va_Qi (fun (r : Int32) (u : (Nat → Int64) × Int32 × Int32 × Int32 × Int32 × Int32) => k r u.1 u.2.1 u.2.2.1 u.2.2.2.1 u.2.2.2.2.1 u.2.2.2.2.2) (fun u t => PostB g (va_A (wR g rq r_columns r_columnCount r_awaited r_told r_number r_numberStart ++ (wT g tq t_text)) sz) (wR g rq u.1 u.2.1 u.2.2.1 u.2.2.2.1 u.2.2.2.2.1 u.2.2.2.2.2 ++ (wT g tq t_text)) t) (va_A (wR g rq r_columns r_columnCount r_awaited r_told r_number r_numberStart ++ (wT g tq t_text)) sz)) 0 0 (va_A (wR g rq r_columns r_columnCount r_awaited r_told r_number r_numberStart ++ (wT g tq t_text)) sz) := by
  refine Met.ofW (cc := cX1_read) (maxL := 5) (ret := (some .int)) (by decide) rfl ?_
  intro p e s m args below meth c s₁ B hml hv
  obtain ⟨rfl, hsz, hP, hK, hD0⟩ := hv
  have hx := B.exec
  have hb := B.bytes
  have hr := B.returns
  have hts := atoms_spec (ws := wsX1_read) B.pre
  have hown : s.vm.findClass RX1 = some m.cls := findClass_of_methodNamed B.named
  have hlocks := B.notSynchronized
  have iX1 : ∀ w ∈ wsX10, w ∈ wsX1_read := by decide +kernel
  subst hsz
  have hD := hD0.self (sz := s.heap.size)
  generalize hAe : va_A (wR g rq r_columns r_columnCount r_awaited r_told r_number r_numberStart ++ (wT g tq t_text)) s.heap.size = A at hD ⊢
  have hA : ∀ q : Nat, s.heap.size ≤ q → A q := fun q h => by rw [← hAe]; exact Or.inr h
  clear hAe hD0
  have hS : va_S A s.heap s.heap [] := va_S.rf
  have hl := lv_entry ([.ref (rq 0), .ref (tq 0), .int a_2]) (n := 5) (Nat.le_of_ble_eq_true rfl)
  rw [lg_entry_eq]
  generalize (lg_sl ([.ref (rq 0), .ref (tq 0), .int a_2]) ++ List.replicate (5 - (lg_sl ([.ref (rq 0), .ref (tq 0), .int a_2])).length) Slot.unset).toArray = ls at hl ⊢
  have hl : lv_has ls 5 [(0, .ref (rq 0)), (1, .ref (tq 0)), (2, .int a_2)] := hl
  unfold PX1_read at h
  obtain ⟨H, hHe⟩ : ∃ y, y = s.heap := ⟨_, rfl⟩
  rw [← hHe] at hP
  have hS : va_S A s.heap H [] := by rw [hHe]; exact hS
  have hW0 : ∀ (Q : State → Prop), W p l e (headSpec wsX1_read ({ frames := 4, cells := 0, slots := 0, locals := 93 })).room s m ([.ref (rq 0), .ref (tq 0), .int a_2] : List Value).toArray below meth c H [] 0 0 Q (F0 m 0 ls []) → W p l e (headSpec wsX1_read ({ frames := 4, cells := 0, slots := 0, locals := 93 })).room s m ([.ref (rq 0), .ref (tq 0), .int a_2] : List Value).toArray below meth c s.heap [] 0 0 Q (F0 m 0 ls []) := by rw [hHe]; exact fun _ h9 => h9
  refine hW0 _ ?_
  clear hW0 hHe
  generalize ([] : List Loc) = locs at hS ⊢
  refine lv_aload_n hx hb dX1_read_0 rfl (lv_at hl 0 rfl) ?_
  refine lv_iconst (v := (1 : Int32)) hx hb dX1_read_1 (by decide) ?_
  refine va_put (D := g.1) (ci := 1) (v := .int (1 : Int32)) (ty := .int) (C := RX1) (T := TX1) (N := 6) hx hb hts iX1 tyX1 tyX1_ok nmX1 hown hK.1 hP hD hS 0 rfl rfl 1 (by decide) (hts (.fieldLink RX1 15 "LightWheel$Reader" "columnCount" "I") (by decide +kernel)) (fun _ h9 => h9) rfl (by decide +kernel) rfl rfl (Nat.le_of_ble_eq_true rfl) dX1_read_2 (fun H locs hP hD hS => ?_)
  have hP : va_P g.1 vwCl (wR g rq r_columns (1 : Int32) r_awaited r_told r_number r_numberStart ++ (wT g tq t_text)) H := hP
  have hD : va_D A (wR g rq r_columns (1 : Int32) r_awaited r_told r_number r_numberStart ++ (wT g tq t_text)) := hD
  refine lv_aload_n hx hb dX1_read_5 rfl (lv_at hl 0 rfl) ?_
  refine lv_iconst (v := (0 : Int32)) hx hb dX1_read_6 (by decide) ?_
  refine va_put (D := g.1) (ci := 1) (v := .int (0 : Int32)) (ty := .int) (C := RX1) (T := TX1) (N := 6) hx hb hts iX1 tyX1 tyX1_ok nmX1 hown hK.1 hP hD hS 0 rfl rfl 2 (by decide) (hts (.fieldLink RX1 19 "LightWheel$Reader" "awaited" "I") (by decide +kernel)) (fun _ h9 => h9) rfl (by decide +kernel) rfl rfl (Nat.le_of_ble_eq_true rfl) dX1_read_7 (fun H locs hP hD hS => ?_)
  have hP : va_P g.1 vwCl (wR g rq r_columns (1 : Int32) (0 : Int32) r_told r_number r_numberStart ++ (wT g tq t_text)) H := hP
  have hD : va_D A (wR g rq r_columns (1 : Int32) (0 : Int32) r_told r_number r_numberStart ++ (wT g tq t_text)) := hD
  refine lv_aload_n hx hb dX1_read_10 rfl (lv_at hl 0 rfl) ?_
  refine lv_iconst (v := (0 : Int32)) hx hb dX1_read_11 (by decide) ?_
  refine va_put (D := g.1) (ci := 1) (v := .int (0 : Int32)) (ty := .int) (C := RX1) (T := TX1) (N := 6) hx hb hts iX1 tyX1 tyX1_ok nmX1 hown hK.1 hP hD hS 0 rfl rfl 3 (by decide) (hts (.fieldLink RX1 22 "LightWheel$Reader" "told" "I") (by decide +kernel)) (fun _ h9 => h9) rfl (by decide +kernel) rfl rfl (Nat.le_of_ble_eq_true rfl) dX1_read_12 (fun H locs hP hD hS => ?_)
  have hP : va_P g.1 vwCl (wR g rq r_columns (1 : Int32) (0 : Int32) (0 : Int32) r_number r_numberStart ++ (wT g tq t_text)) H := hP
  have hD : va_D A (wR g rq r_columns (1 : Int32) (0 : Int32) (0 : Int32) r_number r_numberStart ++ (wT g tq t_text)) := hD
  refine lv_iconst (v := (0 : Int32)) hx hb dX1_read_15 (by decide) ?_
  refine lv_istore_n (lv' := [(3, .int (0 : Int32)), (0, .ref (rq 0)), (1, .ref (tq 0)), (2, .int a_2)]) hx hb dX1_read_16 rfl hl (by decide) rfl (fun ls hl => ?_)
  have loop_1 : ∀ (kx_1 : Int32 → (Nat → Int64) → Prop), (∀ (v3_1 : Int32) (r_columns_2 : Nat → Int64) (H : Heap) (locs : List Loc) (ls : Array Slot), kx_1 v3_1 r_columns_2 → va_P g.1 vwCl (wR g rq r_columns_2 (1 : Int32) (0 : Int32) (0 : Int32) r_number r_numberStart ++ (wT g tq t_text)) H → va_D A (wR g rq r_columns_2 (1 : Int32) (0 : Int32) (0 : Int32) r_number r_numberStart ++ (wT g tq t_text)) → va_S A s.heap H locs → lv_has ls 5 [(3, .int v3_1), (0, .ref (rq 0)), (1, .ref (tq 0)), (2, .int a_2)] → W p l e (headSpec wsX1_read ({ frames := 4, cells := 0, slots := 0, locals := 93 })).room s m ([.ref (rq 0), .ref (tq 0), .int a_2] : List Value).toArray below meth c H locs 0 0 (MQ below (va_Qi (fun (r : Int32) (u : (Nat → Int64) × Int32 × Int32 × Int32 × Int32 × Int32) => k r u.1 u.2.1 u.2.2.1 u.2.2.2.1 u.2.2.2.2.1 u.2.2.2.2.2) (fun u t => PostB g A (wR g rq u.1 u.2.1 u.2.2.1 u.2.2.2.1 u.2.2.2.2.1 u.2.2.2.2.2 ++ (wT g tq t_text)) t) A) ([.ref (rq 0), .ref (tq 0), .int a_2] : List Value).toArray s 0 0 A) (F0 m 36 ls [])) → ∀ (n_1 : Nat) (v3_1 : Int32) (r_columns_2 : Nat → Int64) (H : Heap) (locs : List Loc) (ls : Array Slot), PX1_read_L1  kx_1 n_1 v3_1 r_columns_2 → va_P g.1 vwCl (wR g rq r_columns_2 (1 : Int32) (0 : Int32) (0 : Int32) r_number r_numberStart ++ (wT g tq t_text)) H → va_D A (wR g rq r_columns_2 (1 : Int32) (0 : Int32) (0 : Int32) r_number r_numberStart ++ (wT g tq t_text)) → va_S A s.heap H locs → lv_has ls 5 [(3, .int v3_1), (0, .ref (rq 0)), (1, .ref (tq 0)), (2, .int a_2)] → W p l e (headSpec wsX1_read ({ frames := 4, cells := 0, slots := 0, locals := 93 })).room s m ([.ref (rq 0), .ref (tq 0), .int a_2] : List Value).toArray below meth c H locs 0 0 (MQ below (va_Qi (fun (r : Int32) (u : (Nat → Int64) × Int32 × Int32 × Int32 × Int32 × Int32) => k r u.1 u.2.1 u.2.2.1 u.2.2.2.1 u.2.2.2.2.1 u.2.2.2.2.2) (fun u t => PostB g A (wR g rq u.1 u.2.1 u.2.2.1 u.2.2.2.1 u.2.2.2.2.1 u.2.2.2.2.2 ++ (wT g tq t_text)) t) A) ([.ref (rq 0), .ref (tq 0), .int a_2] : List Value).toArray s 0 0 A) (F0 m 17 ls []) := by
    intro kx_1 hexit_1 n_1
    induction n_1 with
    | zero => exact fun _ _ _ _ _ h _ _ _ _ => (h : False).elim
    | succ n_1 ih_1 =>
      intro v3_1 r_columns_2 H locs ls h hP hD hS hl
      unfold PX1_read_L1 at h
      refine lv_iload_n hx hb dX1_read_17 rfl (lv_at hl 0 rfl) ?_
      refine lv_bipush (v := (40 : Int32)) hx hb dX1_read_18 (by decide) ?_
      refine lv_icmp_ge (tgt := 36) hx hb dX1_read_20 (by decide) (fun c_20_2 => ?_) (fun c_20_2 => ?_)
      · replace h := h.1 c_20_2
        exact hexit_1 v3_1 r_columns_2 H locs ls h hP hD hS (lv_sub hl [0, 1, 2, 3] rfl)
      · replace h := h.2 c_20_2
        refine lv_aload_n hx hb dX1_read_23 rfl (lv_at hl 1 rfl) ?_
        refine va_get (D := g.1) (ci := 1) (v := .ref (rq 1)) (C := RX1) (T := TX1) (N := 6) hx hb hts iX1 hown hK.1 hP 0 rfl rfl 0 (by decide) (hts (.fieldLink RX1 9 "LightWheel$Reader" "columns" "[J") (by decide +kernel)) (fun _ h9 => h9) rfl dX1_read_24 ?_
        refine lv_iload_n hx hb dX1_read_27 rfl (lv_at hl 0 rfl) ?_
        refine lv_lconst (v := (0 : Int64)) hx hb dX1_read_28 (by decide) ?_
        have o_29_3 := h.1
        replace h := h.2
        refine xs_last hx hb hK.1 hP hD hS 1 1 rfl rfl o_29_3 dX1_read_29 (fun r_columns_5 e_r_columns_5 H locs hP hD hS => ?_)
        replace h := h r_columns_5 e_r_columns_5
        have hP : va_P g.1 vwCl (wR g rq r_columns_5 (1 : Int32) (0 : Int32) (0 : Int32) r_number r_numberStart ++ (wT g tq t_text)) H := hP
        have hD : va_D A (wR g rq r_columns_5 (1 : Int32) (0 : Int32) (0 : Int32) r_number r_numberStart ++ (wT g tq t_text)) := hD
        obtain ⟨v3_6, e_v3_6⟩ : ∃ y : Int32, y = v3_1 + (1 : Int32) := ⟨_, rfl⟩
        replace h := h v3_6 e_v3_6
        refine lv_iinc (v := v3_6) (lv' := [(3, .int v3_6), (0, .ref (rq 0)), (1, .ref (tq 0)), (2, .int a_2)]) hx hb dX1_read_30 hl (k := 0) rfl (by rw [e_v3_6]; rfl) (by decide) rfl (fun ls hl => ?_)
        refine lv_goto (tgt := 17) hx hb dX1_read_33 (by decide) ?_
        exact ih_1 v3_6 r_columns_5 H locs ls h hP hD hS (lv_sub hl [0, 1, 2, 3] rfl)
  obtain ⟨n_1, h⟩ := h
  refine loop_1 _ ?_ n_1 (0 : Int32) r_columns _ _ ls h hP hD hS (lv_sub hl [0, 1, 2, 3] rfl)
  intro v3_1 r_columns_2 H locs ls h hP hD hS hl
  refine lv_iconst (v := (0 : Int32)) hx hb dX1_read_36 (by decide) ?_
  refine lv_istore_n (lv' := [(3, .int (0 : Int32)), (0, .ref (rq 0)), (1, .ref (tq 0)), (2, .int a_2)]) hx hb dX1_read_37 rfl hl (by decide) rfl (fun ls hl => ?_)
  have loop_2 : ∀ (kx_2 : Int32 → (Nat → Int64) → Int32 → Int32 → Int32 → Int32 → Int32 → Prop), (∀ (v3_7 : Int32) (r_columns_8 : Nat → Int64) (r_columnCount_9 : Int32) (r_awaited_10 : Int32) (r_told_11 : Int32) (r_number_12 : Int32) (r_numberStart_13 : Int32) (H : Heap) (locs : List Loc) (ls : Array Slot), kx_2 v3_7 r_columns_8 r_columnCount_9 r_awaited_10 r_told_11 r_number_12 r_numberStart_13 → va_P g.1 vwCl (wR g rq r_columns_8 r_columnCount_9 r_awaited_10 r_told_11 r_number_12 r_numberStart_13 ++ (wT g tq t_text)) H → va_D A (wR g rq r_columns_8 r_columnCount_9 r_awaited_10 r_told_11 r_number_12 r_numberStart_13 ++ (wT g tq t_text)) → va_S A s.heap H locs → lv_has ls 5 [(3, .int v3_7), (0, .ref (rq 0)), (1, .ref (tq 0)), (2, .int a_2)] → W p l e (headSpec wsX1_read ({ frames := 4, cells := 0, slots := 0, locals := 93 })).room s m ([.ref (rq 0), .ref (tq 0), .int a_2] : List Value).toArray below meth c H locs 0 0 (MQ below (va_Qi (fun (r : Int32) (u : (Nat → Int64) × Int32 × Int32 × Int32 × Int32 × Int32) => k r u.1 u.2.1 u.2.2.1 u.2.2.2.1 u.2.2.2.2.1 u.2.2.2.2.2) (fun u t => PostB g A (wR g rq u.1 u.2.1 u.2.2.1 u.2.2.2.1 u.2.2.2.2.1 u.2.2.2.2.2 ++ (wT g tq t_text)) t) A) ([.ref (rq 0), .ref (tq 0), .int a_2] : List Value).toArray s 0 0 A) (F0 m 73 ls [])) → ∀ (n_2 : Nat) (v3_7 : Int32) (r_columns_8 : Nat → Int64) (r_columnCount_9 : Int32) (r_awaited_10 : Int32) (r_told_11 : Int32) (r_number_12 : Int32) (r_numberStart_13 : Int32) (H : Heap) (locs : List Loc) (ls : Array Slot), PX1_read_L2 t_text a_2 k kx_2 n_2 v3_7 r_columns_8 r_columnCount_9 r_awaited_10 r_told_11 r_number_12 r_numberStart_13 → va_P g.1 vwCl (wR g rq r_columns_8 r_columnCount_9 r_awaited_10 r_told_11 r_number_12 r_numberStart_13 ++ (wT g tq t_text)) H → va_D A (wR g rq r_columns_8 r_columnCount_9 r_awaited_10 r_told_11 r_number_12 r_numberStart_13 ++ (wT g tq t_text)) → va_S A s.heap H locs → lv_has ls 5 [(3, .int v3_7), (0, .ref (rq 0)), (1, .ref (tq 0)), (2, .int a_2)] → W p l e (headSpec wsX1_read ({ frames := 4, cells := 0, slots := 0, locals := 93 })).room s m ([.ref (rq 0), .ref (tq 0), .int a_2] : List Value).toArray below meth c H locs 0 0 (MQ below (va_Qi (fun (r : Int32) (u : (Nat → Int64) × Int32 × Int32 × Int32 × Int32 × Int32) => k r u.1 u.2.1 u.2.2.1 u.2.2.2.1 u.2.2.2.2.1 u.2.2.2.2.2) (fun u t => PostB g A (wR g rq u.1 u.2.1 u.2.2.1 u.2.2.2.1 u.2.2.2.2.1 u.2.2.2.2.2 ++ (wT g tq t_text)) t) A) ([.ref (rq 0), .ref (tq 0), .int a_2] : List Value).toArray s 0 0 A) (F0 m 38 ls []) := by
    intro kx_2 hexit_2 n_2
    induction n_2 with
    | zero => exact fun _ _ _ _ _ _ _ _ _ _ h _ _ _ _ => (h : False).elim
    | succ n_2 ih_2 =>
      intro v3_7 r_columns_8 r_columnCount_9 r_awaited_10 r_told_11 r_number_12 r_numberStart_13 H locs ls h hP hD hS hl
      unfold PX1_read_L2 at h
      refine lv_iload_n hx hb dX1_read_38 rfl (lv_at hl 0 rfl) ?_
      refine lv_iload_n hx hb dX1_read_39 rfl (lv_at hl 3 rfl) ?_
      refine lv_icmp_ge (tgt := 73) hx hb dX1_read_40 (by decide) (fun c_40_13 => ?_) (fun c_40_13 => ?_)
      · replace h := h.1 c_40_13
        exact hexit_2 v3_7 r_columns_8 r_columnCount_9 r_awaited_10 r_told_11 r_number_12 r_numberStart_13 H locs ls h hP hD hS (lv_sub hl [0, 1, 2, 3] rfl)
      · replace h := h.2 c_40_13
        refine lv_iload_n hx hb dX1_read_43 rfl (lv_at hl 0 rfl) ?_
        refine lv_aload_n hx hb dX1_read_44 rfl (lv_at hl 2 rfl) ?_
        refine va_alen (v := (160 : Int32)) hx hb hK.1 hP 2 2 rfl rfl rfl dX1_read_45 ?_
        refine lv_icmp_ge (tgt := 73) hx hb dX1_read_46 (by decide) (fun c_46_14 => ?_) (fun c_46_14 => ?_)
        · replace h := h.1 c_46_14
          exact hexit_2 v3_7 r_columns_8 r_columnCount_9 r_awaited_10 r_told_11 r_number_12 r_numberStart_13 H locs ls h hP hD hS (lv_sub hl [0, 1, 2, 3] rfl)
        · replace h := h.2 c_46_14
          refine lv_aload_n hx hb dX1_read_49 rfl (lv_at hl 1 rfl) ?_
          refine lv_aload_n hx hb dX1_read_50 rfl (lv_at hl 2 rfl) ?_
          refine lv_iload_n hx hb dX1_read_51 rfl (lv_at hl 0 rfl) ?_
          have o_52_15 := h.1
          replace h := h.2
          refine va_cald hx hb hK.1 hP 2 2 rfl rfl o_52_15 dX1_read_52 ?_
          refine lv_iload_n hx hb dX1_read_53 rfl (lv_at hl 0 rfl) ?_
          have hPc : va_P g.1 vwCl (wR g rq r_columns_8 r_columnCount_9 r_awaited_10 r_told_11 r_number_12 r_numberStart_13) H := hP.sub [0, 1] rfl
          have hDc : va_D A (wR g rq r_columns_8 r_columnCount_9 r_awaited_10 r_told_11 r_number_12 r_numberStart_13) := hD.sub [0, 1] (by decide) rfl
          have hFc := va_free (wc := (wR g rq r_columns_8 r_columnCount_9 r_awaited_10 r_told_11 r_number_12 r_numberStart_13)) hD hS hA [0, 1] rfl
          refine va_calli (va_runV (As := [.int (t_text (Int32.toNatClampNeg v3_7)), .int v3_7]) (rest := []) ⟨hx, hb, hml, hown, hts⟩ (kX1_take l g rq H.size r_columns_8 r_columnCount_9 r_awaited_10 r_told_11 r_number_12 r_numberStart_13 (t_text (Int32.toNatClampNeg v3_7)) v3_7 _ h) (cwV 2 hts gX1_read_X1_take rfl rfl rfl hdX1_take ⟨(Nat.le_of_ble_eq_true rfl), (Nat.le_of_ble_eq_true rfl)⟩) (preV_M (r := (RX1, TX1, 6)) hK hPc hDc (ci := 1) (q0 := 0) rfl rfl) rfl rfl hl.1 rfl (lv_room (Nat.le_of_ble_eq_true rfl)) dX1_read_54 ⟨(Nat.le_of_ble_eq_true rfl), (Nat.le_of_ble_eq_true rfl)⟩) hS (fun q _ h9 => hFc q h9) hFc (fun r54_23 u t H1 locs ht hvm hw hB hz1 hk1 hS => ?_)
          obtain ⟨r_columns_17, r_columnCount_18, r_awaited_19, r_told_20, r_number_21, r_numberStart_22⟩ := u
          replace h := hw
          try dsimp only at h
          obtain ⟨hP, hD⟩ := jn3 (ws := (wR g rq r_columns_8 r_columnCount_9 r_awaited_10 r_told_11 r_number_12 r_numberStart_13 ++ (wT g tq t_text))) (wf := (wR g rq r_columns_17 r_columnCount_18 r_awaited_19 r_told_20 r_number_21 r_numberStart_22)) (pl := []) (wz := (wR g rq r_columns_17 r_columnCount_18 r_awaited_19 r_told_20 r_number_21 r_numberStart_22 ++ (wT g tq t_text))) hP hD [0, 1] [2] [1, 2, 0] rfl rfl (by decide) (by decide) (by decide) rfl hk1 hFc hB ht
          have hP : va_P g.1 vwCl (wR g rq r_columns_17 r_columnCount_18 r_awaited_19 r_told_20 r_number_21 r_numberStart_22 ++ (wT g tq t_text)) H1 := hP
          have hD : va_D A (wR g rq r_columns_17 r_columnCount_18 r_awaited_19 r_told_20 r_number_21 r_numberStart_22 ++ (wT g tq t_text)) := hD
          clear hk1 hz1 hB ht hw hFc
          generalize H1 = H at hP hS ⊢
          refine lv_istore (lv' := [(4, .int r54_23), (3, .int v3_7), (0, .ref (rq 0)), (1, .ref (tq 0)), (2, .int a_2)]) hx hb dX1_read_57 hl (by decide) rfl (fun ls hl => ?_)
          refine lv_iload hx hb dX1_read_59 (lv_at hl 0 rfl) ?_
          refine lv_if_lt (tgt := 67) hx hb dX1_read_61 (by decide) (fun c_61_23 => ?_) (fun c_61_23 => ?_)
          · replace h := h.1 c_61_23
            obtain ⟨v3_25, e_v3_25⟩ : ∃ y : Int32, y = v3_7 + (1 : Int32) := ⟨_, rfl⟩
            replace h := h v3_25 e_v3_25
            refine lv_iinc (v := v3_25) (lv' := [(3, .int v3_25), (4, .int r54_23), (0, .ref (rq 0)), (1, .ref (tq 0)), (2, .int a_2)]) hx hb dX1_read_67 hl (k := 1) rfl (by rw [e_v3_25]; rfl) (by decide) rfl (fun ls hl => ?_)
            refine lv_goto (tgt := 38) hx hb dX1_read_70 (by decide) ?_
            exact ih_2 v3_25 r_columns_17 r_columnCount_18 r_awaited_19 r_told_20 r_number_21 r_numberStart_22 H locs ls h hP hD hS (lv_sub hl [0, 2, 3, 4] rfl)
          · replace h := h.2 c_61_23
            refine lv_iload hx hb dX1_read_64 (lv_at hl 0 rfl) ?_
            exact W.iret hx hb hr (fun t ht hW => ⟨⟨r54_23, (r_columns_17, r_columnCount_18, r_awaited_19, r_told_20, r_number_21, r_numberStart_22), rfl, h, by rw [ht]; exact hP, hD⟩, hS.F ht⟩) hS.2.2 dX1_read_66
  obtain ⟨n_2, h⟩ := h
  refine loop_2 _ ?_ n_2 (0 : Int32) r_columns_2 (1 : Int32) (0 : Int32) (0 : Int32) r_number r_numberStart _ _ ls h hP hD hS (lv_sub hl [0, 1, 2, 3] rfl)
  intro v3_7 r_columns_8 r_columnCount_9 r_awaited_10 r_told_11 r_number_12 r_numberStart_13 H locs ls h hP hD hS hl
  refine lv_aload_n hx hb dX1_read_73 rfl (lv_at hl 1 rfl) ?_
  refine va_get (D := g.1) (ci := 1) (v := .int r_awaited_10) (C := RX1) (T := TX1) (N := 6) hx hb hts iX1 hown hK.1 hP 0 rfl rfl 2 (by decide) (hts (.fieldLink RX1 19 "LightWheel$Reader" "awaited" "I") (by decide +kernel)) (fun _ h9 => h9) rfl dX1_read_74 ?_
  refine lv_if_ne (tgt := 84) hx hb dX1_read_77 (by decide) (fun c_77_25 => ?_) (fun c_77_25 => ?_)
  · replace h := h.1 c_77_25
    refine lv_iload_n hx hb dX1_read_84 rfl (lv_at hl 3 rfl) ?_
    exact W.iret hx hb hr (fun t ht hW => ⟨⟨a_2, (r_columns_8, r_columnCount_9, r_awaited_10, r_told_11, r_number_12, r_numberStart_13), rfl, h, by rw [ht]; exact hP, hD⟩, hS.F ht⟩) hS.2.2 dX1_read_85
  · replace h := h.2 c_77_25
    refine lv_iconst (v := (-1 : Int32)) hx hb dX1_read_80 (by decide) ?_
    refine lv_goto (tgt := 85) hx hb dX1_read_81 (by decide) ?_
    exact W.iret hx hb hr (fun t ht hW => ⟨⟨(-1 : Int32), (r_columns_8, r_columnCount_9, r_awaited_10, r_told_11, r_number_12, r_numberStart_13), rfl, h, by rw [ht]; exact hP, hD⟩, hS.F ht⟩) hS.2.2 dX1_read_85
