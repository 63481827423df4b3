def PX4_append (l_text : Nat → Int32) (l_textLength : Int32) (a_1 : Int32) (k : Int32 → (Nat → Int32) → Int32 → Prop) : Prop := PX4_within a_1 (1 : Int32) (255 : Int32) (fun r5_1 => ((¬ r5_1 = 0 → ((l_textLength < (160 : Int32) → (vp_in l_textLength 160 ∧ (∀ l_text_5 : Nat → Int32, l_text_5 = upd l_text (Int32.toNatClampNeg l_textLength) (vp_nar .char ((a_1.toUInt32 % 65536).toInt32)) → (∀ f_textLength_6 : Int32, f_textLength_6 = (l_textLength + (1 : Int32)) → (k f_textLength_6 l_text_5 f_textLength_6))))) ∧ (¬ l_textLength < (160 : Int32) → (k (-103 : Int32) l_text l_textLength)))) ∧ (r5_1 = 0 → (k (-101 : Int32) l_text l_textLength))))
def PX4_addPicture (l_oldest : Int32) (l_historySize : Int32) (n_pictureCount : Int32) (n_angle : Int32) (n_speed : Int32) (n_ticks : Int32) (n_load : Int32) (n_secondArm : Int32) (n_settings : Nat → Int32) (n_working : Nat → Int64) (n_written : Nat → Int64) (n_writtenIn : Nat → Int32) (n_width : Nat → Int32) (n_first : Nat → Int32) (n_step : Nat → Int32) (n_kind : Nat → Int32) (n_columns : Nat → Nat → Int64) (hist : Nat → StC) (a_1 : Int32) (k : Int32 → Int32 → Int32 → Int32 → (Nat → Int32) → (Nat → StC) → Prop) : Prop := PX4_within a_1 (1 : Int32) (40 : Int32) (fun r4_1 => ((¬ r4_1 = 0 → ((n_pictureCount < (4 : Int32) → PX4_record l_oldest l_historySize n_pictureCount n_angle n_speed n_ticks n_load n_secondArm n_settings n_working n_written n_writtenIn n_width n_first n_step n_kind n_columns hist  (fun l_oldest_4 l_historySize_5 hist_6 => (vp_in n_pictureCount 4 ∧ (∀ j_8 : Nat, j_8 < 4 → Int32.toNatClampNeg n_pictureCount = j_8 → (∀ n_width_9 : Nat → Int32, n_width_9 = upd n_width j_8 a_1 → (∀ f_pictureCount_10 : Int32, f_pictureCount_10 = (n_pictureCount + (1 : Int32)) → (k n_pictureCount l_oldest_4 l_historySize_5 f_pictureCount_10 n_width_9 hist_6))))))) ∧ (¬ n_pictureCount < (4 : Int32) → (k (-103 : Int32) l_oldest l_historySize n_pictureCount n_width hist)))) ∧ (r4_1 = 0 → (k (-101 : Int32) l_oldest l_historySize n_pictureCount n_width hist))))
def PX4_paint (l_oldest : Int32) (l_historySize : Int32) (n_pictureCount : Int32) (n_angle : Int32) (n_speed : Int32) (n_ticks : Int32) (n_load : Int32) (n_secondArm : Int32) (n_settings : Nat → Int32) (n_working : Nat → Int64) (n_written : Nat → Int64) (n_writtenIn : Nat → Int32) (n_width : Nat → Int32) (n_first : Nat → Int32) (n_step : Nat → Int32) (n_kind : Nat → Int32) (n_columns : Nat → Nat → Int64) (hist : Nat → StC) (a_1 : Int32) (a_2 : Int32) (a_3 : Int32) (a_4 : Int32) (k : Int32 → Int32 → Int32 → (Nat → Nat → Int64) → (Nat → StC) → Prop) : Prop := PX2_pictureNumbered n_pictureCount a_1 (fun o_1 => (o_1 = none → (k (-101 : Int32) l_oldest l_historySize n_columns hist)) ∧ (∀ j_2 : Nat, j_2 < 4 → o_1 = some j_2 → PX4_within a_2 (0 : Int32) ((n_width j_2) - (1 : Int32)) (fun r24_3 => ((r24_3 = 0 → (k (-101 : Int32) l_oldest l_historySize n_columns hist)) ∧ (¬ r24_3 = 0 → PX4_within a_3 (0 : Int32) (11 : Int32) (fun r34_5 => ((r34_5 = 0 → (k (-101 : Int32) l_oldest l_historySize n_columns hist)) ∧ (¬ r34_5 = 0 → PX4_within a_4 (0 : Int32) (7 : Int32) (fun r45_7 => ((¬ r45_7 = 0 → PX4_record l_oldest l_historySize n_pictureCount n_angle n_speed n_ticks n_load n_secondArm n_settings n_working n_written n_writtenIn n_width n_first n_step n_kind n_columns hist  (fun l_oldest_9 l_historySize_10 hist_11 => (vp_in a_2 40 ∧ PX4_colorIn ((n_columns j_2) (Int32.toNatClampNeg a_2)) a_3 (fun r66_13 => (vp_in a_2 40 ∧ PX4_withColor ((n_columns j_2) (Int32.toNatClampNeg a_2)) a_3 a_4 (fun r87_15 => (vp_in a_2 40 ∧ (∀ n_columns_17 : Nat → Nat → Int64, n_columns_17 = va_up n_columns j_2 (vp_updL (n_columns j_2) (Int32.toNatClampNeg a_2) r87_15) → (k r66_13 l_oldest_9 l_historySize_10 n_columns_17 hist_11))))))))) ∧ (r45_7 = 0 → (k (-101 : Int32) l_oldest l_historySize n_columns hist))))))))))))
def PX4_setPlace (l_oldest : Int32) (l_historySize : Int32) (n_pictureCount : Int32) (n_angle : Int32) (n_speed : Int32) (n_ticks : Int32) (n_load : Int32) (n_secondArm : Int32) (n_settings : Nat → Int32) (n_working : Nat → Int64) (n_written : Nat → Int64) (n_writtenIn : Nat → Int32) (n_width : Nat → Int32) (n_first : Nat → Int32) (n_step : Nat → Int32) (n_kind : Nat → Int32) (n_columns : Nat → Nat → Int64) (hist : Nat → StC) (a_1 : Int32) (a_2 : Int32) (a_3 : Int32) (k : Int32 → Int32 → Int32 → (Nat → Int32) → (Nat → Int32) → (Nat → StC) → Prop) : Prop := PX2_pictureNumbered n_pictureCount a_1 (fun o_1 => (o_1 = none → (k (-101 : Int32) l_oldest l_historySize n_first n_step hist)) ∧ (∀ j_2 : Nat, j_2 < 4 → o_1 = some j_2 → PX4_within a_2 (0 : Int32) (719 : Int32) (fun r20_3 => ((r20_3 = 0 → (k (-101 : Int32) l_oldest l_historySize n_first n_step hist)) ∧ (¬ r20_3 = 0 → PX4_within a_3 (1 : Int32) (18 : Int32) (fun r30_5 => ((¬ r30_5 = 0 → PX4_record l_oldest l_historySize n_pictureCount n_angle n_speed n_ticks n_load n_secondArm n_settings n_working n_written n_writtenIn n_width n_first n_step n_kind n_columns hist  (fun l_oldest_7 l_historySize_8 hist_9 => (∀ v5_10 : Int32, v5_10 = (n_first j_2) → (∀ n_first_11 : Nat → Int32, n_first_11 = upd n_first j_2 a_2 → (∀ n_step_12 : Nat → Int32, n_step_12 = upd n_step j_2 a_3 → (k v5_10 l_oldest_7 l_historySize_8 n_first_11 n_step_12 hist_9)))))) ∧ (r30_5 = 0 → (k (-101 : Int32) l_oldest l_historySize n_first n_step hist)))))))))
def PX4_setKind (l_oldest : Int32) (l_historySize : Int32) (n_pictureCount : Int32) (n_angle : Int32) (n_speed : Int32) (n_ticks : Int32) (n_load : Int32) (n_secondArm : Int32) (n_settings : Nat → Int32) (n_working : Nat → Int64) (n_written : Nat → Int64) (n_writtenIn : Nat → Int32) (n_width : Nat → Int32) (n_first : Nat → Int32) (n_step : Nat → Int32) (n_kind : Nat → Int32) (n_columns : Nat → Nat → Int64) (hist : Nat → StC) (a_1 : Int32) (a_2 : Int32) (k : Int32 → Int32 → Int32 → (Nat → Int32) → (Nat → StC) → Prop) : Prop := PX2_pictureNumbered n_pictureCount a_1 (fun o_1 => (o_1 = none → (k (-101 : Int32) l_oldest l_historySize n_kind hist)) ∧ (∀ j_2 : Nat, j_2 < 4 → o_1 = some j_2 → PX4_within a_2 (0 : Int32) (2 : Int32) (fun r16_3 => ((¬ r16_3 = 0 → PX4_record l_oldest l_historySize n_pictureCount n_angle n_speed n_ticks n_load n_secondArm n_settings n_working n_written n_writtenIn n_width n_first n_step n_kind n_columns hist  (fun l_oldest_5 l_historySize_6 hist_7 => (∀ v4_8 : Int32, v4_8 = (n_kind j_2) → (∀ n_kind_9 : Nat → Int32, n_kind_9 = upd n_kind j_2 a_2 → (k v4_8 l_oldest_5 l_historySize_6 n_kind_9 hist_7))))) ∧ (r16_3 = 0 → (k (-101 : Int32) l_oldest l_historySize n_kind hist))))))
def PX4_load (l_oldest : Int32) (l_historySize : Int32) (l_text : Nat → Int32) (l_textLength : Int32) (r_columns : Nat → Int64) (r_columnCount : Int32) (r_awaited : Int32) (r_told : Int32) (r_number : Int32) (r_numberStart : Int32) (n_pictureCount : Int32) (n_angle : Int32) (n_speed : Int32) (n_ticks : Int32) (n_load : Int32) (n_secondArm : Int32) (n_settings : Nat → Int32) (n_working : Nat → Int64) (n_written : Nat → Int64) (n_writtenIn : Nat → Int32) (n_width : Nat → Int32) (n_first : Nat → Int32) (n_step : Nat → Int32) (n_kind : Nat → Int32) (n_columns : Nat → Nat → Int64) (hist : Nat → StC) (a_1 : Int32) (k : Int32 → Int32 → Int32 → Int32 → (Nat → Int64) → Int32 → Int32 → Int32 → Int32 → Int32 → (Nat → Int32) → (Nat → Nat → Int64) → (Nat → StC) → Prop) : Prop := PX2_pictureNumbered n_pictureCount a_1 (fun o_1 => (o_1 = none → (k (-101 : Int32) l_oldest l_historySize l_textLength r_columns r_columnCount r_awaited r_told r_number r_numberStart n_width n_columns hist)) ∧ (∀ j_2 : Nat, j_2 < 4 → o_1 = some j_2 → PX1_read r_columns r_columnCount r_awaited r_told r_number r_numberStart l_text l_textLength (fun r28_9 r_columns_3 r_columnCount_4 r_awaited_5 r_told_6 r_number_7 r_numberStart_8 => ((r28_9 < 0 → PX4_record l_oldest l_historySize n_pictureCount n_angle n_speed n_ticks n_load n_secondArm n_settings n_working n_written n_writtenIn n_width n_first n_step n_kind n_columns hist  (fun l_oldest_11 l_historySize_12 hist_13 => (∀ n_width_14 : Nat → Int32, n_width_14 = upd n_width j_2 r_columnCount_4 → (∀ n_columns_15 : Nat → Nat → Int64, n_columns_15 = va_up n_columns j_2 (va_cpy r_columns_3 (n_columns j_2) 0 0 40) → (k (n_width_14 j_2) l_oldest_11 l_historySize_12 (0 : Int32) r_columns_3 r_columnCount_4 r_awaited_5 r_told_6 r_number_7 r_numberStart_8 n_width_14 n_columns_15 hist_13))))) ∧ (¬ r28_9 < 0 → (k ((-1000 : Int32) - r28_9) l_oldest l_historySize l_textLength r_columns_3 r_columnCount_4 r_awaited_5 r_told_6 r_number_7 r_numberStart_8 n_width n_columns hist))))))
theorem hdX4_append : yX4_append.cls = RX4 ∧ yX4_append.cls ≠ "java/lang/invoke/MethodHandle" ∧ yX4_append.cls ≠ "java/lang/invoke/VarHandle" ∧ (parseMethodDescriptor yX4_append.desc).map (fun d => d.parameters.length) = some 1 := by decide +kernel
set_option maxHeartbeats 4000000 in
set_option maxRecDepth 100000 in
theorem kX4_append (l : Launch) (g : GG) (lq rq wq nq : Nat → Nat) (hq : Nat → Nat → Nat) (pl : va_W) (sz : Nat) (l_oldest : Int32) (l_historySize : Int32) (l_text : Nat → Int32) (l_textLength : Int32) (l_rightAlone : Nat → Int64) (r_columns : Nat → Int64) (r_columnCount : Int32) (r_awaited : Int32) (r_told : Int32) (r_number : Int32) (r_numberStart : Int32) (w_wanted : Nat → Int64) (w_loadAt : Nat → Int32) (w_passedIn : Nat → Int32) (w_secondArm : Int32) (w_power : Int32) (w_limit : Int32) (w_wantedSpeed : Int32) (w_angle : Int32) (w_speed : Int32) (w_load : Int32) (w_ticks : Int32) (n_pictureCount : Int32) (n_angle : Int32) (n_speed : Int32) (n_ticks : Int32) (n_load : Int32) (n_secondArm : Int32) (n_settings : Nat → Int32) (n_working : Nat → Int64) (n_written : Nat → Int64) (n_writtenIn : Nat → Int32) (n_width : Nat → Int32) (n_first : Nat → Int32) (n_step : Nat → Int32) (n_kind : Nat → Int32) (n_columns : Nat → Nat → Int64) (a_1 : Int32) (k : Int32 → (Nat → Int32) → Int32 → Prop) (h : PX4_append l_text l_textLength a_1 k) : Met l yX4_append wsX4_append ({ frames := 1, cells := 0, slots := 0, locals := 22 }) (PreM g [.ref (lq 0), .int a_1] (wL g lq nq rq wq hq l_oldest l_historySize l_text l_textLength l_rightAlone ++ (wR g rq r_columns r_columnCount r_awaited r_told r_number r_numberStart ++ (wW g wq w_wanted w_loadAt w_passedIn w_secondArm w_power w_limit w_wantedSpeed w_angle w_speed w_load w_ticks ++ (wS g nq n_pictureCount n_angle n_speed n_ticks n_load n_secondArm n_settings n_working n_written n_writtenIn n_width n_first n_step n_kind n_columns ++ (pl))))) sz) (va_Qi (fun (r : Int32) (u : (Nat → Int32) × Int32) => k r u.1 u.2) (fun u t => PostB g (va_A (wL g lq nq rq wq hq l_oldest l_historySize l_text l_textLength l_rightAlone ++ (wR g rq r_columns r_columnCount r_awaited r_told r_number r_numberStart ++ (wW g wq w_wanted w_loadAt w_passedIn w_secondArm w_power w_limit w_wantedSpeed w_angle w_speed w_load w_ticks ++ (wS g nq n_pictureCount n_angle n_speed n_ticks n_load n_secondArm n_settings n_working n_written n_writtenIn n_width n_first n_step n_kind n_columns ++ (pl))))) sz) (wL g lq nq rq wq hq l_oldest l_historySize u.1 u.2 l_rightAlone ++ (wR g rq r_columns r_columnCount r_awaited r_told r_number r_numberStart ++ (wW g wq w_wanted w_loadAt w_passedIn w_secondArm w_power w_limit w_wantedSpeed w_angle w_speed w_load w_ticks ++ (wS g nq n_pictureCount n_angle n_speed n_ticks n_load n_secondArm n_settings n_working n_written n_writtenIn n_width n_first n_step n_kind n_columns ++ (pl))))) t) (va_A (wL g lq nq rq wq hq l_oldest l_historySize l_text l_textLength l_rightAlone ++ (wR g rq r_columns r_columnCount r_awaited r_told r_number r_numberStart ++ (wW g wq w_wanted w_loadAt w_passedIn w_secondArm w_power w_limit w_wantedSpeed w_angle w_speed w_load w_ticks ++ (wS g nq n_pictureCount n_angle n_speed n_ticks n_load n_secondArm n_settings n_working n_written n_writtenIn n_width n_first n_step n_kind n_columns ++ (pl))))) sz)) 0 0 (va_A (wL g lq nq rq wq hq l_oldest l_historySize l_text l_textLength l_rightAlone ++ (wR g rq r_columns r_columnCount r_awaited r_told r_number r_numberStart ++ (wW g wq w_wanted w_loadAt w_passedIn w_secondArm w_power w_limit w_wantedSpeed w_angle w_speed w_load w_ticks ++ (wS g nq n_pictureCount n_angle n_speed n_ticks n_load n_secondArm n_settings n_working n_written n_writtenIn n_width n_first n_step n_kind n_columns ++ (pl))))) sz) := by
  refine Met.ofW (cc := cX4_append) (maxL := 2) (ret := (some .int)) (by decide) rfl ?_
  intro p e s m args below meth c s₁ B hml hv
  obtain ⟨rfl, hsz, hP, hK, hD0⟩ := hv
  have hx := B.exec
  have hb := B.bytes
  have hr := B.returns
  have hts := atoms_spec (ws := wsX4_append) B.pre
  have hown : s.vm.findClass RX4 = some m.cls := findClass_of_methodNamed B.named
  have hlocks := B.notSynchronized
  have iX4 : ∀ w ∈ wsX40, w ∈ wsX4_append := by decide +kernel
  subst hsz
  have hD := hD0.self (sz := s.heap.size)
  generalize hAe : va_A (wL g lq nq rq wq hq l_oldest l_historySize l_text l_textLength l_rightAlone ++ (wR g rq r_columns r_columnCount r_awaited r_told r_number r_numberStart ++ (wW g wq w_wanted w_loadAt w_passedIn w_secondArm w_power w_limit w_wantedSpeed w_angle w_speed w_load w_ticks ++ (wS g nq n_pictureCount n_angle n_speed n_ticks n_load n_secondArm n_settings n_working n_written n_writtenIn n_width n_first n_step n_kind n_columns ++ (pl))))) s.heap.size = A at hD ⊢
  have hA : ∀ q : Nat, s.heap.size ≤ q → A q := fun q h => by rw [← hAe]; exact Or.inr h
  clear hAe hD0
  have hS : va_S A s.heap s.heap [] := va_S.rf
  have hl := lv_entry ([.ref (lq 0), .int a_1]) (n := 2) (Nat.le_of_ble_eq_true rfl)
  rw [lg_entry_eq]
  generalize (lg_sl ([.ref (lq 0), .int a_1]) ++ List.replicate (2 - (lg_sl ([.ref (lq 0), .int a_1])).length) Slot.unset).toArray = ls at hl ⊢
  have hl : lv_has ls 2 [(0, .ref (lq 0)), (1, .int a_1)] := hl
  unfold PX4_append at h
  obtain ⟨H, hHe⟩ : ∃ y, y = s.heap := ⟨_, rfl⟩
  rw [← hHe] at hP
  have hS : va_S A s.heap H [] := by rw [hHe]; exact hS
  have hW0 : ∀ (Q : State → Prop), W p l e (headSpec wsX4_append ({ frames := 1, cells := 0, slots := 0, locals := 22 })).room s m ([.ref (lq 0), .int a_1] : List Value).toArray below meth c H [] 0 0 Q (F0 m 0 ls []) → W p l e (headSpec wsX4_append ({ frames := 1, cells := 0, slots := 0, locals := 22 })).room s m ([.ref (lq 0), .int a_1] : List Value).toArray below meth c s.heap [] 0 0 Q (F0 m 0 ls []) := by rw [hHe]; exact fun _ h9 => h9
  refine hW0 _ ?_
  clear hW0 hHe
  generalize ([] : List Loc) = locs at hS ⊢
  refine lv_iload_n hx hb dX4_append_0 rfl (lv_at hl 1 rfl) ?_
  refine lv_iconst (v := (1 : Int32)) hx hb dX4_append_1 (by decide) ?_
  refine lv_sipush (v := (255 : Int32)) hx hb dX4_append_2 (by decide) ?_
  refine vp_callSi (W.runS (As := [.int a_1, .int (1 : Int32), .int (255 : Int32)]) (rest := []) ⟨hx, hb, hml, hown, hts⟩ (kX4_within l g  a_1 (1 : Int32) (255 : Int32) _ h) (va_cwS 3 hts gX4_append_X4_within rfl rfl rfl hdX4_within.2 ⟨(Nat.le_of_ble_eq_true rfl), (Nat.le_of_ble_eq_true rfl)⟩) (preS_R hK (va_P_nil (D := g.1) (cl := vwCl))) rfl rfl hl.1 rfl (lv_room (Nat.le_of_ble_eq_true rfl)) dX4_append_5 ⟨(Nat.le_of_ble_eq_true rfl), (Nat.le_of_ble_eq_true rfl)⟩) (fun r5_1 h => ?_)
  refine lv_if_ne (tgt := 14) hx hb dX4_append_8 (by decide) (fun c_8_1 => ?_) (fun c_8_1 => ?_)
  · replace h := h.1 c_8_1
    refine lv_aload_n hx hb dX4_append_14 rfl (lv_at hl 0 rfl) ?_
    refine va_get (D := g.1) (ci := 4) (v := .int l_textLength) (C := RX4) (T := TX4) (N := 9) hx hb hts iX4 hown hK.1 hP 0 rfl rfl 5 (by decide) (hts (.fieldLink RX4 31 "LightWheel" "textLength" "I") (by decide +kernel)) (fun _ h9 => h9) rfl dX4_append_15 ?_
    refine lv_sipush (v := (160 : Int32)) hx hb dX4_append_18 (by decide) ?_
    refine lv_icmp_lt (tgt := 27) hx hb dX4_append_21 (by decide) (fun c_21_2 => ?_) (fun c_21_2 => ?_)
    · replace h := h.1 c_21_2
      refine lv_aload_n hx hb dX4_append_27 rfl (lv_at hl 0 rfl) ?_
      refine va_get (D := g.1) (ci := 4) (v := .ref (lq 2)) (C := RX4) (T := TX4) (N := 9) hx hb hts iX4 hown hK.1 hP 0 rfl rfl 4 (by decide) (hts (.fieldLink RX4 27 "LightWheel" "text" "[C") (by decide +kernel)) (fun _ h9 => h9) rfl dX4_append_28 ?_
      refine lv_aload_n hx hb dX4_append_31 rfl (lv_at hl 0 rfl) ?_
      refine va_get (D := g.1) (ci := 4) (v := .int l_textLength) (C := RX4) (T := TX4) (N := 9) hx hb hts iX4 hown hK.1 hP 0 rfl rfl 5 (by decide) (hts (.fieldLink RX4 31 "LightWheel" "textLength" "I") (by decide +kernel)) (fun _ h9 => h9) rfl dX4_append_32 ?_
      refine lv_iload_n hx hb dX4_append_35 rfl (lv_at hl 1 rfl) ?_
      refine lv_i2c (v := ((a_1.toUInt32 % 65536).toInt32)) hx hb dX4_append_36 rfl ?_
      have o_37_3 := h.1
      replace h := h.2
      refine xs_cast hx hb hK.1 hP hD hS 2 2 rfl rfl o_37_3 dX4_append_37 (fun l_text_5 e_l_text_5 H locs hP hD hS => ?_)
      replace h := h l_text_5 e_l_text_5
      have hP : va_P g.1 vwCl (wL g lq nq rq wq hq l_oldest l_historySize l_text_5 l_textLength l_rightAlone ++ (wR g rq r_columns r_columnCount r_awaited r_told r_number r_numberStart ++ (wW g wq w_wanted w_loadAt w_passedIn w_secondArm w_power w_limit w_wantedSpeed w_angle w_speed w_load w_ticks ++ (wS g nq n_pictureCount n_angle n_speed n_ticks n_load n_secondArm n_settings n_working n_written n_writtenIn n_width n_first n_step n_kind n_columns ++ (pl))))) H := hP
      have hD : va_D A (wL g lq nq rq wq hq l_oldest l_historySize l_text_5 l_textLength l_rightAlone ++ (wR g rq r_columns r_columnCount r_awaited r_told r_number r_numberStart ++ (wW g wq w_wanted w_loadAt w_passedIn w_secondArm w_power w_limit w_wantedSpeed w_angle w_speed w_load w_ticks ++ (wS g nq n_pictureCount n_angle n_speed n_ticks n_load n_secondArm n_settings n_working n_written n_writtenIn n_width n_first n_step n_kind n_columns ++ (pl))))) := hD
      refine lv_aload_n hx hb dX4_append_38 rfl (lv_at hl 0 rfl) ?_
      refine lv_dup hx hb dX4_append_39 rfl ?_
      refine va_get (D := g.1) (ci := 4) (v := .int l_textLength) (C := RX4) (T := TX4) (N := 9) hx hb hts iX4 hown hK.1 hP 0 rfl rfl 5 (by decide) (hts (.fieldLink RX4 31 "LightWheel" "textLength" "I") (by decide +kernel)) (fun _ h9 => h9) rfl dX4_append_40 ?_
      refine lv_iconst (v := (1 : Int32)) hx hb dX4_append_43 (by decide) ?_
      refine lv_iadd hx hb dX4_append_44 ?_
      refine lv_topi (fun f_textLength_6 e_f_textLength_6 => ?_)
      replace h := h f_textLength_6 e_f_textLength_6
      refine va_put (D := g.1) (ci := 4) (v := .int f_textLength_6) (ty := .int) (C := RX4) (T := TX4) (N := 9) hx hb hts iX4 tyX4 tyX4_ok nmX4 hown hK.1 hP hD hS 0 rfl rfl 5 (by decide) (hts (.fieldLink RX4 31 "LightWheel" "textLength" "I") (by decide +kernel)) (fun _ h9 => h9) rfl (by decide +kernel) rfl rfl (Nat.le_of_ble_eq_true rfl) dX4_append_45 (fun H locs hP hD hS => ?_)
      have hP : va_P g.1 vwCl (wL g lq nq rq wq hq l_oldest l_historySize l_text_5 f_textLength_6 l_rightAlone ++ (wR g rq r_columns r_columnCount r_awaited r_told r_number r_numberStart ++ (wW g wq w_wanted w_loadAt w_passedIn w_secondArm w_power w_limit w_wantedSpeed w_angle w_speed w_load w_ticks ++ (wS g nq n_pictureCount n_angle n_speed n_ticks n_load n_secondArm n_settings n_working n_written n_writtenIn n_width n_first n_step n_kind n_columns ++ (pl))))) H := hP
      have hD : va_D A (wL g lq nq rq wq hq l_oldest l_historySize l_text_5 f_textLength_6 l_rightAlone ++ (wR g rq r_columns r_columnCount r_awaited r_told r_number r_numberStart ++ (wW g wq w_wanted w_loadAt w_passedIn w_secondArm w_power w_limit w_wantedSpeed w_angle w_speed w_load w_ticks ++ (wS g nq n_pictureCount n_angle n_speed n_ticks n_load n_secondArm n_settings n_working n_written n_writtenIn n_width n_first n_step n_kind n_columns ++ (pl))))) := hD
      refine lv_aload_n hx hb dX4_append_48 rfl (lv_at hl 0 rfl) ?_
      refine va_get (D := g.1) (ci := 4) (v := .int f_textLength_6) (C := RX4) (T := TX4) (N := 9) hx hb hts iX4 hown hK.1 hP 0 rfl rfl 5 (by decide) (hts (.fieldLink RX4 31 "LightWheel" "textLength" "I") (by decide +kernel)) (fun _ h9 => h9) rfl dX4_append_49 ?_
      exact W.iret hx hb hr (fun t ht hW => ⟨⟨f_textLength_6, (l_text_5, f_textLength_6), rfl, h, by rw [ht]; exact hP, hD⟩, hS.F ht⟩) hS.2.2 dX4_append_52
    · replace h := h.2 c_21_2
      refine lv_bipush (v := (-103 : Int32)) hx hb dX4_append_24 (by decide) ?_
      exact W.iret hx hb hr (fun t ht hW => ⟨⟨(-103 : Int32), (l_text, l_textLength), rfl, h, by rw [ht]; exact hP, hD⟩, hS.F ht⟩) hS.2.2 dX4_append_26
  · replace h := h.2 c_8_1
    refine lv_bipush (v := (-101 : Int32)) hx hb dX4_append_11 (by decide) ?_
    exact W.iret hx hb hr (fun t ht hW => ⟨⟨(-101 : Int32), (l_text, l_textLength), rfl, h, by rw [ht]; exact hP, hD⟩, hS.F ht⟩) hS.2.2 dX4_append_13
theorem hdX4_addPicture : yX4_addPicture.cls = RX4 ∧ yX4_addPicture.cls ≠ "java/lang/invoke/MethodHandle" ∧ yX4_addPicture.cls ≠ "java/lang/invoke/VarHandle" ∧ (parseMethodDescriptor yX4_addPicture.desc).map (fun d => d.parameters.length) = some 1 := by decide +kernel
set_option maxHeartbeats 4000000 in
set_option maxRecDepth 100000 in
theorem kX4_addPicture (l : Launch) (g : GG) (lq rq wq nq : Nat → Nat) (hq : Nat → Nat → Nat) (sz : Nat) (l_oldest : Int32) (l_historySize : Int32) (l_text : Nat → Int32) (l_textLength : Int32) (l_rightAlone : Nat → Int64) (r_columns : Nat → Int64) (r_columnCount : Int32) (r_awaited : Int32) (r_told : Int32) (r_number : Int32) (r_numberStart : Int32) (w_wanted : Nat → Int64) (w_loadAt : Nat → Int32) (w_passedIn : Nat → Int32) (w_secondArm : Int32) (w_power : Int32) (w_limit : Int32) (w_wantedSpeed : Int32) (w_angle : Int32) (w_speed : Int32) (w_load : Int32) (w_ticks : Int32) (n_pictureCount : Int32) (n_angle : Int32) (n_speed : Int32) (n_ticks : Int32) (n_load : Int32) (n_secondArm : Int32) (n_settings : Nat → Int32) (n_working : Nat → Int64) (n_written : Nat → Int64) (n_writtenIn : Nat → Int32) (n_width : Nat → Int32) (n_first : Nat → Int32) (n_step : Nat → Int32) (n_kind : Nat → Int32) (n_columns : Nat → Nat → Int64) (hist : Nat → StC) (a_1 : Int32) (k : Int32 → Int32 → Int32 → Int32 → (Nat → Int32) → (Nat → StC) → Prop) (h : PX4_addPicture l_oldest l_historySize n_pictureCount n_angle n_speed n_ticks n_load n_secondArm n_settings n_working n_written n_writtenIn n_width n_first n_step n_kind n_columns hist a_1 k) : Met l yX4_addPicture wsX4_addPicture ({ frames := 4, cells := 0, slots := 0, locals := 103 }) (PreM g [.ref (lq 0), .int a_1] (wL g lq nq rq wq hq l_oldest l_historySize l_text l_textLength l_rightAlone ++ (wR g rq r_columns r_columnCount r_awaited r_told r_number r_numberStart ++ (wW g wq w_wanted w_loadAt w_passedIn w_secondArm w_power w_limit w_wantedSpeed w_angle w_speed w_load w_ticks ++ (wS g nq n_pictureCount n_angle n_speed n_ticks n_load n_secondArm n_settings n_working n_written n_writtenIn n_width n_first n_step n_kind n_columns ++ (wH g hq hist))))) sz) (va_Qi (fun (r : Int32) (u : Int32 × Int32 × Int32 × (Nat → Int32) × (Nat → StC)) => k r u.1 u.2.1 u.2.2.1 u.2.2.2.1 u.2.2.2.2) (fun u t => PostB g (va_A (wL g lq nq rq wq hq l_oldest l_historySize l_text l_textLength l_rightAlone ++ (wR g rq r_columns r_columnCount r_awaited r_told r_number r_numberStart ++ (wW g wq w_wanted w_loadAt w_passedIn w_secondArm w_power w_limit w_wantedSpeed w_angle w_speed w_load w_ticks ++ (wS g nq n_pictureCount n_angle n_speed n_ticks n_load n_secondArm n_settings n_working n_written n_writtenIn n_width n_first n_step n_kind n_columns ++ (wH g hq hist))))) sz) (wL g lq nq rq wq hq u.1 u.2.1 l_text l_textLength l_rightAlone ++ (wR g rq r_columns r_columnCount r_awaited r_told r_number r_numberStart ++ (wW g wq w_wanted w_loadAt w_passedIn w_secondArm w_power w_limit w_wantedSpeed w_angle w_speed w_load w_ticks ++ (wS g nq u.2.2.1 n_angle n_speed n_ticks n_load n_secondArm n_settings n_working n_written n_writtenIn u.2.2.2.1 n_first n_step n_kind n_columns ++ (wH g hq u.2.2.2.2))))) t) (va_A (wL g lq nq rq wq hq l_oldest l_historySize l_text l_textLength l_rightAlone ++ (wR g rq r_columns r_columnCount r_awaited r_told r_number r_numberStart ++ (wW g wq w_wanted w_loadAt w_passedIn w_secondArm w_power w_limit w_wantedSpeed w_angle w_speed w_load w_ticks ++ (wS g nq n_pictureCount n_angle n_speed n_ticks n_load n_secondArm n_settings n_working n_written n_writtenIn n_width n_first n_step n_kind n_columns ++ (wH g hq hist))))) sz)) 0 0 (va_A (wL g lq nq rq wq hq l_oldest l_historySize l_text l_textLength l_rightAlone ++ (wR g rq r_columns r_columnCount r_awaited r_told r_number r_numberStart ++ (wW g wq w_wanted w_loadAt w_passedIn w_secondArm w_power w_limit w_wantedSpeed w_angle w_speed w_load w_ticks ++ (wS g nq n_pictureCount n_angle n_speed n_ticks n_load n_secondArm n_settings n_working n_written n_writtenIn n_width n_first n_step n_kind n_columns ++ (wH g hq hist))))) sz) := by
  refine Met.ofW (cc := cX4_addPicture) (maxL := 3) (ret := (some .int)) (by decide) rfl ?_
  intro p e s m args below meth c s₁ B hml hv
  obtain ⟨rfl, hsz, hP, hK, hD0⟩ := hv
  have hx := B.exec
  have hb := B.bytes
  have hr := B.returns
  have hts := atoms_spec (ws := wsX4_addPicture) B.pre
  have hown : s.vm.findClass RX4 = some m.cls := findClass_of_methodNamed B.named
  have hlocks := B.notSynchronized
  have iX0 : ∀ w ∈ wsX00, w ∈ wsX4_addPicture := by decide +kernel
  have iX2 : ∀ w ∈ wsX20, w ∈ wsX4_addPicture := by decide +kernel
  have iX4 : ∀ w ∈ wsX40, w ∈ wsX4_addPicture := by decide +kernel
  subst hsz
  have hD := hD0.self (sz := s.heap.size)
  generalize hAe : va_A (wL g lq nq rq wq hq l_oldest l_historySize l_text l_textLength l_rightAlone ++ (wR g rq r_columns r_columnCount r_awaited r_told r_number r_numberStart ++ (wW g wq w_wanted w_loadAt w_passedIn w_secondArm w_power w_limit w_wantedSpeed w_angle w_speed w_load w_ticks ++ (wS g nq n_pictureCount n_angle n_speed n_ticks n_load n_secondArm n_settings n_working n_written n_writtenIn n_width n_first n_step n_kind n_columns ++ (wH g hq hist))))) s.heap.size = A at hD ⊢
  have hA : ∀ q : Nat, s.heap.size ≤ q → A q := fun q h => by rw [← hAe]; exact Or.inr h
  clear hAe hD0
  have hS : va_S A s.heap s.heap [] := va_S.rf
  have hl := lv_entry ([.ref (lq 0), .int a_1]) (n := 3) (Nat.le_of_ble_eq_true rfl)
  rw [lg_entry_eq]
  generalize (lg_sl ([.ref (lq 0), .int a_1]) ++ List.replicate (3 - (lg_sl ([.ref (lq 0), .int a_1])).length) Slot.unset).toArray = ls at hl ⊢
  have hl : lv_has ls 3 [(0, .ref (lq 0)), (1, .int a_1)] := hl
  unfold PX4_addPicture at h
  obtain ⟨H, hHe⟩ : ∃ y, y = s.heap := ⟨_, rfl⟩
  rw [← hHe] at hP
  have hS : va_S A s.heap H [] := by rw [hHe]; exact hS
  have hW0 : ∀ (Q : State → Prop), W p l e (headSpec wsX4_addPicture ({ frames := 4, cells := 0, slots := 0, locals := 103 })).room s m ([.ref (lq 0), .int a_1] : List Value).toArray below meth c H [] 0 0 Q (F0 m 0 ls []) → W p l e (headSpec wsX4_addPicture ({ frames := 4, cells := 0, slots := 0, locals := 103 })).room s m ([.ref (lq 0), .int a_1] : List Value).toArray below meth c s.heap [] 0 0 Q (F0 m 0 ls []) := by rw [hHe]; exact fun _ h9 => h9
  refine hW0 _ ?_
  clear hW0 hHe
  generalize ([] : List Loc) = locs at hS ⊢
  refine lv_iload_n hx hb dX4_addPicture_0 rfl (lv_at hl 1 rfl) ?_
  refine lv_iconst (v := (1 : Int32)) hx hb dX4_addPicture_1 (by decide) ?_
  refine lv_bipush (v := (40 : Int32)) hx hb dX4_addPicture_2 (by decide) ?_
  refine vp_callSi (W.runS (As := [.int a_1, .int (1 : Int32), .int (40 : Int32)]) (rest := []) ⟨hx, hb, hml, hown, hts⟩ (kX4_within l g  a_1 (1 : Int32) (40 : Int32) _ h) (va_cwS 3 hts gX4_addPicture_X4_within rfl rfl rfl hdX4_within.2 ⟨(Nat.le_of_ble_eq_true rfl), (Nat.le_of_ble_eq_true rfl)⟩) (preS_R hK (va_P_nil (D := g.1) (cl := vwCl))) rfl rfl hl.1 rfl (lv_room (Nat.le_of_ble_eq_true rfl)) dX4_addPicture_4 ⟨(Nat.le_of_ble_eq_true rfl), (Nat.le_of_ble_eq_true rfl)⟩) (fun r4_1 h => ?_)
  refine lv_if_ne (tgt := 13) hx hb dX4_addPicture_7 (by decide) (fun c_7_1 => ?_) (fun c_7_1 => ?_)
  · replace h := h.1 c_7_1
    refine lv_aload_n hx hb dX4_addPicture_13 rfl (lv_at hl 0 rfl) ?_
    refine va_get (D := g.1) (ci := 4) (v := .ref (nq 0)) (C := RX4) (T := TX4) (N := 9) hx hb hts iX4 hown hK.1 hP 0 rfl rfl 0 (by decide) (hts (.fieldLink RX4 10 "LightWheel" "now" "LLightWheel$State;") (by decide +kernel)) (fun _ h9 => h9) rfl dX4_addPicture_14 ?_
    refine va_get (D := g.1) (ci := 2) (v := .int n_pictureCount) (C := RX2) (T := TX2) (N := 11) hx hb hts iX2 hown hK.1 hP 10 rfl rfl 0 (by decide) (hts (.fieldLink RX4 56 "LightWheel$State" "pictureCount" "I") (by decide +kernel)) (fun _ h9 => h9) rfl dX4_addPicture_17 ?_
    refine lv_iconst (v := (4 : Int32)) hx hb dX4_addPicture_20 (by decide) ?_
    refine lv_icmp_lt (tgt := 27) hx hb dX4_addPicture_21 (by decide) (fun c_21_2 => ?_) (fun c_21_2 => ?_)
    · replace h := h.1 c_21_2
      refine lv_aload_n hx hb dX4_addPicture_27 rfl (lv_at hl 0 rfl) ?_
      have hFc := va_freeA hD hS hA
      refine va_callv (va_runV (As := []) (rest := []) ⟨hx, hb, hml, hown, hts⟩ (kX4_record l g lq rq wq nq hq H.size l_oldest l_historySize l_text l_textLength l_rightAlone r_columns r_columnCount r_awaited r_told r_number r_numberStart w_wanted w_loadAt w_passedIn w_secondArm w_power w_limit w_wantedSpeed w_angle w_speed w_load w_ticks n_pictureCount n_angle n_speed n_ticks n_load n_secondArm n_settings n_working n_written n_writtenIn n_width n_first n_step n_kind n_columns hist _ h) (cwV 0 hts gX4_addPicture_X4_record rfl rfl rfl hdX4_record ⟨(Nat.le_of_ble_eq_true rfl), (Nat.le_of_ble_eq_true rfl)⟩) (preV_M (r := (RX4, TX4, 9)) hK hP hD (ci := 4) (q0 := 0) rfl rfl) rfl rfl hl.1 rfl (lv_room (Nat.le_of_ble_eq_true rfl)) dX4_addPicture_28 ⟨(Nat.le_of_ble_eq_true rfl), (Nat.le_of_ble_eq_true rfl)⟩) hS (fun q _ h9 => hFc q h9) hFc (fun u t H1 locs ht hvm hw hB hz1 hk1 hS => ?_)
      obtain ⟨l_oldest_4, l_historySize_5, hist_6⟩ := u
      replace h := hw
      try dsimp only at h
      obtain ⟨hP, hD⟩ := jn0 (wf := (wL g lq nq rq wq hq l_oldest_4 l_historySize_5 l_text l_textLength l_rightAlone ++ (wR g rq r_columns r_columnCount r_awaited r_told r_number r_numberStart ++ (wW g wq w_wanted w_loadAt w_passedIn w_secondArm w_power w_limit w_wantedSpeed w_angle w_speed w_load w_ticks ++ (wS g nq n_pictureCount n_angle n_speed n_ticks n_load n_secondArm n_settings n_working n_written n_writtenIn n_width n_first n_step n_kind n_columns ++ (wH g hq hist_6)))))) hB ht hFc
      have hP : va_P g.1 vwCl (wL g lq nq rq wq hq l_oldest_4 l_historySize_5 l_text l_textLength l_rightAlone ++ (wR g rq r_columns r_columnCount r_awaited r_told r_number r_numberStart ++ (wW g wq w_wanted w_loadAt w_passedIn w_secondArm w_power w_limit w_wantedSpeed w_angle w_speed w_load w_ticks ++ (wS g nq n_pictureCount n_angle n_speed n_ticks n_load n_secondArm n_settings n_working n_written n_writtenIn n_width n_first n_step n_kind n_columns ++ (wH g hq hist_6))))) H1 := hP
      have hD : va_D A (wL g lq nq rq wq hq l_oldest_4 l_historySize_5 l_text l_textLength l_rightAlone ++ (wR g rq r_columns r_columnCount r_awaited r_told r_number r_numberStart ++ (wW g wq w_wanted w_loadAt w_passedIn w_secondArm w_power w_limit w_wantedSpeed w_angle w_speed w_load w_ticks ++ (wS g nq n_pictureCount n_angle n_speed n_ticks n_load n_secondArm n_settings n_working n_written n_writtenIn n_width n_first n_step n_kind n_columns ++ (wH g hq hist_6))))) := hD
      clear hk1 hz1 hB ht hw hFc
      generalize H1 = H at hP hS ⊢
      refine lv_aload_n hx hb dX4_addPicture_31 rfl (lv_at hl 0 rfl) ?_
      refine va_get (D := g.1) (ci := 4) (v := .ref (nq 0)) (C := RX4) (T := TX4) (N := 9) hx hb hts iX4 hown hK.1 hP 0 rfl rfl 0 (by decide) (hts (.fieldLink RX4 10 "LightWheel" "now" "LLightWheel$State;") (by decide +kernel)) (fun _ h9 => h9) rfl dX4_addPicture_32 ?_
      refine va_get (D := g.1) (ci := 2) (v := .int n_pictureCount) (C := RX2) (T := TX2) (N := 11) hx hb hts iX2 hown hK.1 hP 10 rfl rfl 0 (by decide) (hts (.fieldLink RX4 56 "LightWheel$State" "pictureCount" "I") (by decide +kernel)) (fun _ h9 => h9) rfl dX4_addPicture_35 ?_
      refine lv_istore_n (lv' := [(2, .int n_pictureCount), (0, .ref (lq 0)), (1, .int a_1)]) hx hb dX4_addPicture_38 rfl hl (by decide) rfl (fun ls hl => ?_)
      refine lv_aload_n hx hb dX4_addPicture_39 rfl (lv_at hl 1 rfl) ?_
      refine va_get (D := g.1) (ci := 4) (v := .ref (nq 0)) (C := RX4) (T := TX4) (N := 9) hx hb hts iX4 hown hK.1 hP 0 rfl rfl 0 (by decide) (hts (.fieldLink RX4 10 "LightWheel" "now" "LLightWheel$State;") (by decide +kernel)) (fun _ h9 => h9) rfl dX4_addPicture_40 ?_
      refine va_get (D := g.1) (ci := 2) (v := .ref (nq 1)) (C := RX2) (T := TX2) (N := 11) hx hb hts iX2 hown hK.1 hP 10 rfl rfl 1 (by decide) (hts (.fieldLink RX4 62 "LightWheel$State" "pictures" "[LLightWheel$Picture;") (by decide +kernel)) (fun _ h9 => h9) rfl dX4_addPicture_43 ?_
      refine lv_iload_n hx hb dX4_addPicture_46 rfl (lv_at hl 0 rfl) ?_
      have o_47_6 := h.1
      replace h := h.2
      refine xr_aald hx hb hK.1 hP 11 3 rfl rfl (fun i => nq (6 + 2 * i)) (fun _ => rfl) o_47_6 dX4_addPicture_47 (fun j_8 hj_8 ej_8 => ?_)
      replace h := h j_8 hj_8 ej_8
      refine lv_iload_n hx hb dX4_addPicture_48 rfl (lv_at hl 2 rfl) ?_
      refine va_put (D := g.1) (ci := 0) (v := .int a_1) (ty := .int) (C := RX0) (T := TX0) (N := 5) (a := (nq (6 + 2 * j_8))) (fs := [.int (n_width j_8), .int (n_first j_8), .int (n_step j_8), .int (n_kind j_8), .ref (nq (7 + 2 * j_8))]) hx hb hts iX0 tyX0 tyX0_ok nmX0 hown hK.1 hP hD hS (16 + 2 * j_8) (by rcases pk4 hj_8 with rfl | rfl | rfl | rfl <;> rfl) rfl 0 (by decide) (hts (.fieldLink RX4 66 "LightWheel$Picture" "width" "I") (by decide +kernel)) (fun _ h9 => h9) rfl (by decide +kernel) rfl rfl (Nat.le_of_ble_eq_true rfl) dX4_addPicture_49 (fun H locs hP hD hS => ?_)
      obtain ⟨n_width_9, e_n_width_9⟩ : ∃ y : Nat → Int32, y = upd n_width j_8 a_1 := ⟨_, rfl⟩
      replace h := h n_width_9 e_n_width_9
      have hP : va_P g.1 vwCl (wL g lq nq rq wq hq l_oldest_4 l_historySize_5 l_text l_textLength l_rightAlone ++ (wR g rq r_columns r_columnCount r_awaited r_told r_number r_numberStart ++ (wW g wq w_wanted w_loadAt w_passedIn w_secondArm w_power w_limit w_wantedSpeed w_angle w_speed w_load w_ticks ++ (wS g nq n_pictureCount n_angle n_speed n_ticks n_load n_secondArm n_settings n_working n_written n_writtenIn n_width_9 n_first n_step n_kind n_columns ++ (wH g hq hist_6))))) H := by rw [e_n_width_9]; rcases pk4 hj_8 with rfl | rfl | rfl | rfl <;> exact hP
      have hD : va_D A (wL g lq nq rq wq hq l_oldest_4 l_historySize_5 l_text l_textLength l_rightAlone ++ (wR g rq r_columns r_columnCount r_awaited r_told r_number r_numberStart ++ (wW g wq w_wanted w_loadAt w_passedIn w_secondArm w_power w_limit w_wantedSpeed w_angle w_speed w_load w_ticks ++ (wS g nq n_pictureCount n_angle n_speed n_ticks n_load n_secondArm n_settings n_working n_written n_writtenIn n_width_9 n_first n_step n_kind n_columns ++ (wH g hq hist_6))))) := by rw [e_n_width_9]; rcases pk4 hj_8 with rfl | rfl | rfl | rfl <;> exact hD
      refine lv_aload_n hx hb dX4_addPicture_52 rfl (lv_at hl 1 rfl) ?_
      refine va_get (D := g.1) (ci := 4) (v := .ref (nq 0)) (C := RX4) (T := TX4) (N := 9) hx hb hts iX4 hown hK.1 hP 0 rfl rfl 0 (by decide) (hts (.fieldLink RX4 10 "LightWheel" "now" "LLightWheel$State;") (by decide +kernel)) (fun _ h9 => h9) rfl dX4_addPicture_53 ?_
      refine lv_dup hx hb dX4_addPicture_56 rfl ?_
      refine va_get (D := g.1) (ci := 2) (v := .int n_pictureCount) (C := RX2) (T := TX2) (N := 11) hx hb hts iX2 hown hK.1 hP 10 rfl rfl 0 (by decide) (hts (.fieldLink RX4 56 "LightWheel$State" "pictureCount" "I") (by decide +kernel)) (fun _ h9 => h9) rfl dX4_addPicture_57 ?_
      refine lv_iconst (v := (1 : Int32)) hx hb dX4_addPicture_60 (by decide) ?_
      refine lv_iadd hx hb dX4_addPicture_61 ?_
      refine lv_topi (fun f_pictureCount_10 e_f_pictureCount_10 => ?_)
      replace h := h f_pictureCount_10 e_f_pictureCount_10
      refine va_put (D := g.1) (ci := 2) (v := .int f_pictureCount_10) (ty := .int) (C := RX2) (T := TX2) (N := 11) hx hb hts iX2 tyX2 tyX2_ok nmX2 hown hK.1 hP hD hS 10 rfl rfl 0 (by decide) (hts (.fieldLink RX4 56 "LightWheel$State" "pictureCount" "I") (by decide +kernel)) (fun _ h9 => h9) rfl (by decide +kernel) rfl rfl (Nat.le_of_ble_eq_true rfl) dX4_addPicture_62 (fun H locs hP hD hS => ?_)
      have hP : va_P g.1 vwCl (wL g lq nq rq wq hq l_oldest_4 l_historySize_5 l_text l_textLength l_rightAlone ++ (wR g rq r_columns r_columnCount r_awaited r_told r_number r_numberStart ++ (wW g wq w_wanted w_loadAt w_passedIn w_secondArm w_power w_limit w_wantedSpeed w_angle w_speed w_load w_ticks ++ (wS g nq f_pictureCount_10 n_angle n_speed n_ticks n_load n_secondArm n_settings n_working n_written n_writtenIn n_width_9 n_first n_step n_kind n_columns ++ (wH g hq hist_6))))) H := hP
      have hD : va_D A (wL g lq nq rq wq hq l_oldest_4 l_historySize_5 l_text l_textLength l_rightAlone ++ (wR g rq r_columns r_columnCount r_awaited r_told r_number r_numberStart ++ (wW g wq w_wanted w_loadAt w_passedIn w_secondArm w_power w_limit w_wantedSpeed w_angle w_speed w_load w_ticks ++ (wS g nq f_pictureCount_10 n_angle n_speed n_ticks n_load n_secondArm n_settings n_working n_written n_writtenIn n_width_9 n_first n_step n_kind n_columns ++ (wH g hq hist_6))))) := hD
      refine lv_iload_n hx hb dX4_addPicture_65 rfl (lv_at hl 0 rfl) ?_
      exact W.iret hx hb hr (fun t ht hW => ⟨⟨n_pictureCount, (l_oldest_4, l_historySize_5, f_pictureCount_10, n_width_9, hist_6), rfl, h, by rw [ht]; exact hP, hD⟩, hS.F ht⟩) hS.2.2 dX4_addPicture_66
    · replace h := h.2 c_21_2
      refine lv_bipush (v := (-103 : Int32)) hx hb dX4_addPicture_24 (by decide) ?_
      exact W.iret hx hb hr (fun t ht hW => ⟨⟨(-103 : Int32), (l_oldest, l_historySize, n_pictureCount, n_width, hist), rfl, h, by rw [ht]; exact hP, hD⟩, hS.F ht⟩) hS.2.2 dX4_addPicture_26
  · replace h := h.2 c_7_1
    refine lv_bipush (v := (-101 : Int32)) hx hb dX4_addPicture_10 (by decide) ?_
    exact W.iret hx hb hr (fun t ht hW => ⟨⟨(-101 : Int32), (l_oldest, l_historySize, n_pictureCount, n_width, hist), rfl, h, by rw [ht]; exact hP, hD⟩, hS.F ht⟩) hS.2.2 dX4_addPicture_12
theorem hdX4_paint : yX4_paint.cls = RX4 ∧ yX4_paint.cls ≠ "java/lang/invoke/MethodHandle" ∧ yX4_paint.cls ≠ "java/lang/invoke/VarHandle" ∧ (parseMethodDescriptor yX4_paint.desc).map (fun d => d.parameters.length) = some 4 := by decide +kernel
set_option maxHeartbeats 4000000 in
set_option maxRecDepth 100000 in
theorem kX4_paint (l : Launch) (g : GG) (lq rq wq nq : Nat → Nat) (hq : Nat → Nat → Nat) (sz : Nat) (l_oldest : Int32) (l_historySize : Int32) (l_text : Nat → Int32) (l_textLength : Int32) (l_rightAlone : Nat → Int64) (r_columns : Nat → Int64) (r_columnCount : Int32) (r_awaited : Int32) (r_told : Int32) (r_number : Int32) (r_numberStart : Int32) (w_wanted : Nat → Int64) (w_loadAt : Nat → Int32) (w_passedIn : Nat → Int32) (w_secondArm : Int32) (w_power : Int32) (w_limit : Int32) (w_wantedSpeed : Int32) (w_angle : Int32) (w_speed : Int32) (w_load : Int32) (w_ticks : Int32) (n_pictureCount : Int32) (n_angle : Int32) (n_speed : Int32) (n_ticks : Int32) (n_load : Int32) (n_secondArm : Int32) (n_settings : Nat → Int32) (n_working : Nat → Int64) (n_written : Nat → Int64) (n_writtenIn : Nat → Int32) (n_width : Nat → Int32) (n_first : Nat → Int32) (n_step : Nat → Int32) (n_kind : Nat → Int32) (n_columns : Nat → Nat → Int64) (hist : Nat → StC) (a_1 : Int32) (a_2 : Int32) (a_3 : Int32) (a_4 : Int32) (k : Int32 → Int32 → Int32 → (Nat → Nat → Int64) → (Nat → StC) → Prop) (h : PX4_paint l_oldest l_historySize n_pictureCount n_angle n_speed n_ticks n_load n_secondArm n_settings n_working n_written n_writtenIn n_width n_first n_step n_kind n_columns hist a_1 a_2 a_3 a_4 k) : Met l yX4_paint wsX4_paint ({ frames := 4, cells := 0, slots := 0, locals := 103 }) (PreM g [.ref (lq 0), .int a_1, .int a_2, .int a_3, .int a_4] (wL g lq nq rq wq hq l_oldest l_historySize l_text l_textLength l_rightAlone ++ (wR g rq r_columns r_columnCount r_awaited r_told r_number r_numberStart ++ (wW g wq w_wanted w_loadAt w_passedIn w_secondArm w_power w_limit w_wantedSpeed w_angle w_speed w_load w_ticks ++ (wS g nq n_pictureCount n_angle n_speed n_ticks n_load n_secondArm n_settings n_working n_written n_writtenIn n_width n_first n_step n_kind n_columns ++ (wH g hq hist))))) sz) (va_Qi (fun (r : Int32) (u : Int32 × Int32 × (Nat → Nat → Int64) × (Nat → StC)) => k r u.1 u.2.1 u.2.2.1 u.2.2.2) (fun u t => PostB g (va_A (wL g lq nq rq wq hq l_oldest l_historySize l_text l_textLength l_rightAlone ++ (wR g rq r_columns r_columnCount r_awaited r_told r_number r_numberStart ++ (wW g wq w_wanted w_loadAt w_passedIn w_secondArm w_power w_limit w_wantedSpeed w_angle w_speed w_load w_ticks ++ (wS g nq n_pictureCount n_angle n_speed n_ticks n_load n_secondArm n_settings n_working n_written n_writtenIn n_width n_first n_step n_kind n_columns ++ (wH g hq hist))))) sz) (wL g lq nq rq wq hq u.1 u.2.1 l_text l_textLength l_rightAlone ++ (wR g rq r_columns r_columnCount r_awaited r_told r_number r_numberStart ++ (wW g wq w_wanted w_loadAt w_passedIn w_secondArm w_power w_limit w_wantedSpeed w_angle w_speed w_load w_ticks ++ (wS g nq n_pictureCount n_angle n_speed n_ticks n_load n_secondArm n_settings n_working n_written n_writtenIn n_width n_first n_step n_kind u.2.2.1 ++ (wH g hq u.2.2.2))))) t) (va_A (wL g lq nq rq wq hq l_oldest l_historySize l_text l_textLength l_rightAlone ++ (wR g rq r_columns r_columnCount r_awaited r_told r_number r_numberStart ++ (wW g wq w_wanted w_loadAt w_passedIn w_secondArm w_power w_limit w_wantedSpeed w_angle w_speed w_load w_ticks ++ (wS g nq n_pictureCount n_angle n_speed n_ticks n_load n_secondArm n_settings n_working n_written n_writtenIn n_width n_first n_step n_kind n_columns ++ (wH g hq hist))))) sz)) 0 0 (va_A (wL g lq nq rq wq hq l_oldest l_historySize l_text l_textLength l_rightAlone ++ (wR g rq r_columns r_columnCount r_awaited r_told r_number r_numberStart ++ (wW g wq w_wanted w_loadAt w_passedIn w_secondArm w_power w_limit w_wantedSpeed w_angle w_speed w_load w_ticks ++ (wS g nq n_pictureCount n_angle n_speed n_ticks n_load n_secondArm n_settings n_working n_written n_writtenIn n_width n_first n_step n_kind n_columns ++ (wH g hq hist))))) sz) := by
  refine Met.ofW (cc := cX4_paint) (maxL := 7) (ret := (some .int)) (by decide) rfl ?_
  intro p e s m args below meth c s₁ B hml hv
  obtain ⟨rfl, hsz, hP, hK, hD0⟩ := hv
  have hx := B.exec
  have hb := B.bytes
  have hr := B.returns
  have hts := atoms_spec (ws := wsX4_paint) B.pre
  have hown : s.vm.findClass RX4 = some m.cls := findClass_of_methodNamed B.named
  have hlocks := B.notSynchronized
  have iX0 : ∀ w ∈ wsX00, w ∈ wsX4_paint := by decide +kernel
  have iX4 : ∀ w ∈ wsX40, w ∈ wsX4_paint := by decide +kernel
  subst hsz
  have hD := hD0.self (sz := s.heap.size)
  generalize hAe : va_A (wL g lq nq rq wq hq l_oldest l_historySize l_text l_textLength l_rightAlone ++ (wR g rq r_columns r_columnCount r_awaited r_told r_number r_numberStart ++ (wW g wq w_wanted w_loadAt w_passedIn w_secondArm w_power w_limit w_wantedSpeed w_angle w_speed w_load w_ticks ++ (wS g nq n_pictureCount n_angle n_speed n_ticks n_load n_secondArm n_settings n_working n_written n_writtenIn n_width n_first n_step n_kind n_columns ++ (wH g hq hist))))) s.heap.size = A at hD ⊢
  have hA : ∀ q : Nat, s.heap.size ≤ q → A q := fun q h => by rw [← hAe]; exact Or.inr h
  clear hAe hD0
  have hS : va_S A s.heap s.heap [] := va_S.rf
  have hl := lv_entry ([.ref (lq 0), .int a_1, .int a_2, .int a_3, .int a_4]) (n := 7) (Nat.le_of_ble_eq_true rfl)
  rw [lg_entry_eq]
  generalize (lg_sl ([.ref (lq 0), .int a_1, .int a_2, .int a_3, .int a_4]) ++ List.replicate (7 - (lg_sl ([.ref (lq 0), .int a_1, .int a_2, .int a_3, .int a_4])).length) Slot.unset).toArray = ls at hl ⊢
  have hl : lv_has ls 7 [(0, .ref (lq 0)), (1, .int a_1), (2, .int a_2), (3, .int a_3), (4, .int a_4)] := hl
  unfold PX4_paint at h
  obtain ⟨H, hHe⟩ : ∃ y, y = s.heap := ⟨_, rfl⟩
  rw [← hHe] at hP
  have hS : va_S A s.heap H [] := by rw [hHe]; exact hS
  have hW0 : ∀ (Q : State → Prop), W p l e (headSpec wsX4_paint ({ frames := 4, cells := 0, slots := 0, locals := 103 })).room s m ([.ref (lq 0), .int a_1, .int a_2, .int a_3, .int a_4] : List Value).toArray below meth c H [] 0 0 Q (F0 m 0 ls []) → W p l e (headSpec wsX4_paint ({ frames := 4, cells := 0, slots := 0, locals := 103 })).room s m ([.ref (lq 0), .int a_1, .int a_2, .int a_3, .int a_4] : List Value).toArray below meth c s.heap [] 0 0 Q (F0 m 0 ls []) := by rw [hHe]; exact fun _ h9 => h9
  refine hW0 _ ?_
  clear hW0 hHe
  generalize ([] : List Loc) = locs at hS ⊢
  refine lv_aload_n hx hb dX4_paint_0 rfl (lv_at hl 0 rfl) ?_
  refine va_get (D := g.1) (ci := 4) (v := .ref (nq 0)) (C := RX4) (T := TX4) (N := 9) hx hb hts iX4 hown hK.1 hP 0 rfl rfl 0 (by decide) (hts (.fieldLink RX4 10 "LightWheel" "now" "LLightWheel$State;") (by decide +kernel)) (fun _ h9 => h9) rfl dX4_paint_1 ?_
  refine lv_iload_n hx hb dX4_paint_4 rfl (lv_at hl 1 rfl) ?_
  have hPc : va_P g.1 vwCl (wS g nq n_pictureCount n_angle n_speed n_ticks n_load n_secondArm n_settings n_working n_written n_writtenIn n_width n_first n_step n_kind n_columns) H := hP.sub [10, 11, 12, 13, 14, 15, 16, 17, 18, 19, 20, 21, 22, 23] rfl
  refine va_cse (ad := fun j => nq (6 + 2 * j)) (W.runV (As := [.int a_1]) (rest := []) ⟨hx, hb, hml, hown, hts⟩ (kX2_pictureNumbered l g nq n_pictureCount n_angle n_speed n_ticks n_load n_secondArm n_settings n_working n_written n_writtenIn n_width n_first n_step n_kind n_columns a_1 _ h) (cwV 1 hts gX4_paint_X2_pictureNumbered rfl rfl rfl hdX2_pictureNumbered ⟨(Nat.le_of_ble_eq_true rfl), (Nat.le_of_ble_eq_true rfl)⟩) (preV_R (r := (RX2, TX2, 11)) hK hPc (ci := 2) (q0 := 0) rfl rfl) rfl rfl hl.1 rfl (lv_room (Nat.le_of_ble_eq_true rfl)) dX4_paint_5 ⟨(Nat.le_of_ble_eq_true rfl), (Nat.le_of_ble_eq_true rfl)⟩) (fun o_1 hh => ?_)
  obtain ⟨h4, h⟩ := hh
  rcases o_1 with _ | j_2
  · refine W.eq (g2 := F0 m 8 ls [.null]) rfl ?_
    replace h := h.1 rfl
    refine lv_astoreN (lv' := [(5, .null), (0, .ref (lq 0)), (1, .int a_1), (2, .int a_2), (3, .int a_3), (4, .int a_4)]) hx hb dX4_paint_8 hl (by decide) rfl (fun ls hl => ?_)
    refine lv_aloadN hx hb dX4_paint_10 (lv_at hl 0 rfl) ?_
    refine lv_ifnullN (tgt := 51) hx hb dX4_paint_12 (by decide) ?_
    refine lv_bipush (v := (-101 : Int32)) hx hb dX4_paint_51 (by decide) ?_
    exact W.iret hx hb hr (fun t ht hW => ⟨⟨(-101 : Int32), (l_oldest, l_historySize, n_columns, hist), rfl, h, by rw [ht]; exact hP, hD⟩, hS.F ht⟩) hS.2.2 dX4_paint_53
  · refine W.eq (g2 := F0 m 8 ls [.ref (nq (6 + 2 * j_2))]) rfl ?_
    have hj_2 : j_2 < 4 := h4 j_2 rfl
    replace h := h.2 j_2 hj_2 rfl
    refine lv_astore (lv' := [(5, .ref (nq (6 + 2 * j_2))), (0, .ref (lq 0)), (1, .int a_1), (2, .int a_2), (3, .int a_3), (4, .int a_4)]) hx hb dX4_paint_8 hl (by decide) rfl (fun ls hl => ?_)
    refine lv_aload hx hb dX4_paint_10 (lv_at hl 0 rfl) ?_
    refine lv_ifnull hx hb dX4_paint_12 ?_
    refine lv_iload_n hx hb dX4_paint_15 rfl (lv_at hl 3 rfl) ?_
    refine lv_iconst (v := (0 : Int32)) hx hb dX4_paint_16 (by decide) ?_
    refine lv_aload hx hb dX4_paint_17 (lv_at hl 0 rfl) ?_
    refine va_get (D := g.1) (ci := 0) (v := .int (n_width j_2)) (C := RX0) (T := TX0) (N := 5) (a := (nq (6 + 2 * j_2))) (fs := [.int (n_width j_2), .int (n_first j_2), .int (n_step j_2), .int (n_kind j_2), .ref (nq (7 + 2 * j_2))]) hx hb hts iX0 hown hK.1 hP (16 + 2 * j_2) (by rcases pk4 hj_2 with rfl | rfl | rfl | rfl <;> rfl) rfl 0 (by decide) (hts (.fieldLink RX4 66 "LightWheel$Picture" "width" "I") (by decide +kernel)) (fun _ h9 => h9) rfl dX4_paint_19 ?_
    refine lv_iconst (v := (1 : Int32)) hx hb dX4_paint_22 (by decide) ?_
    refine lv_isub hx hb dX4_paint_23 ?_
    refine vp_callSi (W.runS (As := [.int a_2, .int (0 : Int32), .int ((n_width j_2) - (1 : Int32))]) (rest := []) ⟨hx, hb, hml, hown, hts⟩ (kX4_within l g  a_2 (0 : Int32) ((n_width j_2) - (1 : Int32)) _ h) (va_cwS 3 hts gX4_paint_X4_within rfl rfl rfl hdX4_within.2 ⟨(Nat.le_of_ble_eq_true rfl), (Nat.le_of_ble_eq_true rfl)⟩) (preS_R hK (va_P_nil (D := g.1) (cl := vwCl))) rfl rfl hl.1 rfl (lv_room (Nat.le_of_ble_eq_true rfl)) dX4_paint_24 ⟨(Nat.le_of_ble_eq_true rfl), (Nat.le_of_ble_eq_true rfl)⟩) (fun r24_3 h => ?_)
    refine lv_if_eq (tgt := 51) hx hb dX4_paint_27 (by decide) (fun c_27_3 => ?_) (fun c_27_3 => ?_)
    · replace h := h.1 c_27_3
      refine lv_bipush (v := (-101 : Int32)) hx hb dX4_paint_51 (by decide) ?_
      exact W.iret hx hb hr (fun t ht hW => ⟨⟨(-101 : Int32), (l_oldest, l_historySize, n_columns, hist), rfl, h, by rw [ht]; exact hP, hD⟩, hS.F ht⟩) hS.2.2 dX4_paint_53
    · replace h := h.2 c_27_3
      refine lv_iload_n hx hb dX4_paint_30 rfl (lv_at hl 4 rfl) ?_
      refine lv_iconst (v := (0 : Int32)) hx hb dX4_paint_31 (by decide) ?_
      refine lv_bipush (v := (11 : Int32)) hx hb dX4_paint_32 (by decide) ?_
      refine vp_callSi (W.runS (As := [.int a_3, .int (0 : Int32), .int (11 : Int32)]) (rest := []) ⟨hx, hb, hml, hown, hts⟩ (kX4_within l g  a_3 (0 : Int32) (11 : Int32) _ h) (va_cwS 3 hts gX4_paint_X4_within rfl rfl rfl hdX4_within.2 ⟨(Nat.le_of_ble_eq_true rfl), (Nat.le_of_ble_eq_true rfl)⟩) (preS_R hK (va_P_nil (D := g.1) (cl := vwCl))) rfl rfl hl.1 rfl (lv_room (Nat.le_of_ble_eq_true rfl)) dX4_paint_34 ⟨(Nat.le_of_ble_eq_true rfl), (Nat.le_of_ble_eq_true rfl)⟩) (fun r34_5 h => ?_)
      refine lv_if_eq (tgt := 51) hx hb dX4_paint_37 (by decide) (fun c_37_5 => ?_) (fun c_37_5 => ?_)
      · replace h := h.1 c_37_5
        refine lv_bipush (v := (-101 : Int32)) hx hb dX4_paint_51 (by decide) ?_
        exact W.iret hx hb hr (fun t ht hW => ⟨⟨(-101 : Int32), (l_oldest, l_historySize, n_columns, hist), rfl, h, by rw [ht]; exact hP, hD⟩, hS.F ht⟩) hS.2.2 dX4_paint_53
      · replace h := h.2 c_37_5
        refine lv_iload hx hb dX4_paint_40 (lv_at hl 5 rfl) ?_
        refine lv_iconst (v := (0 : Int32)) hx hb dX4_paint_42 (by decide) ?_
        refine lv_bipush (v := (7 : Int32)) hx hb dX4_paint_43 (by decide) ?_
        refine vp_callSi (W.runS (As := [.int a_4, .int (0 : Int32), .int (7 : Int32)]) (rest := []) ⟨hx, hb, hml, hown, hts⟩ (kX4_within l g  a_4 (0 : Int32) (7 : Int32) _ h) (va_cwS 3 hts gX4_paint_X4_within rfl rfl rfl hdX4_within.2 ⟨(Nat.le_of_ble_eq_true rfl), (Nat.le_of_ble_eq_true rfl)⟩) (preS_R hK (va_P_nil (D := g.1) (cl := vwCl))) rfl rfl hl.1 rfl (lv_room (Nat.le_of_ble_eq_true rfl)) dX4_paint_45 ⟨(Nat.le_of_ble_eq_true rfl), (Nat.le_of_ble_eq_true rfl)⟩) (fun r45_7 h => ?_)
        refine lv_if_ne (tgt := 54) hx hb dX4_paint_48 (by decide) (fun c_48_7 => ?_) (fun c_48_7 => ?_)
        · replace h := h.1 c_48_7
          refine lv_aload_n hx hb dX4_paint_54 rfl (lv_at hl 1 rfl) ?_
          have hFc := va_freeA hD hS hA
          refine va_callv (va_runV (As := []) (rest := []) ⟨hx, hb, hml, hown, hts⟩ (kX4_record l g lq rq wq nq hq H.size l_oldest l_historySize l_text l_textLength l_rightAlone r_columns r_columnCount r_awaited r_told r_number r_numberStart w_wanted w_loadAt w_passedIn w_secondArm w_power w_limit w_wantedSpeed w_angle w_speed w_load w_ticks n_pictureCount n_angle n_speed n_ticks n_load n_secondArm n_settings n_working n_written n_writtenIn n_width n_first n_step n_kind n_columns hist _ h) (cwV 0 hts gX4_paint_X4_record rfl rfl rfl hdX4_record ⟨(Nat.le_of_ble_eq_true rfl), (Nat.le_of_ble_eq_true rfl)⟩) (preV_M (r := (RX4, TX4, 9)) hK hP hD (ci := 4) (q0 := 0) rfl rfl) rfl rfl hl.1 rfl (lv_room (Nat.le_of_ble_eq_true rfl)) dX4_paint_55 ⟨(Nat.le_of_ble_eq_true rfl), (Nat.le_of_ble_eq_true rfl)⟩) hS (fun q _ h9 => hFc q h9) hFc (fun u t H1 locs ht hvm hw hB hz1 hk1 hS => ?_)
          obtain ⟨l_oldest_9, l_historySize_10, hist_11⟩ := u
          replace h := hw
          try dsimp only at h
          obtain ⟨hP, hD⟩ := jn0 (wf := (wL g lq nq rq wq hq l_oldest_9 l_historySize_10 l_text l_textLength l_rightAlone ++ (wR g rq r_columns r_columnCount r_awaited r_told r_number r_numberStart ++ (wW g wq w_wanted w_loadAt w_passedIn w_secondArm w_power w_limit w_wantedSpeed w_angle w_speed w_load w_ticks ++ (wS g nq n_pictureCount n_angle n_speed n_ticks n_load n_secondArm n_settings n_working n_written n_writtenIn n_width n_first n_step n_kind n_columns ++ (wH g hq hist_11)))))) hB ht hFc
          have hP : va_P g.1 vwCl (wL g lq nq rq wq hq l_oldest_9 l_historySize_10 l_text l_textLength l_rightAlone ++ (wR g rq r_columns r_columnCount r_awaited r_told r_number r_numberStart ++ (wW g wq w_wanted w_loadAt w_passedIn w_secondArm w_power w_limit w_wantedSpeed w_angle w_speed w_load w_ticks ++ (wS g nq n_pictureCount n_angle n_speed n_ticks n_load n_secondArm n_settings n_working n_written n_writtenIn n_width n_first n_step n_kind n_columns ++ (wH g hq hist_11))))) H1 := hP
          have hD : va_D A (wL g lq nq rq wq hq l_oldest_9 l_historySize_10 l_text l_textLength l_rightAlone ++ (wR g rq r_columns r_columnCount r_awaited r_told r_number r_numberStart ++ (wW g wq w_wanted w_loadAt w_passedIn w_secondArm w_power w_limit w_wantedSpeed w_angle w_speed w_load w_ticks ++ (wS g nq n_pictureCount n_angle n_speed n_ticks n_load n_secondArm n_settings n_working n_written n_writtenIn n_width n_first n_step n_kind n_columns ++ (wH g hq hist_11))))) := hD
          clear hk1 hz1 hB ht hw hFc
          generalize H1 = H at hP hS ⊢
          refine lv_aload hx hb dX4_paint_58 (lv_at hl 0 rfl) ?_
          refine va_get (D := g.1) (ci := 0) (v := .ref (nq (7 + 2 * j_2))) (C := RX0) (T := TX0) (N := 5) (a := (nq (6 + 2 * j_2))) (fs := [.int (n_width j_2), .int (n_first j_2), .int (n_step j_2), .int (n_kind j_2), .ref (nq (7 + 2 * j_2))]) hx hb hts iX0 hown hK.1 hP (16 + 2 * j_2) (by rcases pk4 hj_2 with rfl | rfl | rfl | rfl <;> rfl) rfl 4 (by decide) (hts (.fieldLink RX4 75 "LightWheel$Picture" "columns" "[J") (by decide +kernel)) (fun _ h9 => h9) rfl dX4_paint_60 ?_
          refine lv_iload_n hx hb dX4_paint_63 rfl (lv_at hl 3 rfl) ?_
          have o_64_11 := h.1
          replace h := h.2
          refine va_lald (a := (nq (7 + 2 * j_2))) (n := 40) (f := (n_columns j_2)) hx hb hK.1 hP (17 + 2 * j_2) 1 (by rcases pk4 hj_2 with rfl | rfl | rfl | rfl <;> rfl) rfl o_64_11 dX4_paint_64 ?_
          refine lv_iload_n hx hb dX4_paint_65 rfl (lv_at hl 4 rfl) ?_
          refine vp_callSi (W.runS (As := [.long ((n_columns j_2) (Int32.toNatClampNeg a_2)), .int a_3]) (rest := []) ⟨hx, hb, hml, hown, hts⟩ (kX4_colorIn l g  ((n_columns j_2) (Int32.toNatClampNeg a_2)) a_3 _ h) (va_cwS 2 hts gX4_paint_X4_colorIn rfl rfl rfl hdX4_colorIn.2 ⟨(Nat.le_of_ble_eq_true rfl), (Nat.le_of_ble_eq_true rfl)⟩) (preS_R hK (va_P_nil (D := g.1) (cl := vwCl))) rfl rfl hl.1 rfl (lv_room (Nat.le_of_ble_eq_true rfl)) dX4_paint_66 ⟨(Nat.le_of_ble_eq_true rfl), (Nat.le_of_ble_eq_true rfl)⟩) (fun r66_13 h => ?_)
          refine lv_istore (lv' := [(6, .int r66_13), (5, .ref (nq (6 + 2 * j_2))), (0, .ref (lq 0)), (1, .int a_1), (2, .int a_2), (3, .int a_3), (4, .int a_4)]) hx hb dX4_paint_69 hl (by decide) rfl (fun ls hl => ?_)
          refine lv_aload hx hb dX4_paint_71 (lv_at hl 1 rfl) ?_
          refine va_get (D := g.1) (ci := 0) (v := .ref (nq (7 + 2 * j_2))) (C := RX0) (T := TX0) (N := 5) (a := (nq (6 + 2 * j_2))) (fs := [.int (n_width j_2), .int (n_first j_2), .int (n_step j_2), .int (n_kind j_2), .ref (nq (7 + 2 * j_2))]) hx hb hts iX0 hown hK.1 hP (16 + 2 * j_2) (by rcases pk4 hj_2 with rfl | rfl | rfl | rfl <;> rfl) rfl 4 (by decide) (hts (.fieldLink RX4 75 "LightWheel$Picture" "columns" "[J") (by decide +kernel)) (fun _ h9 => h9) rfl dX4_paint_73 ?_
          refine lv_iload_n hx hb dX4_paint_76 rfl (lv_at hl 4 rfl) ?_
          refine lv_aload hx hb dX4_paint_77 (lv_at hl 1 rfl) ?_
          refine va_get (D := g.1) (ci := 0) (v := .ref (nq (7 + 2 * j_2))) (C := RX0) (T := TX0) (N := 5) (a := (nq (6 + 2 * j_2))) (fs := [.int (n_width j_2), .int (n_first j_2), .int (n_step j_2), .int (n_kind j_2), .ref (nq (7 + 2 * j_2))]) hx hb hts iX0 hown hK.1 hP (16 + 2 * j_2) (by rcases pk4 hj_2 with rfl | rfl | rfl | rfl <;> rfl) rfl 4 (by decide) (hts (.fieldLink RX4 75 "LightWheel$Picture" "columns" "[J") (by decide +kernel)) (fun _ h9 => h9) rfl dX4_paint_79 ?_
          refine lv_iload_n hx hb dX4_paint_82 rfl (lv_at hl 4 rfl) ?_
          have o_83_13 := h.1
          replace h := h.2
          refine va_lald (a := (nq (7 + 2 * j_2))) (n := 40) (f := (n_columns j_2)) hx hb hK.1 hP (17 + 2 * j_2) 1 (by rcases pk4 hj_2 with rfl | rfl | rfl | rfl <;> rfl) rfl o_83_13 dX4_paint_83 ?_
          refine lv_iload_n hx hb dX4_paint_84 rfl (lv_at hl 5 rfl) ?_
          refine lv_iload hx hb dX4_paint_85 (lv_at hl 6 rfl) ?_
          refine vp_callSl (W.runS (As := [.long ((n_columns j_2) (Int32.toNatClampNeg a_2)), .int a_3, .int a_4]) (rest := [.int a_2, .ref (nq (7 + 2 * j_2))]) ⟨hx, hb, hml, hown, hts⟩ (kX4_withColor l g  ((n_columns j_2) (Int32.toNatClampNeg a_2)) a_3 a_4 _ h) (va_cwS 3 hts gX4_paint_X4_withColor rfl rfl rfl hdX4_withColor.2 ⟨(Nat.le_of_ble_eq_true rfl), (Nat.le_of_ble_eq_true rfl)⟩) (preS_R hK (va_P_nil (D := g.1) (cl := vwCl))) rfl rfl hl.1 rfl (lv_room (Nat.le_of_ble_eq_true rfl)) dX4_paint_87 ⟨(Nat.le_of_ble_eq_true rfl), (Nat.le_of_ble_eq_true rfl)⟩) (fun r87_15 h => ?_)
          have o_90_15 := h.1
          replace h := h.2
          refine xs_last (a := (nq (7 + 2 * j_2))) (n := 40) (f := (n_columns j_2)) hx hb hK.1 hP hD hS (17 + 2 * j_2) 1 (by rcases pk4 hj_2 with rfl | rfl | rfl | rfl <;> rfl) rfl o_90_15 dX4_paint_90 (fun fz_n_columns_17 ez_n_columns_17 H locs hP hD hS => ?_)
          obtain ⟨n_columns_17, e_n_columns_17⟩ : ∃ y : Nat → Nat → Int64, y = va_up n_columns j_2 fz_n_columns_17 := ⟨_, rfl⟩
          replace h := h n_columns_17 (by rw [e_n_columns_17, ez_n_columns_17])
          have hP : va_P g.1 vwCl (wL g lq nq rq wq hq l_oldest_9 l_historySize_10 l_text l_textLength l_rightAlone ++ (wR g rq r_columns r_columnCount r_awaited r_told r_number r_numberStart ++ (wW g wq w_wanted w_loadAt w_passedIn w_secondArm w_power w_limit w_wantedSpeed w_angle w_speed w_load w_ticks ++ (wS g nq n_pictureCount n_angle n_speed n_ticks n_load n_secondArm n_settings n_working n_written n_writtenIn n_width n_first n_step n_kind n_columns_17 ++ (wH g hq hist_11))))) H := by rw [e_n_columns_17]; rcases pk4 hj_2 with rfl | rfl | rfl | rfl <;> exact hP
          have hD : va_D A (wL g lq nq rq wq hq l_oldest_9 l_historySize_10 l_text l_textLength l_rightAlone ++ (wR g rq r_columns r_columnCount r_awaited r_told r_number r_numberStart ++ (wW g wq w_wanted w_loadAt w_passedIn w_secondArm w_power w_limit w_wantedSpeed w_angle w_speed w_load w_ticks ++ (wS g nq n_pictureCount n_angle n_speed n_ticks n_load n_secondArm n_settings n_working n_written n_writtenIn n_width n_first n_step n_kind n_columns_17 ++ (wH g hq hist_11))))) := by rw [e_n_columns_17]; rcases pk4 hj_2 with rfl | rfl | rfl | rfl <;> exact hD
          refine lv_iload hx hb dX4_paint_91 (lv_at hl 0 rfl) ?_
          exact W.iret hx hb hr (fun t ht hW => ⟨⟨r66_13, (l_oldest_9, l_historySize_10, n_columns_17, hist_11), rfl, h, by rw [ht]; exact hP, hD⟩, hS.F ht⟩) hS.2.2 dX4_paint_93
        · replace h := h.2 c_48_7
          refine lv_bipush (v := (-101 : Int32)) hx hb dX4_paint_51 (by decide) ?_
          exact W.iret hx hb hr (fun t ht hW => ⟨⟨(-101 : Int32), (l_oldest, l_historySize, n_columns, hist), rfl, h, by rw [ht]; exact hP, hD⟩, hS.F ht⟩) hS.2.2 dX4_paint_53
theorem hdX4_setPlace : yX4_setPlace.cls = RX4 ∧ yX4_setPlace.cls ≠ "java/lang/invoke/MethodHandle" ∧ yX4_setPlace.cls ≠ "java/lang/invoke/VarHandle" ∧ (parseMethodDescriptor yX4_setPlace.desc).map (fun d => d.parameters.length) = some 3 := by decide +kernel
set_option maxHeartbeats 4000000 in
set_option maxRecDepth 100000 in
theorem kX4_setPlace (l : Launch) (g : GG) (lq rq wq nq : Nat → Nat) (hq : Nat → Nat → Nat) (sz : Nat) (l_oldest : Int32) (l_historySize : Int32) (l_text : Nat → Int32) (l_textLength : Int32) (l_rightAlone : Nat → Int64) (r_columns : Nat → Int64) (r_columnCount : Int32) (r_awaited : Int32) (r_told : Int32) (r_number : Int32) (r_numberStart : Int32) (w_wanted : Nat → Int64) (w_loadAt : Nat → Int32) (w_passedIn : Nat → Int32) (w_secondArm : Int32) (w_power : Int32) (w_limit : Int32) (w_wantedSpeed : Int32) (w_angle : Int32) (w_speed : Int32) (w_load : Int32) (w_ticks : Int32) (n_pictureCount : Int32) (n_angle : Int32) (n_speed : Int32) (n_ticks : Int32) (n_load : Int32) (n_secondArm : Int32) (n_settings : Nat → Int32) (n_working : Nat → Int64) (n_written : Nat → Int64) (n_writtenIn : Nat → Int32) (n_width : Nat → Int32) (n_first : Nat → Int32) (n_step : Nat → Int32) (n_kind : Nat → Int32) (n_columns : Nat → Nat → Int64) (hist : Nat → StC) (a_1 : Int32) (a_2 : Int32) (a_3 : Int32) (k : Int32 → Int32 → Int32 → (Nat → Int32) → (Nat → Int32) → (Nat → StC) → Prop) (h : PX4_setPlace l_oldest l_historySize n_pictureCount n_angle n_speed n_ticks n_load n_secondArm n_settings n_working n_written n_writtenIn n_width n_first n_step n_kind n_columns hist a_1 a_2 a_3 k) : Met l yX4_setPlace wsX4_setPlace ({ frames := 4, cells := 0, slots := 0, locals := 103 }) (PreM g [.ref (lq 0), .int a_1, .int a_2, .int a_3] (wL g lq nq rq wq hq l_oldest l_historySize l_text l_textLength l_rightAlone ++ (wR g rq r_columns r_columnCount r_awaited r_told r_number r_numberStart ++ (wW g wq w_wanted w_loadAt w_passedIn w_secondArm w_power w_limit w_wantedSpeed w_angle w_speed w_load w_ticks ++ (wS g nq n_pictureCount n_angle n_speed n_ticks n_load n_secondArm n_settings n_working n_written n_writtenIn n_width n_first n_step n_kind n_columns ++ (wH g hq hist))))) sz) (va_Qi (fun (r : Int32) (u : Int32 × Int32 × (Nat → Int32) × (Nat → Int32) × (Nat → StC)) => k r u.1 u.2.1 u.2.2.1 u.2.2.2.1 u.2.2.2.2) (fun u t => PostB g (va_A (wL g lq nq rq wq hq l_oldest l_historySize l_text l_textLength l_rightAlone ++ (wR g rq r_columns r_columnCount r_awaited r_told r_number r_numberStart ++ (wW g wq w_wanted w_loadAt w_passedIn w_secondArm w_power w_limit w_wantedSpeed w_angle w_speed w_load w_ticks ++ (wS g nq n_pictureCount n_angle n_speed n_ticks n_load n_secondArm n_settings n_working n_written n_writtenIn n_width n_first n_step n_kind n_columns ++ (wH g hq hist))))) sz) (wL g lq nq rq wq hq u.1 u.2.1 l_text l_textLength l_rightAlone ++ (wR g rq r_columns r_columnCount r_awaited r_told r_number r_numberStart ++ (wW g wq w_wanted w_loadAt w_passedIn w_secondArm w_power w_limit w_wantedSpeed w_angle w_speed w_load w_ticks ++ (wS g nq n_pictureCount n_angle n_speed n_ticks n_load n_secondArm n_settings n_working n_written n_writtenIn n_width u.2.2.1 u.2.2.2.1 n_kind n_columns ++ (wH g hq u.2.2.2.2))))) t) (va_A (wL g lq nq rq wq hq l_oldest l_historySize l_text l_textLength l_rightAlone ++ (wR g rq r_columns r_columnCount r_awaited r_told r_number r_numberStart ++ (wW g wq w_wanted w_loadAt w_passedIn w_secondArm w_power w_limit w_wantedSpeed w_angle w_speed w_load w_ticks ++ (wS g nq n_pictureCount n_angle n_speed n_ticks n_load n_secondArm n_settings n_working n_written n_writtenIn n_width n_first n_step n_kind n_columns ++ (wH g hq hist))))) sz)) 0 0 (va_A (wL g lq nq rq wq hq l_oldest l_historySize l_text l_textLength l_rightAlone ++ (wR g rq r_columns r_columnCount r_awaited r_told r_number r_numberStart ++ (wW g wq w_wanted w_loadAt w_passedIn w_secondArm w_power w_limit w_wantedSpeed w_angle w_speed w_load w_ticks ++ (wS g nq n_pictureCount n_angle n_speed n_ticks n_load n_secondArm n_settings n_working n_written n_writtenIn n_width n_first n_step n_kind n_columns ++ (wH g hq hist))))) sz) := by
  refine Met.ofW (cc := cX4_setPlace) (maxL := 6) (ret := (some .int)) (by decide) rfl ?_
  intro p e s m args below meth c s₁ B hml hv
  obtain ⟨rfl, hsz, hP, hK, hD0⟩ := hv
  have hx := B.exec
  have hb := B.bytes
  have hr := B.returns
  have hts := atoms_spec (ws := wsX4_setPlace) B.pre
  have hown : s.vm.findClass RX4 = some m.cls := findClass_of_methodNamed B.named
  have hlocks := B.notSynchronized
  have iX0 : ∀ w ∈ wsX00, w ∈ wsX4_setPlace := by decide +kernel
  have iX4 : ∀ w ∈ wsX40, w ∈ wsX4_setPlace := by decide +kernel
  subst hsz
  have hD := hD0.self (sz := s.heap.size)
  generalize hAe : va_A (wL g lq nq rq wq hq l_oldest l_historySize l_text l_textLength l_rightAlone ++ (wR g rq r_columns r_columnCount r_awaited r_told r_number r_numberStart ++ (wW g wq w_wanted w_loadAt w_passedIn w_secondArm w_power w_limit w_wantedSpeed w_angle w_speed w_load w_ticks ++ (wS g nq n_pictureCount n_angle n_speed n_ticks n_load n_secondArm n_settings n_working n_written n_writtenIn n_width n_first n_step n_kind n_columns ++ (wH g hq hist))))) s.heap.size = A at hD ⊢
  have hA : ∀ q : Nat, s.heap.size ≤ q → A q := fun q h => by rw [← hAe]; exact Or.inr h
  clear hAe hD0
  have hS : va_S A s.heap s.heap [] := va_S.rf
  have hl := lv_entry ([.ref (lq 0), .int a_1, .int a_2, .int a_3]) (n := 6) (Nat.le_of_ble_eq_true rfl)
  rw [lg_entry_eq]
  generalize (lg_sl ([.ref (lq 0), .int a_1, .int a_2, .int a_3]) ++ List.replicate (6 - (lg_sl ([.ref (lq 0), .int a_1, .int a_2, .int a_3])).length) Slot.unset).toArray = ls at hl ⊢
  have hl : lv_has ls 6 [(0, .ref (lq 0)), (1, .int a_1), (2, .int a_2), (3, .int a_3)] := hl
  unfold PX4_setPlace at h
  obtain ⟨H, hHe⟩ : ∃ y, y = s.heap := ⟨_, rfl⟩
  rw [← hHe] at hP
  have hS : va_S A s.heap H [] := by rw [hHe]; exact hS
  have hW0 : ∀ (Q : State → Prop), W p l e (headSpec wsX4_setPlace ({ frames := 4, cells := 0, slots := 0, locals := 103 })).room s m ([.ref (lq 0), .int a_1, .int a_2, .int a_3] : List Value).toArray below meth c H [] 0 0 Q (F0 m 0 ls []) → W p l e (headSpec wsX4_setPlace ({ frames := 4, cells := 0, slots := 0, locals := 103 })).room s m ([.ref (lq 0), .int a_1, .int a_2, .int a_3] : List Value).toArray below meth c s.heap [] 0 0 Q (F0 m 0 ls []) := by rw [hHe]; exact fun _ h9 => h9
  refine hW0 _ ?_
  clear hW0 hHe
  generalize ([] : List Loc) = locs at hS ⊢
  refine lv_aload_n hx hb dX4_setPlace_0 rfl (lv_at hl 0 rfl) ?_
  refine va_get (D := g.1) (ci := 4) (v := .ref (nq 0)) (C := RX4) (T := TX4) (N := 9) hx hb hts iX4 hown hK.1 hP 0 rfl rfl 0 (by decide) (hts (.fieldLink RX4 10 "LightWheel" "now" "LLightWheel$State;") (by decide +kernel)) (fun _ h9 => h9) rfl dX4_setPlace_1 ?_
  refine lv_iload_n hx hb dX4_setPlace_4 rfl (lv_at hl 1 rfl) ?_
  have hPc : va_P g.1 vwCl (wS g nq n_pictureCount n_angle n_speed n_ticks n_load n_secondArm n_settings n_working n_written n_writtenIn n_width n_first n_step n_kind n_columns) H := hP.sub [10, 11, 12, 13, 14, 15, 16, 17, 18, 19, 20, 21, 22, 23] rfl
  refine va_cse (ad := fun j => nq (6 + 2 * j)) (W.runV (As := [.int a_1]) (rest := []) ⟨hx, hb, hml, hown, hts⟩ (kX2_pictureNumbered l g nq n_pictureCount n_angle n_speed n_ticks n_load n_secondArm n_settings n_working n_written n_writtenIn n_width n_first n_step n_kind n_columns a_1 _ h) (cwV 1 hts gX4_setPlace_X2_pictureNumbered rfl rfl rfl hdX2_pictureNumbered ⟨(Nat.le_of_ble_eq_true rfl), (Nat.le_of_ble_eq_true rfl)⟩) (preV_R (r := (RX2, TX2, 11)) hK hPc (ci := 2) (q0 := 0) rfl rfl) rfl rfl hl.1 rfl (lv_room (Nat.le_of_ble_eq_true rfl)) dX4_setPlace_5 ⟨(Nat.le_of_ble_eq_true rfl), (Nat.le_of_ble_eq_true rfl)⟩) (fun o_1 hh => ?_)
  obtain ⟨h4, h⟩ := hh
  rcases o_1 with _ | j_2
  · refine W.eq (g2 := F0 m 8 ls [.null]) rfl ?_
    replace h := h.1 rfl
    refine lv_astoreN (lv' := [(4, .null), (0, .ref (lq 0)), (1, .int a_1), (2, .int a_2), (3, .int a_3)]) hx hb dX4_setPlace_8 hl (by decide) rfl (fun ls hl => ?_)
    refine lv_aloadN hx hb dX4_setPlace_10 (lv_at hl 0 rfl) ?_
    refine lv_ifnullN (tgt := 36) hx hb dX4_setPlace_12 (by decide) ?_
    refine lv_bipush (v := (-101 : Int32)) hx hb dX4_setPlace_36 (by decide) ?_
    exact W.iret hx hb hr (fun t ht hW => ⟨⟨(-101 : Int32), (l_oldest, l_historySize, n_first, n_step, hist), rfl, h, by rw [ht]; exact hP, hD⟩, hS.F ht⟩) hS.2.2 dX4_setPlace_38
  · refine W.eq (g2 := F0 m 8 ls [.ref (nq (6 + 2 * j_2))]) rfl ?_
    have hj_2 : j_2 < 4 := h4 j_2 rfl
    replace h := h.2 j_2 hj_2 rfl
    refine lv_astore (lv' := [(4, .ref (nq (6 + 2 * j_2))), (0, .ref (lq 0)), (1, .int a_1), (2, .int a_2), (3, .int a_3)]) hx hb dX4_setPlace_8 hl (by decide) rfl (fun ls hl => ?_)
    refine lv_aload hx hb dX4_setPlace_10 (lv_at hl 0 rfl) ?_
    refine lv_ifnull hx hb dX4_setPlace_12 ?_
    refine lv_iload_n hx hb dX4_setPlace_15 rfl (lv_at hl 3 rfl) ?_
    refine lv_iconst (v := (0 : Int32)) hx hb dX4_setPlace_16 (by decide) ?_
    refine lv_sipush (v := (719 : Int32)) hx hb dX4_setPlace_17 (by decide) ?_
    refine vp_callSi (W.runS (As := [.int a_2, .int (0 : Int32), .int (719 : Int32)]) (rest := []) ⟨hx, hb, hml, hown, hts⟩ (kX4_within l g  a_2 (0 : Int32) (719 : Int32) _ h) (va_cwS 3 hts gX4_setPlace_X4_within rfl rfl rfl hdX4_within.2 ⟨(Nat.le_of_ble_eq_true rfl), (Nat.le_of_ble_eq_true rfl)⟩) (preS_R hK (va_P_nil (D := g.1) (cl := vwCl))) rfl rfl hl.1 rfl (lv_room (Nat.le_of_ble_eq_true rfl)) dX4_setPlace_20 ⟨(Nat.le_of_ble_eq_true rfl), (Nat.le_of_ble_eq_true rfl)⟩) (fun r20_3 h => ?_)
    refine lv_if_eq (tgt := 36) hx hb dX4_setPlace_23 (by decide) (fun c_23_3 => ?_) (fun c_23_3 => ?_)
    · replace h := h.1 c_23_3
      refine lv_bipush (v := (-101 : Int32)) hx hb dX4_setPlace_36 (by decide) ?_
      exact W.iret hx hb hr (fun t ht hW => ⟨⟨(-101 : Int32), (l_oldest, l_historySize, n_first, n_step, hist), rfl, h, by rw [ht]; exact hP, hD⟩, hS.F ht⟩) hS.2.2 dX4_setPlace_38
    · replace h := h.2 c_23_3
      refine lv_iload_n hx hb dX4_setPlace_26 rfl (lv_at hl 4 rfl) ?_
      refine lv_iconst (v := (1 : Int32)) hx hb dX4_setPlace_27 (by decide) ?_
      refine lv_bipush (v := (18 : Int32)) hx hb dX4_setPlace_28 (by decide) ?_
      refine vp_callSi (W.runS (As := [.int a_3, .int (1 : Int32), .int (18 : Int32)]) (rest := []) ⟨hx, hb, hml, hown, hts⟩ (kX4_within l g  a_3 (1 : Int32) (18 : Int32) _ h) (va_cwS 3 hts gX4_setPlace_X4_within rfl rfl rfl hdX4_within.2 ⟨(Nat.le_of_ble_eq_true rfl), (Nat.le_of_ble_eq_true rfl)⟩) (preS_R hK (va_P_nil (D := g.1) (cl := vwCl))) rfl rfl hl.1 rfl (lv_room (Nat.le_of_ble_eq_true rfl)) dX4_setPlace_30 ⟨(Nat.le_of_ble_eq_true rfl), (Nat.le_of_ble_eq_true rfl)⟩) (fun r30_5 h => ?_)
      refine lv_if_ne (tgt := 39) hx hb dX4_setPlace_33 (by decide) (fun c_33_5 => ?_) (fun c_33_5 => ?_)
      · replace h := h.1 c_33_5
        refine lv_aload_n hx hb dX4_setPlace_39 rfl (lv_at hl 1 rfl) ?_
        have hFc := va_freeA hD hS hA
        refine va_callv (va_runV (As := []) (rest := []) ⟨hx, hb, hml, hown, hts⟩ (kX4_record l g lq rq wq nq hq H.size l_oldest l_historySize l_text l_textLength l_rightAlone r_columns r_columnCount r_awaited r_told r_number r_numberStart w_wanted w_loadAt w_passedIn w_secondArm w_power w_limit w_wantedSpeed w_angle w_speed w_load w_ticks n_pictureCount n_angle n_speed n_ticks n_load n_secondArm n_settings n_working n_written n_writtenIn n_width n_first n_step n_kind n_columns hist _ h) (cwV 0 hts gX4_setPlace_X4_record rfl rfl rfl hdX4_record ⟨(Nat.le_of_ble_eq_true rfl), (Nat.le_of_ble_eq_true rfl)⟩) (preV_M (r := (RX4, TX4, 9)) hK hP hD (ci := 4) (q0 := 0) rfl rfl) rfl rfl hl.1 rfl (lv_room (Nat.le_of_ble_eq_true rfl)) dX4_setPlace_40 ⟨(Nat.le_of_ble_eq_true rfl), (Nat.le_of_ble_eq_true rfl)⟩) hS (fun q _ h9 => hFc q h9) hFc (fun u t H1 locs ht hvm hw hB hz1 hk1 hS => ?_)
        obtain ⟨l_oldest_7, l_historySize_8, hist_9⟩ := u
        replace h := hw
        try dsimp only at h
        obtain ⟨hP, hD⟩ := jn0 (wf := (wL g lq nq rq wq hq l_oldest_7 l_historySize_8 l_text l_textLength l_rightAlone ++ (wR g rq r_columns r_columnCount r_awaited r_told r_number r_numberStart ++ (wW g wq w_wanted w_loadAt w_passedIn w_secondArm w_power w_limit w_wantedSpeed w_angle w_speed w_load w_ticks ++ (wS g nq n_pictureCount n_angle n_speed n_ticks n_load n_secondArm n_settings n_working n_written n_writtenIn n_width n_first n_step n_kind n_columns ++ (wH g hq hist_9)))))) hB ht hFc
        have hP : va_P g.1 vwCl (wL g lq nq rq wq hq l_oldest_7 l_historySize_8 l_text l_textLength l_rightAlone ++ (wR g rq r_columns r_columnCount r_awaited r_told r_number r_numberStart ++ (wW g wq w_wanted w_loadAt w_passedIn w_secondArm w_power w_limit w_wantedSpeed w_angle w_speed w_load w_ticks ++ (wS g nq n_pictureCount n_angle n_speed n_ticks n_load n_secondArm n_settings n_working n_written n_writtenIn n_width n_first n_step n_kind n_columns ++ (wH g hq hist_9))))) H1 := hP
        have hD : va_D A (wL g lq nq rq wq hq l_oldest_7 l_historySize_8 l_text l_textLength l_rightAlone ++ (wR g rq r_columns r_columnCount r_awaited r_told r_number r_numberStart ++ (wW g wq w_wanted w_loadAt w_passedIn w_secondArm w_power w_limit w_wantedSpeed w_angle w_speed w_load w_ticks ++ (wS g nq n_pictureCount n_angle n_speed n_ticks n_load n_secondArm n_settings n_working n_written n_writtenIn n_width n_first n_step n_kind n_columns ++ (wH g hq hist_9))))) := hD
        clear hk1 hz1 hB ht hw hFc
        generalize H1 = H at hP hS ⊢
        refine lv_aload hx hb dX4_setPlace_43 (lv_at hl 0 rfl) ?_
        refine va_get (D := g.1) (ci := 0) (v := .int (n_first j_2)) (C := RX0) (T := TX0) (N := 5) (a := (nq (6 + 2 * j_2))) (fs := [.int (n_width j_2), .int (n_first j_2), .int (n_step j_2), .int (n_kind j_2), .ref (nq (7 + 2 * j_2))]) hx hb hts iX0 hown hK.1 hP (16 + 2 * j_2) (by rcases pk4 hj_2 with rfl | rfl | rfl | rfl <;> rfl) rfl 1 (by decide) (hts (.fieldLink RX4 86 "LightWheel$Picture" "first" "I") (by decide +kernel)) (fun _ h9 => h9) rfl dX4_setPlace_45 ?_
        refine lv_topi (fun v5_10 e_v5_10 => ?_)
        replace h := h v5_10 e_v5_10
        refine lv_istore (lv' := [(5, .int v5_10), (4, .ref (nq (6 + 2 * j_2))), (0, .ref (lq 0)), (1, .int a_1), (2, .int a_2), (3, .int a_3)]) hx hb dX4_setPlace_48 hl (by decide) rfl (fun ls hl => ?_)
        refine lv_aload hx hb dX4_setPlace_50 (lv_at hl 1 rfl) ?_
        refine lv_iload_n hx hb dX4_setPlace_52 rfl (lv_at hl 4 rfl) ?_
        refine va_put (D := g.1) (ci := 0) (v := .int a_2) (ty := .int) (C := RX0) (T := TX0) (N := 5) (a := (nq (6 + 2 * j_2))) (fs := [.int (n_width j_2), .int (n_first j_2), .int (n_step j_2), .int (n_kind j_2), .ref (nq (7 + 2 * j_2))]) hx hb hts iX0 tyX0 tyX0_ok nmX0 hown hK.1 hP hD hS (16 + 2 * j_2) (by rcases pk4 hj_2 with rfl | rfl | rfl | rfl <;> rfl) rfl 1 (by decide) (hts (.fieldLink RX4 86 "LightWheel$Picture" "first" "I") (by decide +kernel)) (fun _ h9 => h9) rfl (by decide +kernel) rfl rfl (Nat.le_of_ble_eq_true rfl) dX4_setPlace_53 (fun H locs hP hD hS => ?_)
        obtain ⟨n_first_11, e_n_first_11⟩ : ∃ y : Nat → Int32, y = upd n_first j_2 a_2 := ⟨_, rfl⟩
        replace h := h n_first_11 e_n_first_11
        have hP : va_P g.1 vwCl (wL g lq nq rq wq hq l_oldest_7 l_historySize_8 l_text l_textLength l_rightAlone ++ (wR g rq r_columns r_columnCount r_awaited r_told r_number r_numberStart ++ (wW g wq w_wanted w_loadAt w_passedIn w_secondArm w_power w_limit w_wantedSpeed w_angle w_speed w_load w_ticks ++ (wS g nq n_pictureCount n_angle n_speed n_ticks n_load n_secondArm n_settings n_working n_written n_writtenIn n_width n_first_11 n_step n_kind n_columns ++ (wH g hq hist_9))))) H := by rw [e_n_first_11]; rcases pk4 hj_2 with rfl | rfl | rfl | rfl <;> exact hP
        have hD : va_D A (wL g lq nq rq wq hq l_oldest_7 l_historySize_8 l_text l_textLength l_rightAlone ++ (wR g rq r_columns r_columnCount r_awaited r_told r_number r_numberStart ++ (wW g wq w_wanted w_loadAt w_passedIn w_secondArm w_power w_limit w_wantedSpeed w_angle w_speed w_load w_ticks ++ (wS g nq n_pictureCount n_angle n_speed n_ticks n_load n_secondArm n_settings n_working n_written n_writtenIn n_width n_first_11 n_step n_kind n_columns ++ (wH g hq hist_9))))) := by rw [e_n_first_11]; rcases pk4 hj_2 with rfl | rfl | rfl | rfl <;> exact hD
        refine lv_aload hx hb dX4_setPlace_56 (lv_at hl 1 rfl) ?_
        refine lv_iload_n hx hb dX4_setPlace_58 rfl (lv_at hl 5 rfl) ?_
        refine va_put (D := g.1) (ci := 0) (v := .int a_3) (ty := .int) (C := RX0) (T := TX0) (N := 5) (a := (nq (6 + 2 * j_2))) (fs := [.int (n_width j_2), .int (n_first_11 j_2), .int (n_step j_2), .int (n_kind j_2), .ref (nq (7 + 2 * j_2))]) hx hb hts iX0 tyX0 tyX0_ok nmX0 hown hK.1 hP hD hS (16 + 2 * j_2) (by rcases pk4 hj_2 with rfl | rfl | rfl | rfl <;> rfl) rfl 2 (by decide) (hts (.fieldLink RX4 89 "LightWheel$Picture" "step" "I") (by decide +kernel)) (fun _ h9 => h9) rfl (by decide +kernel) rfl rfl (Nat.le_of_ble_eq_true rfl) dX4_setPlace_59 (fun H locs hP hD hS => ?_)
        obtain ⟨n_step_12, e_n_step_12⟩ : ∃ y : Nat → Int32, y = upd n_step j_2 a_3 := ⟨_, rfl⟩
        replace h := h n_step_12 e_n_step_12
        have hP : va_P g.1 vwCl (wL g lq nq rq wq hq l_oldest_7 l_historySize_8 l_text l_textLength l_rightAlone ++ (wR g rq r_columns r_columnCount r_awaited r_told r_number r_numberStart ++ (wW g wq w_wanted w_loadAt w_passedIn w_secondArm w_power w_limit w_wantedSpeed w_angle w_speed w_load w_ticks ++ (wS g nq n_pictureCount n_angle n_speed n_ticks n_load n_secondArm n_settings n_working n_written n_writtenIn n_width n_first_11 n_step_12 n_kind n_columns ++ (wH g hq hist_9))))) H := by rw [e_n_step_12]; rcases pk4 hj_2 with rfl | rfl | rfl | rfl <;> exact hP
        have hD : va_D A (wL g lq nq rq wq hq l_oldest_7 l_historySize_8 l_text l_textLength l_rightAlone ++ (wR g rq r_columns r_columnCount r_awaited r_told r_number r_numberStart ++ (wW g wq w_wanted w_loadAt w_passedIn w_secondArm w_power w_limit w_wantedSpeed w_angle w_speed w_load w_ticks ++ (wS g nq n_pictureCount n_angle n_speed n_ticks n_load n_secondArm n_settings n_working n_written n_writtenIn n_width n_first_11 n_step_12 n_kind n_columns ++ (wH g hq hist_9))))) := by rw [e_n_step_12]; rcases pk4 hj_2 with rfl | rfl | rfl | rfl <;> exact hD
        refine lv_iload hx hb dX4_setPlace_62 (lv_at hl 0 rfl) ?_
        exact W.iret hx hb hr (fun t ht hW => ⟨⟨v5_10, (l_oldest_7, l_historySize_8, n_first_11, n_step_12, hist_9), rfl, h, by rw [ht]; exact hP, hD⟩, hS.F ht⟩) hS.2.2 dX4_setPlace_64
      · replace h := h.2 c_33_5
        refine lv_bipush (v := (-101 : Int32)) hx hb dX4_setPlace_36 (by decide) ?_
        exact W.iret hx hb hr (fun t ht hW => ⟨⟨(-101 : Int32), (l_oldest, l_historySize, n_first, n_step, hist), rfl, h, by rw [ht]; exact hP, hD⟩, hS.F ht⟩) hS.2.2 dX4_setPlace_38
theorem hdX4_setKind : yX4_setKind.cls = RX4 ∧ yX4_setKind.cls ≠ "java/lang/invoke/MethodHandle" ∧ yX4_setKind.cls ≠ "java/lang/invoke/VarHandle" ∧ (parseMethodDescriptor yX4_setKind.desc).map (fun d => d.parameters.length) = some 2 := by decide +kernel
set_option maxHeartbeats 4000000 in
set_option maxRecDepth 100000 in
theorem kX4_setKind (l : Launch) (g : GG) (lq rq wq nq : Nat → Nat) (hq : Nat → Nat → Nat) (sz : Nat) (l_oldest : Int32) (l_historySize : Int32) (l_text : Nat → Int32) (l_textLength : Int32) (l_rightAlone : Nat → Int64) (r_columns : Nat → Int64) (r_columnCount : Int32) (r_awaited : Int32) (r_told : Int32) (r_number : Int32) (r_numberStart : Int32) (w_wanted : Nat → Int64) (w_loadAt : Nat → Int32) (w_passedIn : Nat → Int32) (w_secondArm : Int32) (w_power : Int32) (w_limit : Int32) (w_wantedSpeed : Int32) (w_angle : Int32) (w_speed : Int32) (w_load : Int32) (w_ticks : Int32) (n_pictureCount : Int32) (n_angle : Int32) (n_speed : Int32) (n_ticks : Int32) (n_load : Int32) (n_secondArm : Int32) (n_settings : Nat → Int32) (n_working : Nat → Int64) (n_written : Nat → Int64) (n_writtenIn : Nat → Int32) (n_width : Nat → Int32) (n_first : Nat → Int32) (n_step : Nat → Int32) (n_kind : Nat → Int32) (n_columns : Nat → Nat → Int64) (hist : Nat → StC) (a_1 : Int32) (a_2 : Int32) (k : Int32 → Int32 → Int32 → (Nat → Int32) → (Nat → StC) → Prop) (h : PX4_setKind l_oldest l_historySize n_pictureCount n_angle n_speed n_ticks n_load n_secondArm n_settings n_working n_written n_writtenIn n_width n_first n_step n_kind n_columns hist a_1 a_2 k) : Met l yX4_setKind wsX4_setKind ({ frames := 4, cells := 0, slots := 0, locals := 103 }) (PreM g [.ref (lq 0), .int a_1, .int a_2] (wL g lq nq rq wq hq l_oldest l_historySize l_text l_textLength l_rightAlone ++ (wR g rq r_columns r_columnCount r_awaited r_told r_number r_numberStart ++ (wW g wq w_wanted w_loadAt w_passedIn w_secondArm w_power w_limit w_wantedSpeed w_angle w_speed w_load w_ticks ++ (wS g nq n_pictureCount n_angle n_speed n_ticks n_load n_secondArm n_settings n_working n_written n_writtenIn n_width n_first n_step n_kind n_columns ++ (wH g hq hist))))) sz) (va_Qi (fun (r : Int32) (u : Int32 × Int32 × (Nat → Int32) × (Nat → StC)) => k r u.1 u.2.1 u.2.2.1 u.2.2.2) (fun u t => PostB g (va_A (wL g lq nq rq wq hq l_oldest l_historySize l_text l_textLength l_rightAlone ++ (wR g rq r_columns r_columnCount r_awaited r_told r_number r_numberStart ++ (wW g wq w_wanted w_loadAt w_passedIn w_secondArm w_power w_limit w_wantedSpeed w_angle w_speed w_load w_ticks ++ (wS g nq n_pictureCount n_angle n_speed n_ticks n_load n_secondArm n_settings n_working n_written n_writtenIn n_width n_first n_step n_kind n_columns ++ (wH g hq hist))))) sz) (wL g lq nq rq wq hq u.1 u.2.1 l_text l_textLength l_rightAlone ++ (wR g rq r_columns r_columnCount r_awaited r_told r_number r_numberStart ++ (wW g wq w_wanted w_loadAt w_passedIn w_secondArm w_power w_limit w_wantedSpeed w_angle w_speed w_load w_ticks ++ (wS g nq n_pictureCount n_angle n_speed n_ticks n_load n_secondArm n_settings n_working n_written n_writtenIn n_width n_first n_step u.2.2.1 n_columns ++ (wH g hq u.2.2.2))))) t) (va_A (wL g lq nq rq wq hq l_oldest l_historySize l_text l_textLength l_rightAlone ++ (wR g rq r_columns r_columnCount r_awaited r_told r_number r_numberStart ++ (wW g wq w_wanted w_loadAt w_passedIn w_secondArm w_power w_limit w_wantedSpeed w_angle w_speed w_load w_ticks ++ (wS g nq n_pictureCount n_angle n_speed n_ticks n_load n_secondArm n_settings n_working n_written n_writtenIn n_width n_first n_step n_kind n_columns ++ (wH g hq hist))))) sz)) 0 0 (va_A (wL g lq nq rq wq hq l_oldest l_historySize l_text l_textLength l_rightAlone ++ (wR g rq r_columns r_columnCount r_awaited r_told r_number r_numberStart ++ (wW g wq w_wanted w_loadAt w_passedIn w_secondArm w_power w_limit w_wantedSpeed w_angle w_speed w_load w_ticks ++ (wS g nq n_pictureCount n_angle n_speed n_ticks n_load n_secondArm n_settings n_working n_written n_writtenIn n_width n_first n_step n_kind n_columns ++ (wH g hq hist))))) sz) := by
  refine Met.ofW (cc := cX4_setKind) (maxL := 5) (ret := (some .int)) (by decide) rfl ?_
  intro p e s m args below meth c s₁ B hml hv
  obtain ⟨rfl, hsz, hP, hK, hD0⟩ := hv
  have hx := B.exec
  have hb := B.bytes
  have hr := B.returns
  have hts := atoms_spec (ws := wsX4_setKind) B.pre
  have hown : s.vm.findClass RX4 = some m.cls := findClass_of_methodNamed B.named
  have hlocks := B.notSynchronized
  have iX0 : ∀ w ∈ wsX00, w ∈ wsX4_setKind := by decide +kernel
  have iX4 : ∀ w ∈ wsX40, w ∈ wsX4_setKind := by decide +kernel
  subst hsz
  have hD := hD0.self (sz := s.heap.size)
  generalize hAe : va_A (wL g lq nq rq wq hq l_oldest l_historySize l_text l_textLength l_rightAlone ++ (wR g rq r_columns r_columnCount r_awaited r_told r_number r_numberStart ++ (wW g wq w_wanted w_loadAt w_passedIn w_secondArm w_power w_limit w_wantedSpeed w_angle w_speed w_load w_ticks ++ (wS g nq n_pictureCount n_angle n_speed n_ticks n_load n_secondArm n_settings n_working n_written n_writtenIn n_width n_first n_step n_kind n_columns ++ (wH g hq hist))))) s.heap.size = A at hD ⊢
  have hA : ∀ q : Nat, s.heap.size ≤ q → A q := fun q h => by rw [← hAe]; exact Or.inr h
  clear hAe hD0
  have hS : va_S A s.heap s.heap [] := va_S.rf
  have hl := lv_entry ([.ref (lq 0), .int a_1, .int a_2]) (n := 5) (Nat.le_of_ble_eq_true rfl)
  rw [lg_entry_eq]
  generalize (lg_sl ([.ref (lq 0), .int a_1, .int a_2]) ++ List.replicate (5 - (lg_sl ([.ref (lq 0), .int a_1, .int a_2])).length) Slot.unset).toArray = ls at hl ⊢
  have hl : lv_has ls 5 [(0, .ref (lq 0)), (1, .int a_1), (2, .int a_2)] := hl
  unfold PX4_setKind at h
  obtain ⟨H, hHe⟩ : ∃ y, y = s.heap := ⟨_, rfl⟩
  rw [← hHe] at hP
  have hS : va_S A s.heap H [] := by rw [hHe]; exact hS
  have hW0 : ∀ (Q : State → Prop), W p l e (headSpec wsX4_setKind ({ frames := 4, cells := 0, slots := 0, locals := 103 })).room s m ([.ref (lq 0), .int a_1, .int a_2] : List Value).toArray below meth c H [] 0 0 Q (F0 m 0 ls []) → W p l e (headSpec wsX4_setKind ({ frames := 4, cells := 0, slots := 0, locals := 103 })).room s m ([.ref (lq 0), .int a_1, .int a_2] : List Value).toArray below meth c s.heap [] 0 0 Q (F0 m 0 ls []) := by rw [hHe]; exact fun _ h9 => h9
  refine hW0 _ ?_
  clear hW0 hHe
  generalize ([] : List Loc) = locs at hS ⊢
  refine lv_aload_n hx hb dX4_setKind_0 rfl (lv_at hl 0 rfl) ?_
  refine va_get (D := g.1) (ci := 4) (v := .ref (nq 0)) (C := RX4) (T := TX4) (N := 9) hx hb hts iX4 hown hK.1 hP 0 rfl rfl 0 (by decide) (hts (.fieldLink RX4 10 "LightWheel" "now" "LLightWheel$State;") (by decide +kernel)) (fun _ h9 => h9) rfl dX4_setKind_1 ?_
  refine lv_iload_n hx hb dX4_setKind_4 rfl (lv_at hl 1 rfl) ?_
  have hPc : va_P g.1 vwCl (wS g nq n_pictureCount n_angle n_speed n_ticks n_load n_secondArm n_settings n_working n_written n_writtenIn n_width n_first n_step n_kind n_columns) H := hP.sub [10, 11, 12, 13, 14, 15, 16, 17, 18, 19, 20, 21, 22, 23] rfl
  refine va_cse (ad := fun j => nq (6 + 2 * j)) (W.runV (As := [.int a_1]) (rest := []) ⟨hx, hb, hml, hown, hts⟩ (kX2_pictureNumbered l g nq n_pictureCount n_angle n_speed n_ticks n_load n_secondArm n_settings n_working n_written n_writtenIn n_width n_first n_step n_kind n_columns a_1 _ h) (cwV 1 hts gX4_setKind_X2_pictureNumbered rfl rfl rfl hdX2_pictureNumbered ⟨(Nat.le_of_ble_eq_true rfl), (Nat.le_of_ble_eq_true rfl)⟩) (preV_R (r := (RX2, TX2, 11)) hK hPc (ci := 2) (q0 := 0) rfl rfl) rfl rfl hl.1 rfl (lv_room (Nat.le_of_ble_eq_true rfl)) dX4_setKind_5 ⟨(Nat.le_of_ble_eq_true rfl), (Nat.le_of_ble_eq_true rfl)⟩) (fun o_1 hh => ?_)
  obtain ⟨h4, h⟩ := hh
  rcases o_1 with _ | j_2
  · refine W.eq (g2 := F0 m 8 ls [.null]) rfl ?_
    replace h := h.1 rfl
    refine lv_astore_nN (lv' := [(3, .null), (0, .ref (lq 0)), (1, .int a_1), (2, .int a_2)]) hx hb dX4_setKind_8 rfl hl (by decide) rfl (fun ls hl => ?_)
    refine lv_aload_nN hx hb dX4_setKind_9 rfl (lv_at hl 0 rfl) ?_
    refine lv_ifnullN (tgt := 22) hx hb dX4_setKind_10 (by decide) ?_
    refine lv_bipush (v := (-101 : Int32)) hx hb dX4_setKind_22 (by decide) ?_
    exact W.iret hx hb hr (fun t ht hW => ⟨⟨(-101 : Int32), (l_oldest, l_historySize, n_kind, hist), rfl, h, by rw [ht]; exact hP, hD⟩, hS.F ht⟩) hS.2.2 dX4_setKind_24
  · refine W.eq (g2 := F0 m 8 ls [.ref (nq (6 + 2 * j_2))]) rfl ?_
    have hj_2 : j_2 < 4 := h4 j_2 rfl
    replace h := h.2 j_2 hj_2 rfl
    refine lv_astore_n (lv' := [(3, .ref (nq (6 + 2 * j_2))), (0, .ref (lq 0)), (1, .int a_1), (2, .int a_2)]) hx hb dX4_setKind_8 rfl hl (by decide) rfl (fun ls hl => ?_)
    refine lv_aload_n hx hb dX4_setKind_9 rfl (lv_at hl 0 rfl) ?_
    refine lv_ifnull hx hb dX4_setKind_10 ?_
    refine lv_iload_n hx hb dX4_setKind_13 rfl (lv_at hl 3 rfl) ?_
    refine lv_iconst (v := (0 : Int32)) hx hb dX4_setKind_14 (by decide) ?_
    refine lv_iconst (v := (2 : Int32)) hx hb dX4_setKind_15 (by decide) ?_
    refine vp_callSi (W.runS (As := [.int a_2, .int (0 : Int32), .int (2 : Int32)]) (rest := []) ⟨hx, hb, hml, hown, hts⟩ (kX4_within l g  a_2 (0 : Int32) (2 : Int32) _ h) (va_cwS 3 hts gX4_setKind_X4_within rfl rfl rfl hdX4_within.2 ⟨(Nat.le_of_ble_eq_true rfl), (Nat.le_of_ble_eq_true rfl)⟩) (preS_R hK (va_P_nil (D := g.1) (cl := vwCl))) rfl rfl hl.1 rfl (lv_room (Nat.le_of_ble_eq_true rfl)) dX4_setKind_16 ⟨(Nat.le_of_ble_eq_true rfl), (Nat.le_of_ble_eq_true rfl)⟩) (fun r16_3 h => ?_)
    refine lv_if_ne (tgt := 25) hx hb dX4_setKind_19 (by decide) (fun c_19_3 => ?_) (fun c_19_3 => ?_)
    · replace h := h.1 c_19_3
      refine lv_aload_n hx hb dX4_setKind_25 rfl (lv_at hl 1 rfl) ?_
      have hFc := va_freeA hD hS hA
      refine va_callv (va_runV (As := []) (rest := []) ⟨hx, hb, hml, hown, hts⟩ (kX4_record l g lq rq wq nq hq H.size l_oldest l_historySize l_text l_textLength l_rightAlone r_columns r_columnCount r_awaited r_told r_number r_numberStart w_wanted w_loadAt w_passedIn w_secondArm w_power w_limit w_wantedSpeed w_angle w_speed w_load w_ticks n_pictureCount n_angle n_speed n_ticks n_load n_secondArm n_settings n_working n_written n_writtenIn n_width n_first n_step n_kind n_columns hist _ h) (cwV 0 hts gX4_setKind_X4_record rfl rfl rfl hdX4_record ⟨(Nat.le_of_ble_eq_true rfl), (Nat.le_of_ble_eq_true rfl)⟩) (preV_M (r := (RX4, TX4, 9)) hK hP hD (ci := 4) (q0 := 0) rfl rfl) rfl rfl hl.1 rfl (lv_room (Nat.le_of_ble_eq_true rfl)) dX4_setKind_26 ⟨(Nat.le_of_ble_eq_true rfl), (Nat.le_of_ble_eq_true rfl)⟩) hS (fun q _ h9 => hFc q h9) hFc (fun u t H1 locs ht hvm hw hB hz1 hk1 hS => ?_)
      obtain ⟨l_oldest_5, l_historySize_6, hist_7⟩ := u
      replace h := hw
      try dsimp only at h
      obtain ⟨hP, hD⟩ := jn0 (wf := (wL g lq nq rq wq hq l_oldest_5 l_historySize_6 l_text l_textLength l_rightAlone ++ (wR g rq r_columns r_columnCount r_awaited r_told r_number r_numberStart ++ (wW g wq w_wanted w_loadAt w_passedIn w_secondArm w_power w_limit w_wantedSpeed w_angle w_speed w_load w_ticks ++ (wS g nq n_pictureCount n_angle n_speed n_ticks n_load n_secondArm n_settings n_working n_written n_writtenIn n_width n_first n_step n_kind n_columns ++ (wH g hq hist_7)))))) hB ht hFc
      have hP : va_P g.1 vwCl (wL g lq nq rq wq hq l_oldest_5 l_historySize_6 l_text l_textLength l_rightAlone ++ (wR g rq r_columns r_columnCount r_awaited r_told r_number r_numberStart ++ (wW g wq w_wanted w_loadAt w_passedIn w_secondArm w_power w_limit w_wantedSpeed w_angle w_speed w_load w_ticks ++ (wS g nq n_pictureCount n_angle n_speed n_ticks n_load n_secondArm n_settings n_working n_written n_writtenIn n_width n_first n_step n_kind n_columns ++ (wH g hq hist_7))))) H1 := hP
      have hD : va_D A (wL g lq nq rq wq hq l_oldest_5 l_historySize_6 l_text l_textLength l_rightAlone ++ (wR g rq r_columns r_columnCount r_awaited r_told r_number r_numberStart ++ (wW g wq w_wanted w_loadAt w_passedIn w_secondArm w_power w_limit w_wantedSpeed w_angle w_speed w_load w_ticks ++ (wS g nq n_pictureCount n_angle n_speed n_ticks n_load n_secondArm n_settings n_working n_written n_writtenIn n_width n_first n_step n_kind n_columns ++ (wH g hq hist_7))))) := hD
      clear hk1 hz1 hB ht hw hFc
      generalize H1 = H at hP hS ⊢
      refine lv_aload_n hx hb dX4_setKind_29 rfl (lv_at hl 0 rfl) ?_
      refine va_get (D := g.1) (ci := 0) (v := .int (n_kind j_2)) (C := RX0) (T := TX0) (N := 5) (a := (nq (6 + 2 * j_2))) (fs := [.int (n_width j_2), .int (n_first j_2), .int (n_step j_2), .int (n_kind j_2), .ref (nq (7 + 2 * j_2))]) hx hb hts iX0 hown hK.1 hP (16 + 2 * j_2) (by rcases pk4 hj_2 with rfl | rfl | rfl | rfl <;> rfl) rfl 3 (by decide) (hts (.fieldLink RX4 92 "LightWheel$Picture" "kind" "I") (by decide +kernel)) (fun _ h9 => h9) rfl dX4_setKind_30 ?_
      refine lv_topi (fun v4_8 e_v4_8 => ?_)
      replace h := h v4_8 e_v4_8
      refine lv_istore (lv' := [(4, .int v4_8), (3, .ref (nq (6 + 2 * j_2))), (0, .ref (lq 0)), (1, .int a_1), (2, .int a_2)]) hx hb dX4_setKind_33 hl (by decide) rfl (fun ls hl => ?_)
      refine lv_aload_n hx hb dX4_setKind_35 rfl (lv_at hl 1 rfl) ?_
      refine lv_iload_n hx hb dX4_setKind_36 rfl (lv_at hl 4 rfl) ?_
      refine va_put (D := g.1) (ci := 0) (v := .int a_2) (ty := .int) (C := RX0) (T := TX0) (N := 5) (a := (nq (6 + 2 * j_2))) (fs := [.int (n_width j_2), .int (n_first j_2), .int (n_step j_2), .int (n_kind j_2), .ref (nq (7 + 2 * j_2))]) hx hb hts iX0 tyX0 tyX0_ok nmX0 hown hK.1 hP hD hS (16 + 2 * j_2) (by rcases pk4 hj_2 with rfl | rfl | rfl | rfl <;> rfl) rfl 3 (by decide) (hts (.fieldLink RX4 92 "LightWheel$Picture" "kind" "I") (by decide +kernel)) (fun _ h9 => h9) rfl (by decide +kernel) rfl rfl (Nat.le_of_ble_eq_true rfl) dX4_setKind_37 (fun H locs hP hD hS => ?_)
      obtain ⟨n_kind_9, e_n_kind_9⟩ : ∃ y : Nat → Int32, y = upd n_kind j_2 a_2 := ⟨_, rfl⟩
      replace h := h n_kind_9 e_n_kind_9
      have hP : va_P g.1 vwCl (wL g lq nq rq wq hq l_oldest_5 l_historySize_6 l_text l_textLength l_rightAlone ++ (wR g rq r_columns r_columnCount r_awaited r_told r_number r_numberStart ++ (wW g wq w_wanted w_loadAt w_passedIn w_secondArm w_power w_limit w_wantedSpeed w_angle w_speed w_load w_ticks ++ (wS g nq n_pictureCount n_angle n_speed n_ticks n_load n_secondArm n_settings n_working n_written n_writtenIn n_width n_first n_step n_kind_9 n_columns ++ (wH g hq hist_7))))) H := by rw [e_n_kind_9]; rcases pk4 hj_2 with rfl | rfl | rfl | rfl <;> exact hP
      have hD : va_D A (wL g lq nq rq wq hq l_oldest_5 l_historySize_6 l_text l_textLength l_rightAlone ++ (wR g rq r_columns r_columnCount r_awaited r_told r_number r_numberStart ++ (wW g wq w_wanted w_loadAt w_passedIn w_secondArm w_power w_limit w_wantedSpeed w_angle w_speed w_load w_ticks ++ (wS g nq n_pictureCount n_angle n_speed n_ticks n_load n_secondArm n_settings n_working n_written n_writtenIn n_width n_first n_step n_kind_9 n_columns ++ (wH g hq hist_7))))) := by rw [e_n_kind_9]; rcases pk4 hj_2 with rfl | rfl | rfl | rfl <;> exact hD
      refine lv_iload hx hb dX4_setKind_40 (lv_at hl 0 rfl) ?_
      exact W.iret hx hb hr (fun t ht hW => ⟨⟨v4_8, (l_oldest_5, l_historySize_6, n_kind_9, hist_7), rfl, h, by rw [ht]; exact hP, hD⟩, hS.F ht⟩) hS.2.2 dX4_setKind_42
    · replace h := h.2 c_19_3
      refine lv_bipush (v := (-101 : Int32)) hx hb dX4_setKind_22 (by decide) ?_
      exact W.iret hx hb hr (fun t ht hW => ⟨⟨(-101 : Int32), (l_oldest, l_historySize, n_kind, hist), rfl, h, by rw [ht]; exact hP, hD⟩, hS.F ht⟩) hS.2.2 dX4_setKind_24
theorem hdX4_load : yX4_load.cls = RX4 ∧ yX4_load.cls ≠ "java/lang/invoke/MethodHandle" ∧ yX4_load.cls ≠ "java/lang/invoke/VarHandle" ∧ (parseMethodDescriptor yX4_load.desc).map (fun d => d.parameters.length) = some 1 := by decide +kernel
set_option maxHeartbeats 4000000 in
set_option maxRecDepth 100000 in
theorem kX4_load (l : Launch) (g : GG) (lq rq wq nq : Nat → Nat) (hq : Nat → Nat → Nat) (sz : Nat) (l_oldest : Int32) (l_historySize : Int32) (l_text : Nat → Int32) (l_textLength : Int32) (l_rightAlone : Nat → Int64) (r_columns : Nat → Int64) (r_columnCount : Int32) (r_awaited : Int32) (r_told : Int32) (r_number : Int32) (r_numberStart : Int32) (w_wanted : Nat → Int64) (w_loadAt : Nat → Int32) (w_passedIn : Nat → Int32) (w_secondArm : Int32) (w_power : Int32) (w_limit : Int32) (w_wantedSpeed : Int32) (w_angle : Int32) (w_speed : Int32) (w_load : Int32) (w_ticks : Int32) (n_pictureCount : Int32) (n_angle : Int32) (n_speed : Int32) (n_ticks : Int32) (n_load : Int32) (n_secondArm : Int32) (n_settings : Nat → Int32) (n_working : Nat → Int64) (n_written : Nat → Int64) (n_writtenIn : Nat → Int32) (n_width : Nat → Int32) (n_first : Nat → Int32) (n_step : Nat → Int32) (n_kind : Nat → Int32) (n_columns : Nat → Nat → Int64) (hist : Nat → StC) (a_1 : Int32) (k : Int32 → Int32 → Int32 → Int32 → (Nat → Int64) → Int32 → Int32 → Int32 → Int32 → Int32 → (Nat → Int32) → (Nat → Nat → Int64) → (Nat → StC) → Prop) (h : PX4_load l_oldest l_historySize l_text l_textLength r_columns r_columnCount r_awaited r_told r_number r_numberStart n_pictureCount n_angle n_speed n_ticks n_load n_secondArm n_settings n_working n_written n_writtenIn n_width n_first n_step n_kind n_columns hist a_1 k) : Met l yX4_load wsX4_load ({ frames := 5, cells := 0, slots := 0, locals := 117 }) (PreM g [.ref (lq 0), .int a_1] (wL g lq nq rq wq hq l_oldest l_historySize l_text l_textLength l_rightAlone ++ (wR g rq r_columns r_columnCount r_awaited r_told r_number r_numberStart ++ (wW g wq w_wanted w_loadAt w_passedIn w_secondArm w_power w_limit w_wantedSpeed w_angle w_speed w_load w_ticks ++ (wS g nq n_pictureCount n_angle n_speed n_ticks n_load n_secondArm n_settings n_working n_written n_writtenIn n_width n_first n_step n_kind n_columns ++ (wH g hq hist))))) sz) (va_Qi (fun (r : Int32) (u : Int32 × Int32 × Int32 × (Nat → Int64) × Int32 × Int32 × Int32 × Int32 × Int32 × (Nat → Int32) × (Nat → Nat → Int64) × (Nat → StC)) => k r u.1 u.2.1 u.2.2.1 u.2.2.2.1 u.2.2.2.2.1 u.2.2.2.2.2.1 u.2.2.2.2.2.2.1 u.2.2.2.2.2.2.2.1 u.2.2.2.2.2.2.2.2.1 u.2.2.2.2.2.2.2.2.2.1 u.2.2.2.2.2.2.2.2.2.2.1 u.2.2.2.2.2.2.2.2.2.2.2) (fun u t => PostB g (va_A (wL g lq nq rq wq hq l_oldest l_historySize l_text l_textLength l_rightAlone ++ (wR g rq r_columns r_columnCount r_awaited r_told r_number r_numberStart ++ (wW g wq w_wanted w_loadAt w_passedIn w_secondArm w_power w_limit w_wantedSpeed w_angle w_speed w_load w_ticks ++ (wS g nq n_pictureCount n_angle n_speed n_ticks n_load n_secondArm n_settings n_working n_written n_writtenIn n_width n_first n_step n_kind n_columns ++ (wH g hq hist))))) sz) (wL g lq nq rq wq hq u.1 u.2.1 l_text u.2.2.1 l_rightAlone ++ (wR g rq u.2.2.2.1 u.2.2.2.2.1 u.2.2.2.2.2.1 u.2.2.2.2.2.2.1 u.2.2.2.2.2.2.2.1 u.2.2.2.2.2.2.2.2.1 ++ (wW g wq w_wanted w_loadAt w_passedIn w_secondArm w_power w_limit w_wantedSpeed w_angle w_speed w_load w_ticks ++ (wS g nq n_pictureCount n_angle n_speed n_ticks n_load n_secondArm n_settings n_working n_written n_writtenIn u.2.2.2.2.2.2.2.2.2.1 n_first n_step n_kind u.2.2.2.2.2.2.2.2.2.2.1 ++ (wH g hq u.2.2.2.2.2.2.2.2.2.2.2))))) t) (va_A (wL g lq nq rq wq hq l_oldest l_historySize l_text l_textLength l_rightAlone ++ (wR g rq r_columns r_columnCount r_awaited r_told r_number r_numberStart ++ (wW g wq w_wanted w_loadAt w_passedIn w_secondArm w_power w_limit w_wantedSpeed w_angle w_speed w_load w_ticks ++ (wS g nq n_pictureCount n_angle n_speed n_ticks n_load n_secondArm n_settings n_working n_written n_writtenIn n_width n_first n_step n_kind n_columns ++ (wH g hq hist))))) sz)) 0 0 (va_A (wL g lq nq rq wq hq l_oldest l_historySize l_text l_textLength l_rightAlone ++ (wR g rq r_columns r_columnCount r_awaited r_told r_number r_numberStart ++ (wW g wq w_wanted w_loadAt w_passedIn w_secondArm w_power w_limit w_wantedSpeed w_angle w_speed w_load w_ticks ++ (wS g nq n_pictureCount n_angle n_speed n_ticks n_load n_secondArm n_settings n_working n_written n_writtenIn n_width n_first n_step n_kind n_columns ++ (wH g hq hist))))) sz) := by
  refine Met.ofW (cc := cX4_load) (maxL := 4) (ret := (some .int)) (by decide) rfl ?_
  intro p e s m args below meth c s₁ B hml hv
  obtain ⟨rfl, hsz, hP, hK, hD0⟩ := hv
  have hx := B.exec
  have hb := B.bytes
  have hr := B.returns
  have hts := atoms_spec (ws := wsX4_load) B.pre
  have hown : s.vm.findClass RX4 = some m.cls := findClass_of_methodNamed B.named
  have hlocks := B.notSynchronized
  have iX0 : ∀ w ∈ wsX00, w ∈ wsX4_load := by decide +kernel
  have iX1 : ∀ w ∈ wsX10, w ∈ wsX4_load := by decide +kernel
  have iX4 : ∀ w ∈ wsX40, w ∈ wsX4_load := by decide +kernel
  subst hsz
  have hD := hD0.self (sz := s.heap.size)
  generalize hAe : va_A (wL g lq nq rq wq hq l_oldest l_historySize l_text l_textLength l_rightAlone ++ (wR g rq r_columns r_columnCount r_awaited r_told r_number r_numberStart ++ (wW g wq w_wanted w_loadAt w_passedIn w_secondArm w_power w_limit w_wantedSpeed w_angle w_speed w_load w_ticks ++ (wS g nq n_pictureCount n_angle n_speed n_ticks n_load n_secondArm n_settings n_working n_written n_writtenIn n_width n_first n_step n_kind n_columns ++ (wH g hq hist))))) s.heap.size = A at hD ⊢
  have hA : ∀ q : Nat, s.heap.size ≤ q → A q := fun q h => by rw [← hAe]; exact Or.inr h
  clear hAe hD0
  have hS : va_S A s.heap s.heap [] := va_S.rf
  have hl := lv_entry ([.ref (lq 0), .int a_1]) (n := 4) (Nat.le_of_ble_eq_true rfl)
  rw [lg_entry_eq]
  generalize (lg_sl ([.ref (lq 0), .int a_1]) ++ List.replicate (4 - (lg_sl ([.ref (lq 0), .int a_1])).length) Slot.unset).toArray = ls at hl ⊢
  have hl : lv_has ls 4 [(0, .ref (lq 0)), (1, .int a_1)] := hl
  unfold PX4_load at h
  obtain ⟨H, hHe⟩ : ∃ y, y = s.heap := ⟨_, rfl⟩
  rw [← hHe] at hP
  have hS : va_S A s.heap H [] := by rw [hHe]; exact hS
  have hW0 : ∀ (Q : State → Prop), W p l e (headSpec wsX4_load ({ frames := 5, cells := 0, slots := 0, locals := 117 })).room s m ([.ref (lq 0), .int a_1] : List Value).toArray below meth c H [] 0 0 Q (F0 m 0 ls []) → W p l e (headSpec wsX4_load ({ frames := 5, cells := 0, slots := 0, locals := 117 })).room s m ([.ref (lq 0), .int a_1] : List Value).toArray below meth c s.heap [] 0 0 Q (F0 m 0 ls []) := by rw [hHe]; exact fun _ h9 => h9
  refine hW0 _ ?_
  clear hW0 hHe
  generalize ([] : List Loc) = locs at hS ⊢
  refine lv_aload_n hx hb dX4_load_0 rfl (lv_at hl 0 rfl) ?_
  refine va_get (D := g.1) (ci := 4) (v := .ref (nq 0)) (C := RX4) (T := TX4) (N := 9) hx hb hts iX4 hown hK.1 hP 0 rfl rfl 0 (by decide) (hts (.fieldLink RX4 10 "LightWheel" "now" "LLightWheel$State;") (by decide +kernel)) (fun _ h9 => h9) rfl dX4_load_1 ?_
  refine lv_iload_n hx hb dX4_load_4 rfl (lv_at hl 1 rfl) ?_
  have hPc : va_P g.1 vwCl (wS g nq n_pictureCount n_angle n_speed n_ticks n_load n_secondArm n_settings n_working n_written n_writtenIn n_width n_first n_step n_kind n_columns) H := hP.sub [10, 11, 12, 13, 14, 15, 16, 17, 18, 19, 20, 21, 22, 23] rfl
  refine va_cse (ad := fun j => nq (6 + 2 * j)) (W.runV (As := [.int a_1]) (rest := []) ⟨hx, hb, hml, hown, hts⟩ (kX2_pictureNumbered l g nq n_pictureCount n_angle n_speed n_ticks n_load n_secondArm n_settings n_working n_written n_writtenIn n_width n_first n_step n_kind n_columns a_1 _ h) (cwV 1 hts gX4_load_X2_pictureNumbered rfl rfl rfl hdX2_pictureNumbered ⟨(Nat.le_of_ble_eq_true rfl), (Nat.le_of_ble_eq_true rfl)⟩) (preV_R (r := (RX2, TX2, 11)) hK hPc (ci := 2) (q0 := 0) rfl rfl) rfl rfl hl.1 rfl (lv_room (Nat.le_of_ble_eq_true rfl)) dX4_load_5 ⟨(Nat.le_of_ble_eq_true rfl), (Nat.le_of_ble_eq_true rfl)⟩) (fun o_1 hh => ?_)
  obtain ⟨h4, h⟩ := hh
  rcases o_1 with _ | j_2
  · refine W.eq (g2 := F0 m 8 ls [.null]) rfl ?_
    replace h := h.1 rfl
    refine lv_astore_nN (lv' := [(2, .null), (0, .ref (lq 0)), (1, .int a_1)]) hx hb dX4_load_8 rfl hl (by decide) rfl (fun ls hl => ?_)
    refine lv_aload_nN hx hb dX4_load_9 rfl (lv_at hl 0 rfl) ?_
    refine lv_ifnonnullN hx hb dX4_load_10 ?_
    refine lv_bipush (v := (-101 : Int32)) hx hb dX4_load_13 (by decide) ?_
    exact W.iret hx hb hr (fun t ht hW => ⟨⟨(-101 : Int32), (l_oldest, l_historySize, l_textLength, r_columns, r_columnCount, r_awaited, r_told, r_number, r_numberStart, n_width, n_columns, hist), rfl, h, by rw [ht]; exact hP, hD⟩, hS.F ht⟩) hS.2.2 dX4_load_15
  · refine W.eq (g2 := F0 m 8 ls [.ref (nq (6 + 2 * j_2))]) rfl ?_
    have hj_2 : j_2 < 4 := h4 j_2 rfl
    replace h := h.2 j_2 hj_2 rfl
    refine lv_astore_n (lv' := [(2, .ref (nq (6 + 2 * j_2))), (0, .ref (lq 0)), (1, .int a_1)]) hx hb dX4_load_8 rfl hl (by decide) rfl (fun ls hl => ?_)
    refine lv_aload_n hx hb dX4_load_9 rfl (lv_at hl 0 rfl) ?_
    refine lv_ifnonnull (tgt := 16) hx hb dX4_load_10 (by decide) ?_
    refine lv_aload_n hx hb dX4_load_16 rfl (lv_at hl 1 rfl) ?_
    refine va_get (D := g.1) (ci := 4) (v := .ref (rq 0)) (C := RX4) (T := TX4) (N := 9) hx hb hts iX4 hown hK.1 hP 0 rfl rfl 6 (by decide) (hts (.fieldLink RX4 37 "LightWheel" "reader" "LLightWheel$Reader;") (by decide +kernel)) (fun _ h9 => h9) rfl dX4_load_17 ?_
    refine lv_aload_n hx hb dX4_load_20 rfl (lv_at hl 1 rfl) ?_
    refine va_get (D := g.1) (ci := 4) (v := .ref (lq 2)) (C := RX4) (T := TX4) (N := 9) hx hb hts iX4 hown hK.1 hP 0 rfl rfl 4 (by decide) (hts (.fieldLink RX4 27 "LightWheel" "text" "[C") (by decide +kernel)) (fun _ h9 => h9) rfl dX4_load_21 ?_
    refine lv_aload_n hx hb dX4_load_24 rfl (lv_at hl 1 rfl) ?_
    refine va_get (D := g.1) (ci := 4) (v := .int l_textLength) (C := RX4) (T := TX4) (N := 9) hx hb hts iX4 hown hK.1 hP 0 rfl rfl 5 (by decide) (hts (.fieldLink RX4 31 "LightWheel" "textLength" "I") (by decide +kernel)) (fun _ h9 => h9) rfl dX4_load_25 ?_
    have hPc : va_P g.1 vwCl (wR g rq r_columns r_columnCount r_awaited r_told r_number r_numberStart ++ (wT g (fun _ => (lq 2)) l_text)) H := hP.sub [4, 5, 2] rfl
    have hDc : va_D A (wR g rq r_columns r_columnCount r_awaited r_told r_number r_numberStart ++ (wT g (fun _ => (lq 2)) l_text)) := hD.sub [4, 5, 2] (by decide) rfl
    have hFc := va_free (wc := (wR g rq r_columns r_columnCount r_awaited r_told r_number r_numberStart ++ (wT g (fun _ => (lq 2)) l_text))) hD hS hA [4, 5, 2] rfl
    refine va_calli (va_runV (As := [.ref (lq 2), .int l_textLength]) (rest := []) ⟨hx, hb, hml, hown, hts⟩ (kX1_read l g rq (fun _ => (lq 2)) H.size r_columns r_columnCount r_awaited r_told r_number r_numberStart l_text l_textLength _ h) (cwV 2 hts gX4_load_X1_read rfl rfl rfl hdX1_read ⟨(Nat.le_of_ble_eq_true rfl), (Nat.le_of_ble_eq_true rfl)⟩) (preV_M (r := (RX1, TX1, 6)) hK hPc hDc (ci := 1) (q0 := 0) rfl rfl) rfl rfl hl.1 rfl (lv_room (Nat.le_of_ble_eq_true rfl)) dX4_load_28 ⟨(Nat.le_of_ble_eq_true rfl), (Nat.le_of_ble_eq_true rfl)⟩) hS (fun q _ h9 => hFc q h9) hFc (fun r28_9 u t H1 locs ht hvm hw hB hz1 hk1 hS => ?_)
    obtain ⟨r_columns_3, r_columnCount_4, r_awaited_5, r_told_6, r_number_7, r_numberStart_8⟩ := u
    replace h := hw
    try dsimp only at h
    obtain ⟨hP, hD⟩ := jn3 (ws := (wL g lq nq rq wq hq l_oldest l_historySize l_text l_textLength l_rightAlone ++ (wR g rq r_columns r_columnCount r_awaited r_told r_number r_numberStart ++ (wW g wq w_wanted w_loadAt w_passedIn w_secondArm w_power w_limit w_wantedSpeed w_angle w_speed w_load w_ticks ++ (wS g nq n_pictureCount n_angle n_speed n_ticks n_load n_secondArm n_settings n_working n_written n_writtenIn n_width n_first n_step n_kind n_columns))))) (wf := (wR g rq r_columns_3 r_columnCount_4 r_awaited_5 r_told_6 r_number_7 r_numberStart_8 ++ (wT g (fun _ => (lq 2)) l_text))) (pl := (wH g hq hist)) (wz := (wL g lq nq rq wq hq l_oldest l_historySize l_text l_textLength l_rightAlone ++ (wR g rq r_columns_3 r_columnCount_4 r_awaited_5 r_told_6 r_number_7 r_numberStart_8 ++ (wW g wq w_wanted w_loadAt w_passedIn w_secondArm w_power w_limit w_wantedSpeed w_angle w_speed w_load w_ticks ++ (wS g nq n_pictureCount n_angle n_speed n_ticks n_load n_secondArm n_settings n_working n_written n_writtenIn n_width n_first n_step n_kind n_columns))))) hP hD [4, 5, 2] [0, 1, 3, 6, 7, 8, 9, 10, 11, 12, 13, 14, 15, 16, 17, 18, 19, 20, 21, 22, 23] [0, 1, 23, 2, 21, 22, 3, 4, 5, 6, 7, 8, 9, 10, 11, 12, 13, 14, 15, 16, 17, 18, 19, 20] rfl rfl (by decide) (by decide) (by decide) rfl hk1 hFc hB ht
    have hP : va_P g.1 vwCl (wL g lq nq rq wq hq l_oldest l_historySize l_text l_textLength l_rightAlone ++ (wR g rq r_columns_3 r_columnCount_4 r_awaited_5 r_told_6 r_number_7 r_numberStart_8 ++ (wW g wq w_wanted w_loadAt w_passedIn w_secondArm w_power w_limit w_wantedSpeed w_angle w_speed w_load w_ticks ++ (wS g nq n_pictureCount n_angle n_speed n_ticks n_load n_secondArm n_settings n_working n_written n_writtenIn n_width n_first n_step n_kind n_columns ++ (wH g hq hist))))) H1 := hP
    have hD : va_D A (wL g lq nq rq wq hq l_oldest l_historySize l_text l_textLength l_rightAlone ++ (wR g rq r_columns_3 r_columnCount_4 r_awaited_5 r_told_6 r_number_7 r_numberStart_8 ++ (wW g wq w_wanted w_loadAt w_passedIn w_secondArm w_power w_limit w_wantedSpeed w_angle w_speed w_load w_ticks ++ (wS g nq n_pictureCount n_angle n_speed n_ticks n_load n_secondArm n_settings n_working n_written n_writtenIn n_width n_first n_step n_kind n_columns ++ (wH g hq hist))))) := hD
    clear hk1 hz1 hB ht hw hFc
    generalize H1 = H at hP hS ⊢
    refine lv_istore_n (lv' := [(3, .int r28_9), (2, .ref (nq (6 + 2 * j_2))), (0, .ref (lq 0)), (1, .int a_1)]) hx hb dX4_load_31 rfl hl (by decide) rfl (fun ls hl => ?_)
    refine lv_iload_n hx hb dX4_load_32 rfl (lv_at hl 0 rfl) ?_
    refine lv_if_lt (tgt := 42) hx hb dX4_load_33 (by decide) (fun c_33_9 => ?_) (fun c_33_9 => ?_)
    · replace h := h.1 c_33_9
      refine lv_aload_n hx hb dX4_load_42 rfl (lv_at hl 2 rfl) ?_
      have hFc := va_freeA hD hS hA
      refine va_callv (va_runV (As := []) (rest := []) ⟨hx, hb, hml, hown, hts⟩ (kX4_record l g lq rq wq nq hq H.size l_oldest l_historySize l_text l_textLength l_rightAlone r_columns_3 r_columnCount_4 r_awaited_5 r_told_6 r_number_7 r_numberStart_8 w_wanted w_loadAt w_passedIn w_secondArm w_power w_limit w_wantedSpeed w_angle w_speed w_load w_ticks n_pictureCount n_angle n_speed n_ticks n_load n_secondArm n_settings n_working n_written n_writtenIn n_width n_first n_step n_kind n_columns hist _ h) (cwV 0 hts gX4_load_X4_record rfl rfl rfl hdX4_record ⟨(Nat.le_of_ble_eq_true rfl), (Nat.le_of_ble_eq_true rfl)⟩) (preV_M (r := (RX4, TX4, 9)) hK hP hD (ci := 4) (q0 := 0) rfl rfl) rfl rfl hl.1 rfl (lv_room (Nat.le_of_ble_eq_true rfl)) dX4_load_43 ⟨(Nat.le_of_ble_eq_true rfl), (Nat.le_of_ble_eq_true rfl)⟩) hS (fun q _ h9 => hFc q h9) hFc (fun u t H1 locs ht hvm hw hB hz1 hk1 hS => ?_)
      obtain ⟨l_oldest_11, l_historySize_12, hist_13⟩ := u
      replace h := hw
      try dsimp only at h
      obtain ⟨hP, hD⟩ := jn0 (wf := (wL g lq nq rq wq hq l_oldest_11 l_historySize_12 l_text l_textLength l_rightAlone ++ (wR g rq r_columns_3 r_columnCount_4 r_awaited_5 r_told_6 r_number_7 r_numberStart_8 ++ (wW g wq w_wanted w_loadAt w_passedIn w_secondArm w_power w_limit w_wantedSpeed w_angle w_speed w_load w_ticks ++ (wS g nq n_pictureCount n_angle n_speed n_ticks n_load n_secondArm n_settings n_working n_written n_writtenIn n_width n_first n_step n_kind n_columns ++ (wH g hq hist_13)))))) hB ht hFc
      have hP : va_P g.1 vwCl (wL g lq nq rq wq hq l_oldest_11 l_historySize_12 l_text l_textLength l_rightAlone ++ (wR g rq r_columns_3 r_columnCount_4 r_awaited_5 r_told_6 r_number_7 r_numberStart_8 ++ (wW g wq w_wanted w_loadAt w_passedIn w_secondArm w_power w_limit w_wantedSpeed w_angle w_speed w_load w_ticks ++ (wS g nq n_pictureCount n_angle n_speed n_ticks n_load n_secondArm n_settings n_working n_written n_writtenIn n_width n_first n_step n_kind n_columns ++ (wH g hq hist_13))))) H1 := hP
      have hD : va_D A (wL g lq nq rq wq hq l_oldest_11 l_historySize_12 l_text l_textLength l_rightAlone ++ (wR g rq r_columns_3 r_columnCount_4 r_awaited_5 r_told_6 r_number_7 r_numberStart_8 ++ (wW g wq w_wanted w_loadAt w_passedIn w_secondArm w_power w_limit w_wantedSpeed w_angle w_speed w_load w_ticks ++ (wS g nq n_pictureCount n_angle n_speed n_ticks n_load n_secondArm n_settings n_working n_written n_writtenIn n_width n_first n_step n_kind n_columns ++ (wH g hq hist_13))))) := hD
      clear hk1 hz1 hB ht hw hFc
      generalize H1 = H at hP hS ⊢
      refine lv_aload_n hx hb dX4_load_46 rfl (lv_at hl 1 rfl) ?_
      refine lv_aload_n hx hb dX4_load_47 rfl (lv_at hl 2 rfl) ?_
      refine va_get (D := g.1) (ci := 4) (v := .ref (rq 0)) (C := RX4) (T := TX4) (N := 9) hx hb hts iX4 hown hK.1 hP 0 rfl rfl 6 (by decide) (hts (.fieldLink RX4 37 "LightWheel" "reader" "LLightWheel$Reader;") (by decide +kernel)) (fun _ h9 => h9) rfl dX4_load_48 ?_
      refine va_get (D := g.1) (ci := 1) (v := .int r_columnCount_4) (C := RX1) (T := TX1) (N := 6) hx hb hts iX1 hown hK.1 hP 4 rfl rfl 1 (by decide) (hts (.fieldLink RX4 99 "LightWheel$Reader" "columnCount" "I") (by decide +kernel)) (fun _ h9 => h9) rfl dX4_load_51 ?_
      refine va_put (D := g.1) (ci := 0) (v := .int r_columnCount_4) (ty := .int) (C := RX0) (T := TX0) (N := 5) (a := (nq (6 + 2 * j_2))) (fs := [.int (n_width j_2), .int (n_first j_2), .int (n_step j_2), .int (n_kind j_2), .ref (nq (7 + 2 * j_2))]) hx hb hts iX0 tyX0 tyX0_ok nmX0 hown hK.1 hP hD hS (16 + 2 * j_2) (by rcases pk4 hj_2 with rfl | rfl | rfl | rfl <;> rfl) rfl 0 (by decide) (hts (.fieldLink RX4 66 "LightWheel$Picture" "width" "I") (by decide +kernel)) (fun _ h9 => h9) rfl (by decide +kernel) rfl rfl (Nat.le_of_ble_eq_true rfl) dX4_load_54 (fun H locs hP hD hS => ?_)
      obtain ⟨n_width_14, e_n_width_14⟩ : ∃ y : Nat → Int32, y = upd n_width j_2 r_columnCount_4 := ⟨_, rfl⟩
      replace h := h n_width_14 e_n_width_14
      have hP : va_P g.1 vwCl (wL g lq nq rq wq hq l_oldest_11 l_historySize_12 l_text l_textLength l_rightAlone ++ (wR g rq r_columns_3 r_columnCount_4 r_awaited_5 r_told_6 r_number_7 r_numberStart_8 ++ (wW g wq w_wanted w_loadAt w_passedIn w_secondArm w_power w_limit w_wantedSpeed w_angle w_speed w_load w_ticks ++ (wS g nq n_pictureCount n_angle n_speed n_ticks n_load n_secondArm n_settings n_working n_written n_writtenIn n_width_14 n_first n_step n_kind n_columns ++ (wH g hq hist_13))))) H := by rw [e_n_width_14]; rcases pk4 hj_2 with rfl | rfl | rfl | rfl <;> exact hP
      have hD : va_D A (wL g lq nq rq wq hq l_oldest_11 l_historySize_12 l_text l_textLength l_rightAlone ++ (wR g rq r_columns_3 r_columnCount_4 r_awaited_5 r_told_6 r_number_7 r_numberStart_8 ++ (wW g wq w_wanted w_loadAt w_passedIn w_secondArm w_power w_limit w_wantedSpeed w_angle w_speed w_load w_ticks ++ (wS g nq n_pictureCount n_angle n_speed n_ticks n_load n_secondArm n_settings n_working n_written n_writtenIn n_width_14 n_first n_step n_kind n_columns ++ (wH g hq hist_13))))) := by rw [e_n_width_14]; rcases pk4 hj_2 with rfl | rfl | rfl | rfl <;> exact hD
      refine lv_aload_n hx hb dX4_load_57 rfl (lv_at hl 2 rfl) ?_
      refine va_get (D := g.1) (ci := 4) (v := .ref (rq 0)) (C := RX4) (T := TX4) (N := 9) hx hb hts iX4 hown hK.1 hP 0 rfl rfl 6 (by decide) (hts (.fieldLink RX4 37 "LightWheel" "reader" "LLightWheel$Reader;") (by decide +kernel)) (fun _ h9 => h9) rfl dX4_load_58 ?_
      refine va_get (D := g.1) (ci := 1) (v := .ref (rq 1)) (C := RX1) (T := TX1) (N := 6) hx hb hts iX1 hown hK.1 hP 4 rfl rfl 0 (by decide) (hts (.fieldLink RX4 102 "LightWheel$Reader" "columns" "[J") (by decide +kernel)) (fun _ h9 => h9) rfl dX4_load_61 ?_
      refine lv_iconst (v := (0 : Int32)) hx hb dX4_load_64 (by decide) ?_
      refine lv_aload_n hx hb dX4_load_65 rfl (lv_at hl 1 rfl) ?_
      refine va_get (D := g.1) (ci := 0) (v := .ref (nq (7 + 2 * j_2))) (C := RX0) (T := TX0) (N := 5) (a := (nq (6 + 2 * j_2))) (fs := [.int (n_width_14 j_2), .int (n_first j_2), .int (n_step j_2), .int (n_kind j_2), .ref (nq (7 + 2 * j_2))]) hx hb hts iX0 hown hK.1 hP (16 + 2 * j_2) (by rcases pk4 hj_2 with rfl | rfl | rfl | rfl <;> rfl) rfl 4 (by decide) (hts (.fieldLink RX4 75 "LightWheel$Picture" "columns" "[J") (by decide +kernel)) (fun _ h9 => h9) rfl dX4_load_66 ?_
      refine lv_iconst (v := (0 : Int32)) hx hb dX4_load_69 (by decide) ?_
      refine lv_bipush (v := (40 : Int32)) hx hb dX4_load_70 (by decide) ?_
      refine xs_copyl (a := (nq (7 + 2 * j_2))) (n1 := 40) (g := (n_columns j_2)) hx hb (hml.trans hl.1.symm) hown (hts (.methodLink RX4 103 arraycopyName) (by decide +kernel)) (hts (.native arraycopyName) (by decide +kernel)) (hts (.static arraycopyName) (by decide +kernel)) (hts (.initialized "java/lang/System") (by decide +kernel)) hK.1 hP hD hS 5 (17 + 2 * j_2) 1 1 rfl (by rcases pk4 hj_2 with rfl | rfl | rfl | rfl <;> rfl) rfl rfl 40 rfl (Nat.le_of_ble_eq_true rfl) (Nat.le_of_ble_eq_true rfl) (Nat.le_of_ble_eq_true rfl) (Nat.le_of_ble_eq_true rfl) (Nat.le_of_ble_eq_true rfl) dX4_load_72 (fun fz_n_columns_15 ez_n_columns_15 H locs hP hD hS => ?_)
      obtain ⟨n_columns_15, e_n_columns_15⟩ : ∃ y : Nat → Nat → Int64, y = va_up n_columns j_2 fz_n_columns_15 := ⟨_, rfl⟩
      replace h := h n_columns_15 (by rw [e_n_columns_15, ez_n_columns_15])
      have hP : va_P g.1 vwCl (wL g lq nq rq wq hq l_oldest_11 l_historySize_12 l_text l_textLength l_rightAlone ++ (wR g rq r_columns_3 r_columnCount_4 r_awaited_5 r_told_6 r_number_7 r_numberStart_8 ++ (wW g wq w_wanted w_loadAt w_passedIn w_secondArm w_power w_limit w_wantedSpeed w_angle w_speed w_load w_ticks ++ (wS g nq n_pictureCount n_angle n_speed n_ticks n_load n_secondArm n_settings n_working n_written n_writtenIn n_width_14 n_first n_step n_kind n_columns_15 ++ (wH g hq hist_13))))) H := by rw [e_n_columns_15]; rcases pk4 hj_2 with rfl | rfl | rfl | rfl <;> exact hP
      have hD : va_D A (wL g lq nq rq wq hq l_oldest_11 l_historySize_12 l_text l_textLength l_rightAlone ++ (wR g rq r_columns_3 r_columnCount_4 r_awaited_5 r_told_6 r_number_7 r_numberStart_8 ++ (wW g wq w_wanted w_loadAt w_passedIn w_secondArm w_power w_limit w_wantedSpeed w_angle w_speed w_load w_ticks ++ (wS g nq n_pictureCount n_angle n_speed n_ticks n_load n_secondArm n_settings n_working n_written n_writtenIn n_width_14 n_first n_step n_kind n_columns_15 ++ (wH g hq hist_13))))) := by rw [e_n_columns_15]; rcases pk4 hj_2 with rfl | rfl | rfl | rfl <;> exact hD
      refine lv_aload_n hx hb dX4_load_75 rfl (lv_at hl 2 rfl) ?_
      refine lv_iconst (v := (0 : Int32)) hx hb dX4_load_76 (by decide) ?_
      refine va_put (D := g.1) (ci := 4) (v := .int (0 : Int32)) (ty := .int) (C := RX4) (T := TX4) (N := 9) hx hb hts iX4 tyX4 tyX4_ok nmX4 hown hK.1 hP hD hS 0 rfl rfl 5 (by decide) (hts (.fieldLink RX4 31 "LightWheel" "textLength" "I") (by decide +kernel)) (fun _ h9 => h9) rfl (by decide +kernel) rfl rfl (Nat.le_of_ble_eq_true rfl) dX4_load_77 (fun H locs hP hD hS => ?_)
      have hP : va_P g.1 vwCl (wL g lq nq rq wq hq l_oldest_11 l_historySize_12 l_text (0 : Int32) l_rightAlone ++ (wR g rq r_columns_3 r_columnCount_4 r_awaited_5 r_told_6 r_number_7 r_numberStart_8 ++ (wW g wq w_wanted w_loadAt w_passedIn w_secondArm w_power w_limit w_wantedSpeed w_angle w_speed w_load w_ticks ++ (wS g nq n_pictureCount n_angle n_speed n_ticks n_load n_secondArm n_settings n_working n_written n_writtenIn n_width_14 n_first n_step n_kind n_columns_15 ++ (wH g hq hist_13))))) H := hP
      have hD : va_D A (wL g lq nq rq wq hq l_oldest_11 l_historySize_12 l_text (0 : Int32) l_rightAlone ++ (wR g rq r_columns_3 r_columnCount_4 r_awaited_5 r_told_6 r_number_7 r_numberStart_8 ++ (wW g wq w_wanted w_loadAt w_passedIn w_secondArm w_power w_limit w_wantedSpeed w_angle w_speed w_load w_ticks ++ (wS g nq n_pictureCount n_angle n_speed n_ticks n_load n_secondArm n_settings n_working n_written n_writtenIn n_width_14 n_first n_step n_kind n_columns_15 ++ (wH g hq hist_13))))) := hD
      refine lv_aload_n hx hb dX4_load_80 rfl (lv_at hl 1 rfl) ?_
      refine va_get (D := g.1) (ci := 0) (v := .int (n_width_14 j_2)) (C := RX0) (T := TX0) (N := 5) (a := (nq (6 + 2 * j_2))) (fs := [.int (n_width_14 j_2), .int (n_first j_2), .int (n_step j_2), .int (n_kind j_2), .ref (nq (7 + 2 * j_2))]) hx hb hts iX0 hown hK.1 hP (16 + 2 * j_2) (by rcases pk4 hj_2 with rfl | rfl | rfl | rfl <;> rfl) rfl 0 (by decide) (hts (.fieldLink RX4 66 "LightWheel$Picture" "width" "I") (by decide +kernel)) (fun _ h9 => h9) rfl dX4_load_81 ?_
      exact W.iret hx hb hr (fun t ht hW => ⟨⟨(n_width_14 j_2), (l_oldest_11, l_historySize_12, (0 : Int32), r_columns_3, r_columnCount_4, r_awaited_5, r_told_6, r_number_7, r_numberStart_8, n_width_14, n_columns_15, hist_13), rfl, h, by rw [ht]; exact hP, hD⟩, hS.F ht⟩) hS.2.2 dX4_load_84
    · replace h := h.2 c_33_9
      refine lv_sipush (v := (-1000 : Int32)) hx hb dX4_load_36 (by decide) ?_
      refine lv_iload_n hx hb dX4_load_39 rfl (lv_at hl 0 rfl) ?_
      refine lv_isub hx hb dX4_load_40 ?_
      exact W.iret hx hb hr (fun t ht hW => ⟨⟨((-1000 : Int32) - r28_9), (l_oldest, l_historySize, l_textLength, r_columns_3, r_columnCount_4, r_awaited_5, r_told_6, r_number_7, r_numberStart_8, n_width, n_columns, hist), rfl, h, by rw [ht]; exact hP, hD⟩, hS.F ht⟩) hS.2.2 dX4_load_41
