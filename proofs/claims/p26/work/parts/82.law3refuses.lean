def PL_refuses_J2 (k : Int32 → VS → Prop) (r3_1 : Int32) (r9_2 : Int32) (V_7 : VS) (t_8 : Int32) : Prop := ((t_8 = 0 → (k (0 : Int32) V_7)) ∧ (¬ t_8 = 0 → PA_count V_7 (8 : Int32) (fun r306_10 => ((¬ r306_10 = r3_1 → (k (0 : Int32) V_7)) ∧ (r306_10 = r3_1 → PA_count V_7 (0 : Int32) (fun r315_12 => ((¬ r315_12 = r9_2 → (k (0 : Int32) V_7)) ∧ (r315_12 = r9_2 → (k (1 : Int32) V_7)))))))))
def PL_refuses_J1 (k : Int32 → VS → Prop) (r3_1 : Int32) (r9_2 : Int32) (V_5 : VS) (t_6 : Int32) : Prop := ((t_6 = 0 → (PL_refuses_J2 k r3_1 r9_2) V_5 (0 : Int32)) ∧ (¬ t_6 = 0 → PA_count V_5 (-1 : Int32) (fun r184_15 => ((¬ r184_15 = (-101 : Int32) → (PL_refuses_J2 k r3_1 r9_2) V_5 (0 : Int32)) ∧ (r184_15 = (-101 : Int32) → PA_setting V_5 (-1 : Int32) (fun r194_17 => ((¬ r194_17 = (-101 : Int32) → (PL_refuses_J2 k r3_1 r9_2) V_5 (0 : Int32)) ∧ (r194_17 = (-101 : Int32) → PA_picture V_5 r9_2 (0 : Int32) (fun r205_19 => ((¬ r205_19 = (-101 : Int32) → (PL_refuses_J2 k r3_1 r9_2) V_5 (0 : Int32)) ∧ (r205_19 = (-101 : Int32) → PA_color V_5 r9_2 (0 : Int32) (0 : Int32) (fun r217_21 => ((¬ r217_21 = (-101 : Int32) → (PL_refuses_J2 k r3_1 r9_2) V_5 (0 : Int32)) ∧ (r217_21 = (-101 : Int32) → PA_broken V_5 (-1 : Int32) (0 : Int32) (fun r228_23 => ((¬ r228_23 = (-101 : Int32) → (PL_refuses_J2 k r3_1 r9_2) V_5 (0 : Int32)) ∧ (r228_23 = (-101 : Int32) → PA_place V_5 (-1 : Int32) (0 : Int32) (0 : Int32) (fun r240_25 => ((¬ r240_25 = (-101 : Int32) → (PL_refuses_J2 k r3_1 r9_2) V_5 (0 : Int32)) ∧ (r240_25 = (-101 : Int32) → PA_columnAt V_5 r9_2 (0 : Int32) (fun r251_27 => ((¬ r251_27 = (-101 : Int32) → (PL_refuses_J2 k r3_1 r9_2) V_5 (0 : Int32)) ∧ (r251_27 = (-101 : Int32) → PA_gaps V_5 (201 : Int32) (fun r263_29 V_30 => ((¬ r263_29 = (-101 : Int32) → (PL_refuses_J2 k r3_1 r9_2) V_30 (0 : Int32)) ∧ (r263_29 = (-101 : Int32) → PA_bestSpeed V_30 (41 : Int32) (fun r274_32 V_33 => ((¬ r274_32 = (-101 : Int32) → (PL_refuses_J2 k r3_1 r9_2) V_33 (0 : Int32)) ∧ (r274_32 = (-101 : Int32) → PA_meetings V_33 r9_2 (0 : Int32) (fun r285_35 => ((¬ r285_35 = (-101 : Int32) → (PL_refuses_J2 k r3_1 r9_2) V_33 (0 : Int32)) ∧ (r285_35 = (-101 : Int32) → (PL_refuses_J2 k r3_1 r9_2) V_33 (1 : Int32)))))))))))))))))))))))))))))))))
def PL_refuses (V : VS)  (k : Int32 → VS → Prop) : Prop := PA_count V (8 : Int32) (fun r3_1 => PA_count V (0 : Int32) (fun r9_2 => PA_addPicture V (0 : Int32) (fun r15_3 V_4 => ((¬ r15_3 = (-101 : Int32) → (PL_refuses_J1 k r3_1 r9_2) V_4 (0 : Int32)) ∧ (r15_3 = (-101 : Int32) → PA_addPicture V_4 (41 : Int32) (fun r26_38 V_39 => ((¬ r26_38 = (-101 : Int32) → (PL_refuses_J1 k r3_1 r9_2) V_39 (0 : Int32)) ∧ (r26_38 = (-101 : Int32) → PA_paint V_39 r9_2 (0 : Int32) (0 : Int32) (0 : Int32) (fun r39_41 V_42 => ((¬ r39_41 = (-101 : Int32) → (PL_refuses_J1 k r3_1 r9_2) V_42 (0 : Int32)) ∧ (r39_41 = (-101 : Int32) → PA_setPlace V_42 r9_2 (0 : Int32) (1 : Int32) (fun r51_44 V_45 => ((¬ r51_44 = (-101 : Int32) → (PL_refuses_J1 k r3_1 r9_2) V_45 (0 : Int32)) ∧ (r51_44 = (-101 : Int32) → PA_setKind V_45 (-1 : Int32) (0 : Int32) (fun r62_47 V_48 => ((¬ r62_47 = (-101 : Int32) → (PL_refuses_J1 k r3_1 r9_2) V_48 (0 : Int32)) ∧ (r62_47 = (-101 : Int32) → PA_load V_48 r9_2 (fun r72_50 V_51 => ((¬ r72_50 = (-101 : Int32) → (PL_refuses_J1 k r3_1 r9_2) V_51 (0 : Int32)) ∧ (r72_50 = (-101 : Int32) → PA_setSecondArm V_51 (2 : Int32) (fun r82_53 V_54 => ((¬ r82_53 = (-101 : Int32) → (PL_refuses_J1 k r3_1 r9_2) V_54 (0 : Int32)) ∧ (r82_53 = (-101 : Int32) → PA_setBroken V_54 (0 : Int32) (-1 : Int32) (0 : Int32) (fun r94_56 V_57 => ((¬ r94_56 = (-101 : Int32) → (PL_refuses_J1 k r3_1 r9_2) V_57 (0 : Int32)) ∧ (r94_56 = (-101 : Int32) → PA_set V_57 (0 : Int32) (-61 : Int32) (fun r106_59 V_60 => ((¬ r106_59 = (-101 : Int32) → (PL_refuses_J1 k r3_1 r9_2) V_60 (0 : Int32)) ∧ (r106_59 = (-101 : Int32) → PA_set V_60 (1 : Int32) (0 : Int32) (fun r117_62 V_63 => ((¬ r117_62 = (-101 : Int32) → (PL_refuses_J1 k r3_1 r9_2) V_63 (0 : Int32)) ∧ (r117_62 = (-101 : Int32) → PA_set V_63 (3 : Int32) (0 : Int32) (fun r128_65 V_66 => ((¬ r128_65 = (-101 : Int32) → (PL_refuses_J1 k r3_1 r9_2) V_66 (0 : Int32)) ∧ (r128_65 = (-101 : Int32) → PA_set V_66 (2 : Int32) (10000 : Int32) (fun r141_68 V_69 => ((¬ r141_68 = (-101 : Int32) → (PL_refuses_J1 k r3_1 r9_2) V_69 (0 : Int32)) ∧ (r141_68 = (-101 : Int32) → PA_run V_69 (101 : Int32) (fun r152_71 V_72 => ((¬ r152_71 = (-101 : Int32) → (PL_refuses_J1 k r3_1 r9_2) V_72 (0 : Int32)) ∧ (r152_71 = (-101 : Int32) → PA_append V_72 (256 : Int32) (fun r164_74 V_75 => ((¬ r164_74 = (-101 : Int32) → (PL_refuses_J1 k r3_1 r9_2) V_75 (0 : Int32)) ∧ (r164_74 = (-101 : Int32) → (PL_refuses_J1 k r3_1 r9_2) V_75 (1 : Int32)))))))))))))))))))))))))))))))))))))))))))))
theorem hdL_refuses : yL_refuses.cls = RL ∧ yL_refuses.cls ≠ "java/lang/invoke/MethodHandle" ∧ yL_refuses.cls ≠ "java/lang/invoke/VarHandle" ∧ (parseMethodDescriptor yL_refuses.desc).map (fun d => d.parameters.length) = some 1 := by decide +kernel
set_option maxHeartbeats 8000000 in
set_option maxRecDepth 100000 in
theorem kL_refuses (l : Launch) (g : GG) (a : QS) (V : VS) (ws : va_W) (sz : Nat) (hAW : AW g a V ws)  (k : Int32 → VS → Prop) (h : PL_refuses V  k) : Met l yL_refuses wsL_refuses ({ frames := 7, cells := 0, slots := 0, locals := 154 }) (PreMS g [.ref (a.1 0)] ws sz) (va_Qi (fun (r : Int32) (u : va_W) => ∃ V' : VS, AW g a V' u ∧ k r V') (fun u t => PostB g (va_A ws sz) u t) (va_A ws sz)) 0 0 (va_A ws sz) := by
  refine Met_ofWF (cc := cL_refuses) (maxL := 4) (ret := (some .boolean)) (by decide +kernel) rfl ?_
  intro p e s m args below meth c s₁ B hml hv
  obtain ⟨rfl, hsz, hP, hK, hD0, hST⟩ := hv
  have hx := B.exec
  have hb := B.bytes
  have hr := B.returns
  have hts := atoms_spec (ws := wsL_refuses) B.pre
  have hown : s.vm.findClass RL = some m.cls := findClass_of_methodNamed B.named
  have hlocks := B.notSynchronized
  subst hsz
  have hD := hD0.self (sz := s.heap.size)
  generalize hAe : va_A ws s.heap.size = A at hD hST ⊢
  have hA : ∀ q : Nat, s.heap.size ≤ q → A q := fun q h => by rw [← hAe]; exact Or.inr h
  clear hAe hD0
  have hS : va_S A s.heap s.heap [] := va_S.rf
  have hl := lv_entry ([.ref (a.1 0)]) (n := 4) (Nat.le_of_ble_eq_true rfl)
  rw [lg_entry_eq]
  generalize (lg_sl ([.ref (a.1 0)]) ++ List.replicate (4 - (lg_sl ([.ref (a.1 0)])).length) Slot.unset).toArray = ls at hl ⊢
  have hl : lv_has ls 4 [(0, .ref (a.1 0))] := hl
  unfold PL_refuses at h
  obtain ⟨H, hHe⟩ : ∃ y, y = s.heap := ⟨_, rfl⟩
  rw [← hHe] at hP
  have hS : va_S A s.heap H [] := by rw [hHe]; exact hS
  have hW0 : ∀ (Q : State → Prop), W p l e (headSpec wsL_refuses ({ frames := 7, cells := 0, slots := 0, locals := 154 })).room s m ([.ref (a.1 0)] : List Value).toArray below meth c H [] 0 0 Q (F0 m 0 ls []) → W p l e (headSpec wsL_refuses ({ frames := 7, cells := 0, slots := 0, locals := 154 })).room s m ([.ref (a.1 0)] : List Value).toArray below meth c s.heap [] 0 0 Q (F0 m 0 ls []) := by rw [hHe]; exact fun _ h9 => h9
  refine hW0 _ ?_
  clear hW0 hHe
  generalize ([] : List Loc) = locs at hS ⊢
  refine lv_aload_n hx hb dL_refuses_0 rfl (lv_at hl 0 rfl) ?_
  refine lv_bipush (v := (8 : Int32)) hx hb dL_refuses_1 (by decide) ?_
  obtain ⟨fs9, heA⟩ := hAW.recv
  refine vp_callSi (W.runV (As := [.int (8 : Int32)]) (rest := []) ⟨hx, hb, hml, hown, hts⟩ (a_count l g a V ws hAW (8 : Int32) _ h) (cwV 1 hts gL_refuses_X4_count rfl rfl rfl hdX4_count ⟨(Nat.le_of_ble_eq_true rfl), (Nat.le_of_ble_eq_true rfl)⟩) (preV_R (r := (RX4, TX4, 9)) hK hP (ci := 4) (q0 := 0) rfl heA) rfl rfl hl.1 rfl (lv_room (Nat.le_of_ble_eq_true rfl)) dL_refuses_3 ⟨(Nat.le_of_ble_eq_true rfl), (Nat.le_of_ble_eq_true rfl)⟩) (fun r3_1 h => ?_)
  clear heA fs9
  refine lv_istore_n (lv' := [(1, .int r3_1), (0, .ref (a.1 0))]) hx hb dL_refuses_6 rfl hl (by decide) rfl (fun ls hl => ?_)
  refine lv_aload_n hx hb dL_refuses_7 rfl (lv_at hl 1 rfl) ?_
  refine lv_iconst (v := (0 : Int32)) hx hb dL_refuses_8 (by decide) ?_
  obtain ⟨fs9, heA⟩ := hAW.recv
  refine vp_callSi (W.runV (As := [.int (0 : Int32)]) (rest := []) ⟨hx, hb, hml, hown, hts⟩ (a_count l g a V ws hAW (0 : Int32) _ h) (cwV 1 hts gL_refuses_X4_count rfl rfl rfl hdX4_count ⟨(Nat.le_of_ble_eq_true rfl), (Nat.le_of_ble_eq_true rfl)⟩) (preV_R (r := (RX4, TX4, 9)) hK hP (ci := 4) (q0 := 0) rfl heA) rfl rfl hl.1 rfl (lv_room (Nat.le_of_ble_eq_true rfl)) dL_refuses_9 ⟨(Nat.le_of_ble_eq_true rfl), (Nat.le_of_ble_eq_true rfl)⟩) (fun r9_2 h => ?_)
  clear heA fs9
  refine lv_istore_n (lv' := [(2, .int r9_2), (1, .int r3_1), (0, .ref (a.1 0))]) hx hb dL_refuses_12 rfl hl (by decide) rfl (fun ls hl => ?_)
  refine lv_aload_n hx hb dL_refuses_13 rfl (lv_at hl 2 rfl) ?_
  refine lv_iconst (v := (0 : Int32)) hx hb dL_refuses_14 (by decide) ?_
  obtain ⟨fs9, heA⟩ := hAW.recv
  refine vl_calli (V := V) (va_runV (As := [.int (0 : Int32)]) (rest := []) ⟨hx, hb, hml, hown, hts⟩ (a_addPicture l g a V ws H.size hAW (0 : Int32) _ h) (cwV 1 hts gL_refuses_X4_addPicture rfl rfl rfl hdX4_addPicture ⟨(Nat.le_of_ble_eq_true rfl), (Nat.le_of_ble_eq_true rfl)⟩) (preV_M (r := (RX4, TX4, 9)) hK hP hD (ci := 4) (q0 := 0) rfl heA) rfl rfl hl.1 rfl (lv_room (Nat.le_of_ble_eq_true rfl)) dL_refuses_15 ⟨(Nat.le_of_ble_eq_true rfl), (Nat.le_of_ble_eq_true rfl)⟩) hS (va_freeA hD hS hA) ?_
  clear heA fs9
  clear h hAW hP hD hS
  clear ws H locs
  intro r15_3 V_4 ws H locs hAW hP hD hS h
  refine lv_bipush (v := (-101 : Int32)) hx hb dL_refuses_18 (by decide) ?_
  have tail_1 : ∀ (V_5 : VS) (t_6 : Int32) (ws : va_W) (H : Heap) (locs : List Loc) (ls : Array Slot), PL_refuses_J1 k r3_1 r9_2 V_5 t_6 → AW g a V_5 ws → va_P g.1 vwCl ws H → va_D A ws → va_S A s.heap H locs → lv_has ls 4 [(2, .int r9_2), (1, .int r3_1), (0, .ref (a.1 0))] → W p l e (headSpec wsL_refuses ({ frames := 7, cells := 0, slots := 0, locals := 154 })).room s m ([.ref (a.1 0)] : List Value).toArray below meth c H locs 0 0 (MQ below (va_Qi (fun (r : Int32) (u : va_W) => ∃ V' : VS, AW g a V' u ∧ k r V') (fun u t => PostB g A u t) A) ([.ref (a.1 0)] : List Value).toArray s 0 0 A) (F0 m 177 ls [.int t_6]) := by
    intro V_5 t_6 ws H locs ls h hAW hP hD hS hl
    unfold PL_refuses_J1 at h
    refine lv_istore_n (lv' := [(3, .int t_6), (2, .int r9_2), (1, .int r3_1), (0, .ref (a.1 0))]) hx hb dL_refuses_177 rfl hl (by decide) rfl (fun ls hl => ?_)
    refine lv_iload_n hx hb dL_refuses_178 rfl (lv_at hl 0 rfl) ?_
    have tail_2 : ∀ (V_7 : VS) (t_8 : Int32) (ws : va_W) (H : Heap) (locs : List Loc) (ls : Array Slot), PL_refuses_J2 k r3_1 r9_2 V_7 t_8 → AW g a V_7 ws → va_P g.1 vwCl ws H → va_D A ws → va_S A s.heap H locs → lv_has ls 4 [(3, .int t_6), (2, .int r9_2), (1, .int r3_1), (0, .ref (a.1 0))] → W p l e (headSpec wsL_refuses ({ frames := 7, cells := 0, slots := 0, locals := 154 })).room s m ([.ref (a.1 0)] : List Value).toArray below meth c H locs 0 0 (MQ below (va_Qi (fun (r : Int32) (u : va_W) => ∃ V' : VS, AW g a V' u ∧ k r V') (fun u t => PostB g A u t) A) ([.ref (a.1 0)] : List Value).toArray s 0 0 A) (F0 m 298 ls [.int t_8]) := by
      intro V_7 t_8 ws H locs ls h hAW hP hD hS hl
      unfold PL_refuses_J2 at h
      refine lv_istore_n (lv' := [(3, .int t_8), (2, .int r9_2), (1, .int r3_1), (0, .ref (a.1 0))]) hx hb dL_refuses_298 rfl hl (by decide) rfl (fun ls hl => ?_)
      refine lv_iload_n hx hb dL_refuses_299 rfl (lv_at hl 0 rfl) ?_
      refine lv_if_eq (tgt := 326) hx hb dL_refuses_300 (by decide) (fun c_300_8 => ?_) (fun c_300_8 => ?_)
      · replace h := h.1 c_300_8
        refine lv_iconst (v := (0 : Int32)) hx hb dL_refuses_326 (by decide) ?_
        exact W.zret (v := (0 : Int32)) hx hb hr rfl (fun t ht hW => ⟨⟨(0 : Int32), ws, rfl, ⟨V_7, hAW, h⟩, by rw [ht]; exact hP, hD⟩, hS.F ht⟩) hS.2.2 dL_refuses_327
      · replace h := h.2 c_300_8
        refine lv_aload_n hx hb dL_refuses_303 rfl (lv_at hl 3 rfl) ?_
        refine lv_bipush (v := (8 : Int32)) hx hb dL_refuses_304 (by decide) ?_
        obtain ⟨fs9, heA⟩ := hAW.recv
        refine vp_callSi (W.runV (As := [.int (8 : Int32)]) (rest := []) ⟨hx, hb, hml, hown, hts⟩ (a_count l g a V_7 ws hAW (8 : Int32) _ h) (cwV 1 hts gL_refuses_X4_count rfl rfl rfl hdX4_count ⟨(Nat.le_of_ble_eq_true rfl), (Nat.le_of_ble_eq_true rfl)⟩) (preV_R (r := (RX4, TX4, 9)) hK hP (ci := 4) (q0 := 0) rfl heA) rfl rfl hl.1 rfl (lv_room (Nat.le_of_ble_eq_true rfl)) dL_refuses_306 ⟨(Nat.le_of_ble_eq_true rfl), (Nat.le_of_ble_eq_true rfl)⟩) (fun r306_10 h => ?_)
        clear heA fs9
        refine lv_iload_n hx hb dL_refuses_309 rfl (lv_at hl 2 rfl) ?_
        refine lv_icmp_ne (tgt := 326) hx hb dL_refuses_310 (by decide) (fun c_310_10 => ?_) (fun c_310_10 => ?_)
        · replace h := h.1 c_310_10
          refine lv_iconst (v := (0 : Int32)) hx hb dL_refuses_326 (by decide) ?_
          exact W.zret (v := (0 : Int32)) hx hb hr rfl (fun t ht hW => ⟨⟨(0 : Int32), ws, rfl, ⟨V_7, hAW, h⟩, by rw [ht]; exact hP, hD⟩, hS.F ht⟩) hS.2.2 dL_refuses_327
        · replace h := h.2 c_310_10
          refine lv_aload_n hx hb dL_refuses_313 rfl (lv_at hl 3 rfl) ?_
          refine lv_iconst (v := (0 : Int32)) hx hb dL_refuses_314 (by decide) ?_
          obtain ⟨fs9, heA⟩ := hAW.recv
          refine vp_callSi (W.runV (As := [.int (0 : Int32)]) (rest := []) ⟨hx, hb, hml, hown, hts⟩ (a_count l g a V_7 ws hAW (0 : Int32) _ h) (cwV 1 hts gL_refuses_X4_count rfl rfl rfl hdX4_count ⟨(Nat.le_of_ble_eq_true rfl), (Nat.le_of_ble_eq_true rfl)⟩) (preV_R (r := (RX4, TX4, 9)) hK hP (ci := 4) (q0 := 0) rfl heA) rfl rfl hl.1 rfl (lv_room (Nat.le_of_ble_eq_true rfl)) dL_refuses_315 ⟨(Nat.le_of_ble_eq_true rfl), (Nat.le_of_ble_eq_true rfl)⟩) (fun r315_12 h => ?_)
          clear heA fs9
          refine lv_iload_n hx hb dL_refuses_318 rfl (lv_at hl 1 rfl) ?_
          refine lv_icmp_ne (tgt := 326) hx hb dL_refuses_319 (by decide) (fun c_319_12 => ?_) (fun c_319_12 => ?_)
          · replace h := h.1 c_319_12
            refine lv_iconst (v := (0 : Int32)) hx hb dL_refuses_326 (by decide) ?_
            exact W.zret (v := (0 : Int32)) hx hb hr rfl (fun t ht hW => ⟨⟨(0 : Int32), ws, rfl, ⟨V_7, hAW, h⟩, by rw [ht]; exact hP, hD⟩, hS.F ht⟩) hS.2.2 dL_refuses_327
          · replace h := h.2 c_319_12
            refine lv_iconst (v := (1 : Int32)) hx hb dL_refuses_322 (by decide) ?_
            refine lv_goto (tgt := 327) hx hb dL_refuses_323 (by decide) ?_
            exact W.zret (v := (1 : Int32)) hx hb hr rfl (fun t ht hW => ⟨⟨(1 : Int32), ws, rfl, ⟨V_7, hAW, h⟩, by rw [ht]; exact hP, hD⟩, hS.F ht⟩) hS.2.2 dL_refuses_327
    refine lv_if_eq (tgt := 297) hx hb dL_refuses_179 (by decide) (fun c_179_13 => ?_) (fun c_179_13 => ?_)
    · replace h := h.1 c_179_13
      refine lv_iconst (v := (0 : Int32)) hx hb dL_refuses_297 (by decide) ?_
      exact tail_2 V_5 (0 : Int32) ws H locs ls h hAW hP hD hS (lv_sub hl [0, 1, 2, 3] rfl)
    · replace h := h.2 c_179_13
      refine lv_aload_n hx hb dL_refuses_182 rfl (lv_at hl 3 rfl) ?_
      refine lv_iconst (v := (-1 : Int32)) hx hb dL_refuses_183 (by decide) ?_
      obtain ⟨fs9, heA⟩ := hAW.recv
      refine vp_callSi (W.runV (As := [.int (-1 : Int32)]) (rest := []) ⟨hx, hb, hml, hown, hts⟩ (a_count l g a V_5 ws hAW (-1 : Int32) _ h) (cwV 1 hts gL_refuses_X4_count rfl rfl rfl hdX4_count ⟨(Nat.le_of_ble_eq_true rfl), (Nat.le_of_ble_eq_true rfl)⟩) (preV_R (r := (RX4, TX4, 9)) hK hP (ci := 4) (q0 := 0) rfl heA) rfl rfl hl.1 rfl (lv_room (Nat.le_of_ble_eq_true rfl)) dL_refuses_184 ⟨(Nat.le_of_ble_eq_true rfl), (Nat.le_of_ble_eq_true rfl)⟩) (fun r184_15 h => ?_)
      clear heA fs9
      refine lv_bipush (v := (-101 : Int32)) hx hb dL_refuses_187 (by decide) ?_
      refine lv_icmp_ne (tgt := 297) hx hb dL_refuses_189 (by decide) (fun c_189_15 => ?_) (fun c_189_15 => ?_)
      · replace h := h.1 c_189_15
        refine lv_iconst (v := (0 : Int32)) hx hb dL_refuses_297 (by decide) ?_
        exact tail_2 V_5 (0 : Int32) ws H locs ls h hAW hP hD hS (lv_sub hl [0, 1, 2, 3] rfl)
      · replace h := h.2 c_189_15
        refine lv_aload_n hx hb dL_refuses_192 rfl (lv_at hl 3 rfl) ?_
        refine lv_iconst (v := (-1 : Int32)) hx hb dL_refuses_193 (by decide) ?_
        obtain ⟨fs9, heA⟩ := hAW.recv
        refine vp_callSi (W.runV (As := [.int (-1 : Int32)]) (rest := []) ⟨hx, hb, hml, hown, hts⟩ (a_setting l g a V_5 ws hAW (-1 : Int32) _ h) (cwV 1 hts gL_refuses_X4_setting rfl rfl rfl hdX4_setting ⟨(Nat.le_of_ble_eq_true rfl), (Nat.le_of_ble_eq_true rfl)⟩) (preV_R (r := (RX4, TX4, 9)) hK hP (ci := 4) (q0 := 0) rfl heA) rfl rfl hl.1 rfl (lv_room (Nat.le_of_ble_eq_true rfl)) dL_refuses_194 ⟨(Nat.le_of_ble_eq_true rfl), (Nat.le_of_ble_eq_true rfl)⟩) (fun r194_17 h => ?_)
        clear heA fs9
        refine lv_bipush (v := (-101 : Int32)) hx hb dL_refuses_197 (by decide) ?_
        refine lv_icmp_ne (tgt := 297) hx hb dL_refuses_199 (by decide) (fun c_199_17 => ?_) (fun c_199_17 => ?_)
        · replace h := h.1 c_199_17
          refine lv_iconst (v := (0 : Int32)) hx hb dL_refuses_297 (by decide) ?_
          exact tail_2 V_5 (0 : Int32) ws H locs ls h hAW hP hD hS (lv_sub hl [0, 1, 2, 3] rfl)
        · replace h := h.2 c_199_17
          refine lv_aload_n hx hb dL_refuses_202 rfl (lv_at hl 3 rfl) ?_
          refine lv_iload_n hx hb dL_refuses_203 rfl (lv_at hl 1 rfl) ?_
          refine lv_iconst (v := (0 : Int32)) hx hb dL_refuses_204 (by decide) ?_
          obtain ⟨fs9, heA⟩ := hAW.recv
          refine vp_callSi (W.runV (As := [.int r9_2, .int (0 : Int32)]) (rest := []) ⟨hx, hb, hml, hown, hts⟩ (a_picture l g a V_5 ws hAW r9_2 (0 : Int32) _ h) (cwV 2 hts gL_refuses_X4_picture rfl rfl rfl hdX4_picture ⟨(Nat.le_of_ble_eq_true rfl), (Nat.le_of_ble_eq_true rfl)⟩) (preV_R (r := (RX4, TX4, 9)) hK hP (ci := 4) (q0 := 0) rfl heA) rfl rfl hl.1 rfl (lv_room (Nat.le_of_ble_eq_true rfl)) dL_refuses_205 ⟨(Nat.le_of_ble_eq_true rfl), (Nat.le_of_ble_eq_true rfl)⟩) (fun r205_19 h => ?_)
          clear heA fs9
          refine lv_bipush (v := (-101 : Int32)) hx hb dL_refuses_208 (by decide) ?_
          refine lv_icmp_ne (tgt := 297) hx hb dL_refuses_210 (by decide) (fun c_210_19 => ?_) (fun c_210_19 => ?_)
          · replace h := h.1 c_210_19
            refine lv_iconst (v := (0 : Int32)) hx hb dL_refuses_297 (by decide) ?_
            exact tail_2 V_5 (0 : Int32) ws H locs ls h hAW hP hD hS (lv_sub hl [0, 1, 2, 3] rfl)
          · replace h := h.2 c_210_19
            refine lv_aload_n hx hb dL_refuses_213 rfl (lv_at hl 3 rfl) ?_
            refine lv_iload_n hx hb dL_refuses_214 rfl (lv_at hl 1 rfl) ?_
            refine lv_iconst (v := (0 : Int32)) hx hb dL_refuses_215 (by decide) ?_
            refine lv_iconst (v := (0 : Int32)) hx hb dL_refuses_216 (by decide) ?_
            obtain ⟨fs9, heA⟩ := hAW.recv
            refine vp_callSi (W.runV (As := [.int r9_2, .int (0 : Int32), .int (0 : Int32)]) (rest := []) ⟨hx, hb, hml, hown, hts⟩ (a_color l g a V_5 ws hAW r9_2 (0 : Int32) (0 : Int32) _ h) (cwV 3 hts gL_refuses_X4_color rfl rfl rfl hdX4_color ⟨(Nat.le_of_ble_eq_true rfl), (Nat.le_of_ble_eq_true rfl)⟩) (preV_R (r := (RX4, TX4, 9)) hK hP (ci := 4) (q0 := 0) rfl heA) rfl rfl hl.1 rfl (lv_room (Nat.le_of_ble_eq_true rfl)) dL_refuses_217 ⟨(Nat.le_of_ble_eq_true rfl), (Nat.le_of_ble_eq_true rfl)⟩) (fun r217_21 h => ?_)
            clear heA fs9
            refine lv_bipush (v := (-101 : Int32)) hx hb dL_refuses_220 (by decide) ?_
            refine lv_icmp_ne (tgt := 297) hx hb dL_refuses_222 (by decide) (fun c_222_21 => ?_) (fun c_222_21 => ?_)
            · replace h := h.1 c_222_21
              refine lv_iconst (v := (0 : Int32)) hx hb dL_refuses_297 (by decide) ?_
              exact tail_2 V_5 (0 : Int32) ws H locs ls h hAW hP hD hS (lv_sub hl [0, 1, 2, 3] rfl)
            · replace h := h.2 c_222_21
              refine lv_aload_n hx hb dL_refuses_225 rfl (lv_at hl 3 rfl) ?_
              refine lv_iconst (v := (-1 : Int32)) hx hb dL_refuses_226 (by decide) ?_
              refine lv_iconst (v := (0 : Int32)) hx hb dL_refuses_227 (by decide) ?_
              obtain ⟨fs9, heA⟩ := hAW.recv
              refine vp_callSi (W.runV (As := [.int (-1 : Int32), .int (0 : Int32)]) (rest := []) ⟨hx, hb, hml, hown, hts⟩ (a_broken l g a V_5 ws hAW (-1 : Int32) (0 : Int32) _ h) (cwV 2 hts gL_refuses_X4_broken rfl rfl rfl hdX4_broken ⟨(Nat.le_of_ble_eq_true rfl), (Nat.le_of_ble_eq_true rfl)⟩) (preV_R (r := (RX4, TX4, 9)) hK hP (ci := 4) (q0 := 0) rfl heA) rfl rfl hl.1 rfl (lv_room (Nat.le_of_ble_eq_true rfl)) dL_refuses_228 ⟨(Nat.le_of_ble_eq_true rfl), (Nat.le_of_ble_eq_true rfl)⟩) (fun r228_23 h => ?_)
              clear heA fs9
              refine lv_bipush (v := (-101 : Int32)) hx hb dL_refuses_231 (by decide) ?_
              refine lv_icmp_ne (tgt := 297) hx hb dL_refuses_233 (by decide) (fun c_233_23 => ?_) (fun c_233_23 => ?_)
              · replace h := h.1 c_233_23
                refine lv_iconst (v := (0 : Int32)) hx hb dL_refuses_297 (by decide) ?_
                exact tail_2 V_5 (0 : Int32) ws H locs ls h hAW hP hD hS (lv_sub hl [0, 1, 2, 3] rfl)
              · replace h := h.2 c_233_23
                refine lv_aload_n hx hb dL_refuses_236 rfl (lv_at hl 3 rfl) ?_
                refine lv_iconst (v := (-1 : Int32)) hx hb dL_refuses_237 (by decide) ?_
                refine lv_iconst (v := (0 : Int32)) hx hb dL_refuses_238 (by decide) ?_
                refine lv_iconst (v := (0 : Int32)) hx hb dL_refuses_239 (by decide) ?_
                obtain ⟨fs9, heA⟩ := hAW.recv
                refine vp_callSi (W.runV (As := [.int (-1 : Int32), .int (0 : Int32), .int (0 : Int32)]) (rest := []) ⟨hx, hb, hml, hown, hts⟩ (a_place l g a V_5 ws hAW (-1 : Int32) (0 : Int32) (0 : Int32) _ h) (cwV 3 hts gL_refuses_X4_place rfl rfl rfl hdX4_place ⟨(Nat.le_of_ble_eq_true rfl), (Nat.le_of_ble_eq_true rfl)⟩) (preV_R (r := (RX4, TX4, 9)) hK hP (ci := 4) (q0 := 0) rfl heA) rfl rfl hl.1 rfl (lv_room (Nat.le_of_ble_eq_true rfl)) dL_refuses_240 ⟨(Nat.le_of_ble_eq_true rfl), (Nat.le_of_ble_eq_true rfl)⟩) (fun r240_25 h => ?_)
                clear heA fs9
                refine lv_bipush (v := (-101 : Int32)) hx hb dL_refuses_243 (by decide) ?_
                refine lv_icmp_ne (tgt := 297) hx hb dL_refuses_245 (by decide) (fun c_245_25 => ?_) (fun c_245_25 => ?_)
                · replace h := h.1 c_245_25
                  refine lv_iconst (v := (0 : Int32)) hx hb dL_refuses_297 (by decide) ?_
                  exact tail_2 V_5 (0 : Int32) ws H locs ls h hAW hP hD hS (lv_sub hl [0, 1, 2, 3] rfl)
                · replace h := h.2 c_245_25
                  refine lv_aload_n hx hb dL_refuses_248 rfl (lv_at hl 3 rfl) ?_
                  refine lv_iload_n hx hb dL_refuses_249 rfl (lv_at hl 1 rfl) ?_
                  refine lv_iconst (v := (0 : Int32)) hx hb dL_refuses_250 (by decide) ?_
                  obtain ⟨fs9, heA⟩ := hAW.recv
                  refine vp_callSi (W.runV (As := [.int r9_2, .int (0 : Int32)]) (rest := []) ⟨hx, hb, hml, hown, hts⟩ (a_columnAt l g a V_5 ws hAW r9_2 (0 : Int32) _ h) (cwV 2 hts gL_refuses_X4_columnAt rfl rfl rfl hdX4_columnAt ⟨(Nat.le_of_ble_eq_true rfl), (Nat.le_of_ble_eq_true rfl)⟩) (preV_R (r := (RX4, TX4, 9)) hK hP (ci := 4) (q0 := 0) rfl heA) rfl rfl hl.1 rfl (lv_room (Nat.le_of_ble_eq_true rfl)) dL_refuses_251 ⟨(Nat.le_of_ble_eq_true rfl), (Nat.le_of_ble_eq_true rfl)⟩) (fun r251_27 h => ?_)
                  clear heA fs9
                  refine lv_bipush (v := (-101 : Int32)) hx hb dL_refuses_254 (by decide) ?_
                  refine lv_icmp_ne (tgt := 297) hx hb dL_refuses_256 (by decide) (fun c_256_27 => ?_) (fun c_256_27 => ?_)
                  · replace h := h.1 c_256_27
                    refine lv_iconst (v := (0 : Int32)) hx hb dL_refuses_297 (by decide) ?_
                    exact tail_2 V_5 (0 : Int32) ws H locs ls h hAW hP hD hS (lv_sub hl [0, 1, 2, 3] rfl)
                  · replace h := h.2 c_256_27
                    refine lv_aload_n hx hb dL_refuses_259 rfl (lv_at hl 3 rfl) ?_
                    refine lv_sipush (v := (201 : Int32)) hx hb dL_refuses_260 (by decide) ?_
                    obtain ⟨fs9, heA⟩ := hAW.recv
                    refine vl_calli (V := V_5) (va_runV (As := [.int (201 : Int32)]) (rest := []) ⟨hx, hb, hml, hown, hts⟩ (a_gaps l g a V_5 ws H.size hAW (201 : Int32) _ h) (cwV 1 hts gL_refuses_X4_gaps rfl rfl rfl hdX4_gaps ⟨(Nat.le_of_ble_eq_true rfl), (Nat.le_of_ble_eq_true rfl)⟩) (preV_M (r := (RX4, TX4, 9)) hK hP hD (ci := 4) (q0 := 0) rfl heA) rfl rfl hl.1 rfl (lv_room (Nat.le_of_ble_eq_true rfl)) dL_refuses_263 ⟨(Nat.le_of_ble_eq_true rfl), (Nat.le_of_ble_eq_true rfl)⟩) hS (va_freeA hD hS hA) ?_
                    clear heA fs9
                    clear h hAW hP hD hS
                    clear ws H locs
                    intro r263_29 V_30 ws H locs hAW hP hD hS h
                    refine lv_bipush (v := (-101 : Int32)) hx hb dL_refuses_266 (by decide) ?_
                    refine lv_icmp_ne (tgt := 297) hx hb dL_refuses_268 (by decide) (fun c_268_30 => ?_) (fun c_268_30 => ?_)
                    · replace h := h.1 c_268_30
                      refine lv_iconst (v := (0 : Int32)) hx hb dL_refuses_297 (by decide) ?_
                      exact tail_2 V_30 (0 : Int32) ws H locs ls h hAW hP hD hS (lv_sub hl [0, 1, 2, 3] rfl)
                    · replace h := h.2 c_268_30
                      refine lv_aload_n hx hb dL_refuses_271 rfl (lv_at hl 3 rfl) ?_
                      refine lv_bipush (v := (41 : Int32)) hx hb dL_refuses_272 (by decide) ?_
                      obtain ⟨fs9, heA⟩ := hAW.recv
                      refine vl_calli (V := V_30) (va_runV (As := [.int (41 : Int32)]) (rest := []) ⟨hx, hb, hml, hown, hts⟩ (a_bestSpeed l g a V_30 ws H.size hAW (41 : Int32) _ h) (cwV 1 hts gL_refuses_X4_bestSpeed rfl rfl rfl hdX4_bestSpeed ⟨(Nat.le_of_ble_eq_true rfl), (Nat.le_of_ble_eq_true rfl)⟩) (preV_MSg (r := (RX4, TX4, 9)) hK hP hD hST hS (va_freeA hD hS hA) (ci := 4) (q0 := 0) rfl heA) rfl rfl hl.1 rfl (lv_room (Nat.le_of_ble_eq_true rfl)) dL_refuses_274 ⟨(Nat.le_of_ble_eq_true rfl), (Nat.le_of_ble_eq_true rfl)⟩) hS (va_freeA hD hS hA) ?_
                      clear heA fs9
                      clear h hAW hP hD hS
                      clear ws H locs
                      intro r274_32 V_33 ws H locs hAW hP hD hS h
                      refine lv_bipush (v := (-101 : Int32)) hx hb dL_refuses_277 (by decide) ?_
                      refine lv_icmp_ne (tgt := 297) hx hb dL_refuses_279 (by decide) (fun c_279_33 => ?_) (fun c_279_33 => ?_)
                      · replace h := h.1 c_279_33
                        refine lv_iconst (v := (0 : Int32)) hx hb dL_refuses_297 (by decide) ?_
                        exact tail_2 V_33 (0 : Int32) ws H locs ls h hAW hP hD hS (lv_sub hl [0, 1, 2, 3] rfl)
                      · replace h := h.2 c_279_33
                        refine lv_aload_n hx hb dL_refuses_282 rfl (lv_at hl 3 rfl) ?_
                        refine lv_iload_n hx hb dL_refuses_283 rfl (lv_at hl 1 rfl) ?_
                        refine lv_iconst (v := (0 : Int32)) hx hb dL_refuses_284 (by decide) ?_
                        obtain ⟨fs9, heA⟩ := hAW.recv
                        refine vp_callSi (W.runV (As := [.int r9_2, .int (0 : Int32)]) (rest := []) ⟨hx, hb, hml, hown, hts⟩ (a_meetings l g a V_33 ws hAW r9_2 (0 : Int32) _ h) (cwV 2 hts gL_refuses_X4_meetings rfl rfl rfl hdX4_meetings ⟨(Nat.le_of_ble_eq_true rfl), (Nat.le_of_ble_eq_true rfl)⟩) (preV_R (r := (RX4, TX4, 9)) hK hP (ci := 4) (q0 := 0) rfl heA) rfl rfl hl.1 rfl (lv_room (Nat.le_of_ble_eq_true rfl)) dL_refuses_285 ⟨(Nat.le_of_ble_eq_true rfl), (Nat.le_of_ble_eq_true rfl)⟩) (fun r285_35 h => ?_)
                        clear heA fs9
                        refine lv_bipush (v := (-101 : Int32)) hx hb dL_refuses_288 (by decide) ?_
                        refine lv_icmp_ne (tgt := 297) hx hb dL_refuses_290 (by decide) (fun c_290_35 => ?_) (fun c_290_35 => ?_)
                        · replace h := h.1 c_290_35
                          refine lv_iconst (v := (0 : Int32)) hx hb dL_refuses_297 (by decide) ?_
                          exact tail_2 V_33 (0 : Int32) ws H locs ls h hAW hP hD hS (lv_sub hl [0, 1, 2, 3] rfl)
                        · replace h := h.2 c_290_35
                          refine lv_iconst (v := (1 : Int32)) hx hb dL_refuses_293 (by decide) ?_
                          refine lv_goto (tgt := 298) hx hb dL_refuses_294 (by decide) ?_
                          exact tail_2 V_33 (1 : Int32) ws H locs ls h hAW hP hD hS (lv_sub hl [0, 1, 2, 3] rfl)
  refine lv_icmp_ne (tgt := 176) hx hb dL_refuses_20 (by decide) (fun c_20_36 => ?_) (fun c_20_36 => ?_)
  · replace h := h.1 c_20_36
    refine lv_iconst (v := (0 : Int32)) hx hb dL_refuses_176 (by decide) ?_
    exact tail_1 V_4 (0 : Int32) ws H locs ls h hAW hP hD hS (lv_sub hl [0, 1, 2] rfl)
  · replace h := h.2 c_20_36
    refine lv_aload_n hx hb dL_refuses_23 rfl (lv_at hl 2 rfl) ?_
    refine lv_bipush (v := (41 : Int32)) hx hb dL_refuses_24 (by decide) ?_
    obtain ⟨fs9, heA⟩ := hAW.recv
    refine vl_calli (V := V_4) (va_runV (As := [.int (41 : Int32)]) (rest := []) ⟨hx, hb, hml, hown, hts⟩ (a_addPicture l g a V_4 ws H.size hAW (41 : Int32) _ h) (cwV 1 hts gL_refuses_X4_addPicture rfl rfl rfl hdX4_addPicture ⟨(Nat.le_of_ble_eq_true rfl), (Nat.le_of_ble_eq_true rfl)⟩) (preV_M (r := (RX4, TX4, 9)) hK hP hD (ci := 4) (q0 := 0) rfl heA) rfl rfl hl.1 rfl (lv_room (Nat.le_of_ble_eq_true rfl)) dL_refuses_26 ⟨(Nat.le_of_ble_eq_true rfl), (Nat.le_of_ble_eq_true rfl)⟩) hS (va_freeA hD hS hA) ?_
    clear heA fs9
    clear h hAW hP hD hS
    clear ws H locs
    intro r26_38 V_39 ws H locs hAW hP hD hS h
    refine lv_bipush (v := (-101 : Int32)) hx hb dL_refuses_29 (by decide) ?_
    refine lv_icmp_ne (tgt := 176) hx hb dL_refuses_31 (by decide) (fun c_31_39 => ?_) (fun c_31_39 => ?_)
    · replace h := h.1 c_31_39
      refine lv_iconst (v := (0 : Int32)) hx hb dL_refuses_176 (by decide) ?_
      exact tail_1 V_39 (0 : Int32) ws H locs ls h hAW hP hD hS (lv_sub hl [0, 1, 2] rfl)
    · replace h := h.2 c_31_39
      refine lv_aload_n hx hb dL_refuses_34 rfl (lv_at hl 2 rfl) ?_
      refine lv_iload_n hx hb dL_refuses_35 rfl (lv_at hl 0 rfl) ?_
      refine lv_iconst (v := (0 : Int32)) hx hb dL_refuses_36 (by decide) ?_
      refine lv_iconst (v := (0 : Int32)) hx hb dL_refuses_37 (by decide) ?_
      refine lv_iconst (v := (0 : Int32)) hx hb dL_refuses_38 (by decide) ?_
      obtain ⟨fs9, heA⟩ := hAW.recv
      refine vl_calli (V := V_39) (va_runV (As := [.int r9_2, .int (0 : Int32), .int (0 : Int32), .int (0 : Int32)]) (rest := []) ⟨hx, hb, hml, hown, hts⟩ (a_paint l g a V_39 ws H.size hAW r9_2 (0 : Int32) (0 : Int32) (0 : Int32) _ h) (cwV 4 hts gL_refuses_X4_paint rfl rfl rfl hdX4_paint ⟨(Nat.le_of_ble_eq_true rfl), (Nat.le_of_ble_eq_true rfl)⟩) (preV_M (r := (RX4, TX4, 9)) hK hP hD (ci := 4) (q0 := 0) rfl heA) rfl rfl hl.1 rfl (lv_room (Nat.le_of_ble_eq_true rfl)) dL_refuses_39 ⟨(Nat.le_of_ble_eq_true rfl), (Nat.le_of_ble_eq_true rfl)⟩) hS (va_freeA hD hS hA) ?_
      clear heA fs9
      clear h hAW hP hD hS
      clear ws H locs
      intro r39_41 V_42 ws H locs hAW hP hD hS h
      refine lv_bipush (v := (-101 : Int32)) hx hb dL_refuses_42 (by decide) ?_
      refine lv_icmp_ne (tgt := 176) hx hb dL_refuses_44 (by decide) (fun c_44_42 => ?_) (fun c_44_42 => ?_)
      · replace h := h.1 c_44_42
        refine lv_iconst (v := (0 : Int32)) hx hb dL_refuses_176 (by decide) ?_
        exact tail_1 V_42 (0 : Int32) ws H locs ls h hAW hP hD hS (lv_sub hl [0, 1, 2] rfl)
      · replace h := h.2 c_44_42
        refine lv_aload_n hx hb dL_refuses_47 rfl (lv_at hl 2 rfl) ?_
        refine lv_iload_n hx hb dL_refuses_48 rfl (lv_at hl 0 rfl) ?_
        refine lv_iconst (v := (0 : Int32)) hx hb dL_refuses_49 (by decide) ?_
        refine lv_iconst (v := (1 : Int32)) hx hb dL_refuses_50 (by decide) ?_
        obtain ⟨fs9, heA⟩ := hAW.recv
        refine vl_calli (V := V_42) (va_runV (As := [.int r9_2, .int (0 : Int32), .int (1 : Int32)]) (rest := []) ⟨hx, hb, hml, hown, hts⟩ (a_setPlace l g a V_42 ws H.size hAW r9_2 (0 : Int32) (1 : Int32) _ h) (cwV 3 hts gL_refuses_X4_setPlace rfl rfl rfl hdX4_setPlace ⟨(Nat.le_of_ble_eq_true rfl), (Nat.le_of_ble_eq_true rfl)⟩) (preV_M (r := (RX4, TX4, 9)) hK hP hD (ci := 4) (q0 := 0) rfl heA) rfl rfl hl.1 rfl (lv_room (Nat.le_of_ble_eq_true rfl)) dL_refuses_51 ⟨(Nat.le_of_ble_eq_true rfl), (Nat.le_of_ble_eq_true rfl)⟩) hS (va_freeA hD hS hA) ?_
        clear heA fs9
        clear h hAW hP hD hS
        clear ws H locs
        intro r51_44 V_45 ws H locs hAW hP hD hS h
        refine lv_bipush (v := (-101 : Int32)) hx hb dL_refuses_54 (by decide) ?_
        refine lv_icmp_ne (tgt := 176) hx hb dL_refuses_56 (by decide) (fun c_56_45 => ?_) (fun c_56_45 => ?_)
        · replace h := h.1 c_56_45
          refine lv_iconst (v := (0 : Int32)) hx hb dL_refuses_176 (by decide) ?_
          exact tail_1 V_45 (0 : Int32) ws H locs ls h hAW hP hD hS (lv_sub hl [0, 1, 2] rfl)
        · replace h := h.2 c_56_45
          refine lv_aload_n hx hb dL_refuses_59 rfl (lv_at hl 2 rfl) ?_
          refine lv_iconst (v := (-1 : Int32)) hx hb dL_refuses_60 (by decide) ?_
          refine lv_iconst (v := (0 : Int32)) hx hb dL_refuses_61 (by decide) ?_
          obtain ⟨fs9, heA⟩ := hAW.recv
          refine vl_calli (V := V_45) (va_runV (As := [.int (-1 : Int32), .int (0 : Int32)]) (rest := []) ⟨hx, hb, hml, hown, hts⟩ (a_setKind l g a V_45 ws H.size hAW (-1 : Int32) (0 : Int32) _ h) (cwV 2 hts gL_refuses_X4_setKind rfl rfl rfl hdX4_setKind ⟨(Nat.le_of_ble_eq_true rfl), (Nat.le_of_ble_eq_true rfl)⟩) (preV_M (r := (RX4, TX4, 9)) hK hP hD (ci := 4) (q0 := 0) rfl heA) rfl rfl hl.1 rfl (lv_room (Nat.le_of_ble_eq_true rfl)) dL_refuses_62 ⟨(Nat.le_of_ble_eq_true rfl), (Nat.le_of_ble_eq_true rfl)⟩) hS (va_freeA hD hS hA) ?_
          clear heA fs9
          clear h hAW hP hD hS
          clear ws H locs
          intro r62_47 V_48 ws H locs hAW hP hD hS h
          refine lv_bipush (v := (-101 : Int32)) hx hb dL_refuses_65 (by decide) ?_
          refine lv_icmp_ne (tgt := 176) hx hb dL_refuses_67 (by decide) (fun c_67_48 => ?_) (fun c_67_48 => ?_)
          · replace h := h.1 c_67_48
            refine lv_iconst (v := (0 : Int32)) hx hb dL_refuses_176 (by decide) ?_
            exact tail_1 V_48 (0 : Int32) ws H locs ls h hAW hP hD hS (lv_sub hl [0, 1, 2] rfl)
          · replace h := h.2 c_67_48
            refine lv_aload_n hx hb dL_refuses_70 rfl (lv_at hl 2 rfl) ?_
            refine lv_iload_n hx hb dL_refuses_71 rfl (lv_at hl 0 rfl) ?_
            obtain ⟨fs9, heA⟩ := hAW.recv
            refine vl_calli (V := V_48) (va_runV (As := [.int r9_2]) (rest := []) ⟨hx, hb, hml, hown, hts⟩ (a_load l g a V_48 ws H.size hAW r9_2 _ h) (cwV 1 hts gL_refuses_X4_load rfl rfl rfl hdX4_load ⟨(Nat.le_of_ble_eq_true rfl), (Nat.le_of_ble_eq_true rfl)⟩) (preV_M (r := (RX4, TX4, 9)) hK hP hD (ci := 4) (q0 := 0) rfl heA) rfl rfl hl.1 rfl (lv_room (Nat.le_of_ble_eq_true rfl)) dL_refuses_72 ⟨(Nat.le_of_ble_eq_true rfl), (Nat.le_of_ble_eq_true rfl)⟩) hS (va_freeA hD hS hA) ?_
            clear heA fs9
            clear h hAW hP hD hS
            clear ws H locs
            intro r72_50 V_51 ws H locs hAW hP hD hS h
            refine lv_bipush (v := (-101 : Int32)) hx hb dL_refuses_75 (by decide) ?_
            refine lv_icmp_ne (tgt := 176) hx hb dL_refuses_77 (by decide) (fun c_77_51 => ?_) (fun c_77_51 => ?_)
            · replace h := h.1 c_77_51
              refine lv_iconst (v := (0 : Int32)) hx hb dL_refuses_176 (by decide) ?_
              exact tail_1 V_51 (0 : Int32) ws H locs ls h hAW hP hD hS (lv_sub hl [0, 1, 2] rfl)
            · replace h := h.2 c_77_51
              refine lv_aload_n hx hb dL_refuses_80 rfl (lv_at hl 2 rfl) ?_
              refine lv_iconst (v := (2 : Int32)) hx hb dL_refuses_81 (by decide) ?_
              obtain ⟨fs9, heA⟩ := hAW.recv
              refine vl_calli (V := V_51) (va_runV (As := [.int (2 : Int32)]) (rest := []) ⟨hx, hb, hml, hown, hts⟩ (a_setSecondArm l g a V_51 ws H.size hAW (2 : Int32) _ h) (cwV 1 hts gL_refuses_X4_setSecondArm rfl rfl rfl hdX4_setSecondArm ⟨(Nat.le_of_ble_eq_true rfl), (Nat.le_of_ble_eq_true rfl)⟩) (preV_M (r := (RX4, TX4, 9)) hK hP hD (ci := 4) (q0 := 0) rfl heA) rfl rfl hl.1 rfl (lv_room (Nat.le_of_ble_eq_true rfl)) dL_refuses_82 ⟨(Nat.le_of_ble_eq_true rfl), (Nat.le_of_ble_eq_true rfl)⟩) hS (va_freeA hD hS hA) ?_
              clear heA fs9
              clear h hAW hP hD hS
              clear ws H locs
              intro r82_53 V_54 ws H locs hAW hP hD hS h
              refine lv_bipush (v := (-101 : Int32)) hx hb dL_refuses_85 (by decide) ?_
              refine lv_icmp_ne (tgt := 176) hx hb dL_refuses_87 (by decide) (fun c_87_54 => ?_) (fun c_87_54 => ?_)
              · replace h := h.1 c_87_54
                refine lv_iconst (v := (0 : Int32)) hx hb dL_refuses_176 (by decide) ?_
                exact tail_1 V_54 (0 : Int32) ws H locs ls h hAW hP hD hS (lv_sub hl [0, 1, 2] rfl)
              · replace h := h.2 c_87_54
                refine lv_aload_n hx hb dL_refuses_90 rfl (lv_at hl 2 rfl) ?_
                refine lv_iconst (v := (0 : Int32)) hx hb dL_refuses_91 (by decide) ?_
                refine lv_iconst (v := (-1 : Int32)) hx hb dL_refuses_92 (by decide) ?_
                refine lv_iconst (v := (0 : Int32)) hx hb dL_refuses_93 (by decide) ?_
                obtain ⟨fs9, heA⟩ := hAW.recv
                refine vl_calli (V := V_54) (va_runV (As := [.int (0 : Int32), .int (-1 : Int32), .int (0 : Int32)]) (rest := []) ⟨hx, hb, hml, hown, hts⟩ (a_setBroken l g a V_54 ws H.size hAW (0 : Int32) (-1 : Int32) (0 : Int32) _ h) (cwV 3 hts gL_refuses_X4_setBroken rfl rfl rfl hdX4_setBroken ⟨(Nat.le_of_ble_eq_true rfl), (Nat.le_of_ble_eq_true rfl)⟩) (preV_M (r := (RX4, TX4, 9)) hK hP hD (ci := 4) (q0 := 0) rfl heA) rfl rfl hl.1 rfl (lv_room (Nat.le_of_ble_eq_true rfl)) dL_refuses_94 ⟨(Nat.le_of_ble_eq_true rfl), (Nat.le_of_ble_eq_true rfl)⟩) hS (va_freeA hD hS hA) ?_
                clear heA fs9
                clear h hAW hP hD hS
                clear ws H locs
                intro r94_56 V_57 ws H locs hAW hP hD hS h
                refine lv_bipush (v := (-101 : Int32)) hx hb dL_refuses_97 (by decide) ?_
                refine lv_icmp_ne (tgt := 176) hx hb dL_refuses_99 (by decide) (fun c_99_57 => ?_) (fun c_99_57 => ?_)
                · replace h := h.1 c_99_57
                  refine lv_iconst (v := (0 : Int32)) hx hb dL_refuses_176 (by decide) ?_
                  exact tail_1 V_57 (0 : Int32) ws H locs ls h hAW hP hD hS (lv_sub hl [0, 1, 2] rfl)
                · replace h := h.2 c_99_57
                  refine lv_aload_n hx hb dL_refuses_102 rfl (lv_at hl 2 rfl) ?_
                  refine lv_iconst (v := (0 : Int32)) hx hb dL_refuses_103 (by decide) ?_
                  refine lv_bipush (v := (-61 : Int32)) hx hb dL_refuses_104 (by decide) ?_
                  obtain ⟨fs9, heA⟩ := hAW.recv
                  refine vl_calli (V := V_57) (va_runV (As := [.int (0 : Int32), .int (-61 : Int32)]) (rest := []) ⟨hx, hb, hml, hown, hts⟩ (a_set l g a V_57 ws H.size hAW (0 : Int32) (-61 : Int32) _ h) (cwV 2 hts gL_refuses_X4_set rfl rfl rfl hdX4_set ⟨(Nat.le_of_ble_eq_true rfl), (Nat.le_of_ble_eq_true rfl)⟩) (preV_MSg (r := (RX4, TX4, 9)) hK hP hD hST hS (va_freeA hD hS hA) (ci := 4) (q0 := 0) rfl heA) rfl rfl hl.1 rfl (lv_room (Nat.le_of_ble_eq_true rfl)) dL_refuses_106 ⟨(Nat.le_of_ble_eq_true rfl), (Nat.le_of_ble_eq_true rfl)⟩) hS (va_freeA hD hS hA) ?_
                  clear heA fs9
                  clear h hAW hP hD hS
                  clear ws H locs
                  intro r106_59 V_60 ws H locs hAW hP hD hS h
                  refine lv_bipush (v := (-101 : Int32)) hx hb dL_refuses_109 (by decide) ?_
                  refine lv_icmp_ne (tgt := 176) hx hb dL_refuses_111 (by decide) (fun c_111_60 => ?_) (fun c_111_60 => ?_)
                  · replace h := h.1 c_111_60
                    refine lv_iconst (v := (0 : Int32)) hx hb dL_refuses_176 (by decide) ?_
                    exact tail_1 V_60 (0 : Int32) ws H locs ls h hAW hP hD hS (lv_sub hl [0, 1, 2] rfl)
                  · replace h := h.2 c_111_60
                    refine lv_aload_n hx hb dL_refuses_114 rfl (lv_at hl 2 rfl) ?_
                    refine lv_iconst (v := (1 : Int32)) hx hb dL_refuses_115 (by decide) ?_
                    refine lv_iconst (v := (0 : Int32)) hx hb dL_refuses_116 (by decide) ?_
                    obtain ⟨fs9, heA⟩ := hAW.recv
                    refine vl_calli (V := V_60) (va_runV (As := [.int (1 : Int32), .int (0 : Int32)]) (rest := []) ⟨hx, hb, hml, hown, hts⟩ (a_set l g a V_60 ws H.size hAW (1 : Int32) (0 : Int32) _ h) (cwV 2 hts gL_refuses_X4_set rfl rfl rfl hdX4_set ⟨(Nat.le_of_ble_eq_true rfl), (Nat.le_of_ble_eq_true rfl)⟩) (preV_MSg (r := (RX4, TX4, 9)) hK hP hD hST hS (va_freeA hD hS hA) (ci := 4) (q0 := 0) rfl heA) rfl rfl hl.1 rfl (lv_room (Nat.le_of_ble_eq_true rfl)) dL_refuses_117 ⟨(Nat.le_of_ble_eq_true rfl), (Nat.le_of_ble_eq_true rfl)⟩) hS (va_freeA hD hS hA) ?_
                    clear heA fs9
                    clear h hAW hP hD hS
                    clear ws H locs
                    intro r117_62 V_63 ws H locs hAW hP hD hS h
                    refine lv_bipush (v := (-101 : Int32)) hx hb dL_refuses_120 (by decide) ?_
                    refine lv_icmp_ne (tgt := 176) hx hb dL_refuses_122 (by decide) (fun c_122_63 => ?_) (fun c_122_63 => ?_)
                    · replace h := h.1 c_122_63
                      refine lv_iconst (v := (0 : Int32)) hx hb dL_refuses_176 (by decide) ?_
                      exact tail_1 V_63 (0 : Int32) ws H locs ls h hAW hP hD hS (lv_sub hl [0, 1, 2] rfl)
                    · replace h := h.2 c_122_63
                      refine lv_aload_n hx hb dL_refuses_125 rfl (lv_at hl 2 rfl) ?_
                      refine lv_iconst (v := (3 : Int32)) hx hb dL_refuses_126 (by decide) ?_
                      refine lv_iconst (v := (0 : Int32)) hx hb dL_refuses_127 (by decide) ?_
                      obtain ⟨fs9, heA⟩ := hAW.recv
                      refine vl_calli (V := V_63) (va_runV (As := [.int (3 : Int32), .int (0 : Int32)]) (rest := []) ⟨hx, hb, hml, hown, hts⟩ (a_set l g a V_63 ws H.size hAW (3 : Int32) (0 : Int32) _ h) (cwV 2 hts gL_refuses_X4_set rfl rfl rfl hdX4_set ⟨(Nat.le_of_ble_eq_true rfl), (Nat.le_of_ble_eq_true rfl)⟩) (preV_MSg (r := (RX4, TX4, 9)) hK hP hD hST hS (va_freeA hD hS hA) (ci := 4) (q0 := 0) rfl heA) rfl rfl hl.1 rfl (lv_room (Nat.le_of_ble_eq_true rfl)) dL_refuses_128 ⟨(Nat.le_of_ble_eq_true rfl), (Nat.le_of_ble_eq_true rfl)⟩) hS (va_freeA hD hS hA) ?_
                      clear heA fs9
                      clear h hAW hP hD hS
                      clear ws H locs
                      intro r128_65 V_66 ws H locs hAW hP hD hS h
                      refine lv_bipush (v := (-101 : Int32)) hx hb dL_refuses_131 (by decide) ?_
                      refine lv_icmp_ne (tgt := 176) hx hb dL_refuses_133 (by decide) (fun c_133_66 => ?_) (fun c_133_66 => ?_)
                      · replace h := h.1 c_133_66
                        refine lv_iconst (v := (0 : Int32)) hx hb dL_refuses_176 (by decide) ?_
                        exact tail_1 V_66 (0 : Int32) ws H locs ls h hAW hP hD hS (lv_sub hl [0, 1, 2] rfl)
                      · replace h := h.2 c_133_66
                        refine lv_aload_n hx hb dL_refuses_136 rfl (lv_at hl 2 rfl) ?_
                        refine lv_iconst (v := (2 : Int32)) hx hb dL_refuses_137 (by decide) ?_
                        refine lv_sipush (v := (10000 : Int32)) hx hb dL_refuses_138 (by decide) ?_
                        obtain ⟨fs9, heA⟩ := hAW.recv
                        refine vl_calli (V := V_66) (va_runV (As := [.int (2 : Int32), .int (10000 : Int32)]) (rest := []) ⟨hx, hb, hml, hown, hts⟩ (a_set l g a V_66 ws H.size hAW (2 : Int32) (10000 : Int32) _ h) (cwV 2 hts gL_refuses_X4_set rfl rfl rfl hdX4_set ⟨(Nat.le_of_ble_eq_true rfl), (Nat.le_of_ble_eq_true rfl)⟩) (preV_MSg (r := (RX4, TX4, 9)) hK hP hD hST hS (va_freeA hD hS hA) (ci := 4) (q0 := 0) rfl heA) rfl rfl hl.1 rfl (lv_room (Nat.le_of_ble_eq_true rfl)) dL_refuses_141 ⟨(Nat.le_of_ble_eq_true rfl), (Nat.le_of_ble_eq_true rfl)⟩) hS (va_freeA hD hS hA) ?_
                        clear heA fs9
                        clear h hAW hP hD hS
                        clear ws H locs
                        intro r141_68 V_69 ws H locs hAW hP hD hS h
                        refine lv_bipush (v := (-101 : Int32)) hx hb dL_refuses_144 (by decide) ?_
                        refine lv_icmp_ne (tgt := 176) hx hb dL_refuses_146 (by decide) (fun c_146_69 => ?_) (fun c_146_69 => ?_)
                        · replace h := h.1 c_146_69
                          refine lv_iconst (v := (0 : Int32)) hx hb dL_refuses_176 (by decide) ?_
                          exact tail_1 V_69 (0 : Int32) ws H locs ls h hAW hP hD hS (lv_sub hl [0, 1, 2] rfl)
                        · replace h := h.2 c_146_69
                          refine lv_aload_n hx hb dL_refuses_149 rfl (lv_at hl 2 rfl) ?_
                          refine lv_bipush (v := (101 : Int32)) hx hb dL_refuses_150 (by decide) ?_
                          obtain ⟨fs9, heA⟩ := hAW.recv
                          refine vl_calli (V := V_69) (va_runV (As := [.int (101 : Int32)]) (rest := []) ⟨hx, hb, hml, hown, hts⟩ (a_run l g a V_69 ws H.size hAW (101 : Int32) _ h) (cwV 1 hts gL_refuses_X4_run rfl rfl rfl hdX4_run ⟨(Nat.le_of_ble_eq_true rfl), (Nat.le_of_ble_eq_true rfl)⟩) (preV_M (r := (RX4, TX4, 9)) hK hP hD (ci := 4) (q0 := 0) rfl heA) rfl rfl hl.1 rfl (lv_room (Nat.le_of_ble_eq_true rfl)) dL_refuses_152 ⟨(Nat.le_of_ble_eq_true rfl), (Nat.le_of_ble_eq_true rfl)⟩) hS (va_freeA hD hS hA) ?_
                          clear heA fs9
                          clear h hAW hP hD hS
                          clear ws H locs
                          intro r152_71 V_72 ws H locs hAW hP hD hS h
                          refine lv_bipush (v := (-101 : Int32)) hx hb dL_refuses_155 (by decide) ?_
                          refine lv_icmp_ne (tgt := 176) hx hb dL_refuses_157 (by decide) (fun c_157_72 => ?_) (fun c_157_72 => ?_)
                          · replace h := h.1 c_157_72
                            refine lv_iconst (v := (0 : Int32)) hx hb dL_refuses_176 (by decide) ?_
                            exact tail_1 V_72 (0 : Int32) ws H locs ls h hAW hP hD hS (lv_sub hl [0, 1, 2] rfl)
                          · replace h := h.2 c_157_72
                            refine lv_aload_n hx hb dL_refuses_160 rfl (lv_at hl 2 rfl) ?_
                            refine lv_sipush (v := (256 : Int32)) hx hb dL_refuses_161 (by decide) ?_
                            obtain ⟨fs9, heA⟩ := hAW.recv
                            refine vl_calli (V := V_72) (va_runV (As := [.int (256 : Int32)]) (rest := []) ⟨hx, hb, hml, hown, hts⟩ (a_append l g a V_72 ws H.size hAW (256 : Int32) _ h) (cwV 1 hts gL_refuses_X4_append rfl rfl rfl hdX4_append ⟨(Nat.le_of_ble_eq_true rfl), (Nat.le_of_ble_eq_true rfl)⟩) (preV_M (r := (RX4, TX4, 9)) hK hP hD (ci := 4) (q0 := 0) rfl heA) rfl rfl hl.1 rfl (lv_room (Nat.le_of_ble_eq_true rfl)) dL_refuses_164 ⟨(Nat.le_of_ble_eq_true rfl), (Nat.le_of_ble_eq_true rfl)⟩) hS (va_freeA hD hS hA) ?_
                            clear heA fs9
                            clear h hAW hP hD hS
                            clear ws H locs
                            intro r164_74 V_75 ws H locs hAW hP hD hS h
                            refine lv_bipush (v := (-101 : Int32)) hx hb dL_refuses_167 (by decide) ?_
                            refine lv_icmp_ne (tgt := 176) hx hb dL_refuses_169 (by decide) (fun c_169_75 => ?_) (fun c_169_75 => ?_)
                            · replace h := h.1 c_169_75
                              refine lv_iconst (v := (0 : Int32)) hx hb dL_refuses_176 (by decide) ?_
                              exact tail_1 V_75 (0 : Int32) ws H locs ls h hAW hP hD hS (lv_sub hl [0, 1, 2] rfl)
                            · replace h := h.2 c_169_75
                              refine lv_iconst (v := (1 : Int32)) hx hb dL_refuses_172 (by decide) ?_
                              refine lv_goto (tgt := 177) hx hb dL_refuses_173 (by decide) ?_
                              exact tail_1 V_75 (1 : Int32) ws H locs ls h hAW hP hD hS (lv_sub hl [0, 1, 2] rfl)
