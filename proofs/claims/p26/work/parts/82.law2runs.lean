def PL_runs_J5 (k : Int32 → VS → Prop) (lb_1 : Int32 → Int32 → Int32 → Int32 → VS → Prop) (v8_8 : Int32) (r86_16 : Int32) (V_17 : VS) (v5_21 : Int32) (v7_23 : Int32) (t_38 : Int32) (t_39 : Int32) : Prop := ((t_38 = t_39 → (∀ v8_41 : Int32, v8_41 = v8_8 + (1 : Int32) → lb_1 r86_16 v5_21 v7_23 v8_41 V_17)) ∧ (¬ t_38 = t_39 → (k (0 : Int32) V_17)))
def PL_runs_J4 (k : Int32 → VS → Prop) (r19_3 : Int32) (lb_1 : Int32 → Int32 → Int32 → Int32 → VS → Prop) (v8_8 : Int32) (r86_16 : Int32) (V_17 : VS) (v5_21 : Int32) (v7_23 : Int32) (t_38 : Int32) : Prop := (((v8_8 + (1 : Int32)) < r19_3 → (PL_runs_J5 k lb_1 v8_8 r86_16 V_17 v5_21 v7_23 t_38) (0 : Int32)) ∧ (¬ (v8_8 + (1 : Int32)) < r19_3 → (PL_runs_J5 k lb_1 v8_8 r86_16 V_17 v5_21 v7_23 t_38) (1 : Int32)))
def PL_runs_J3 (k : Int32 → VS → Prop) (r8_2 : Int32) (r19_3 : Int32) (lb_1 : Int32 → Int32 → Int32 → Int32 → VS → Prop) (v5_6 : Int32) (v7_7 : Int32) (v8_8 : Int32) (r45_12 : Int32) (r86_16 : Int32) (V_17 : VS) (r93_18 : Int32) (t_20 : Int32) : Prop := (∀ v5_21 : Int32, v5_21 = (v5_6 + r93_18) → PL_size r93_18 (fun r158_22 => (∀ v7_23 : Int32, v7_23 = (v7_7 + r158_22) → ((¬ r93_18 = t_20 → (k (0 : Int32) V_17)) ∧ (r93_18 = t_20 → (((60 : Int32) < r93_18 → (k (0 : Int32) V_17)) ∧ (¬ (60 : Int32) < r93_18 → ((r93_18 < (-60 : Int32) → (k (0 : Int32) V_17)) ∧ (¬ r93_18 < (-60 : Int32) → ((r86_16 < 0 → (k (0 : Int32) V_17)) ∧ (¬ r86_16 < 0 → PA_count V_17 (4 : Int32) (fun r194_28 => ((¬ r86_16 = r194_28 → (k (0 : Int32) V_17)) ∧ (r86_16 = r194_28 → PL_size r93_18 (fun r206_30 => ((((24 : Int32) * r206_30) < r86_16 → (k (0 : Int32) V_17)) ∧ (¬ ((24 : Int32) * r206_30) < r86_16 → PA_count V_17 (5 : Int32) (fun r215_32 => (((r45_12 + r86_16) < r215_32 → (k (0 : Int32) V_17)) ∧ (¬ (r45_12 + r86_16) < r215_32 → PA_count V_17 (3 : Int32) (fun r228_34 => ((¬ r228_34 = ((r8_2 + v8_8) + (1 : Int32)) → (k (0 : Int32) V_17)) ∧ (r228_34 = ((r8_2 + v8_8) + (1 : Int32)) → ((r19_3 = (-109 : Int32) → (∀ v8_37 : Int32, v8_37 = v8_8 + (1 : Int32) → lb_1 r86_16 v5_21 v7_23 v8_37 V_17)) ∧ (¬ r19_3 = (-109 : Int32) → ((v7_23 < (720 : Int32) → (PL_runs_J4 k r19_3 lb_1 v8_8 r86_16 V_17 v5_21 v7_23) (0 : Int32)) ∧ (¬ v7_23 < (720 : Int32) → (PL_runs_J4 k r19_3 lb_1 v8_8 r86_16 V_17 v5_21 v7_23) (1 : Int32))))))))))))))))))))))))))))
def PL_runs_J2 (k : Int32 → VS → Prop) (r8_2 : Int32) (r19_3 : Int32) (lb_1 : Int32 → Int32 → Int32 → Int32 → VS → Prop) (v5_6 : Int32) (v7_7 : Int32) (v8_8 : Int32) (V_9 : VS) (r38_11 : Int32) (r45_12 : Int32) (t_15 : Int32) : Prop := PA_run V_9 (1 : Int32) (fun r86_16 V_17 => PA_count V_17 (2 : Int32) (fun r93_18 => PA_setting V_17 (0 : Int32) (fun r100_19 => ((r100_19 ≤ (r38_11 + t_15) → PA_setting V_17 (0 : Int32) (fun r121_45 => (((r38_11 - t_15) ≤ r121_45 → PA_setting V_17 (0 : Int32) (fun r142_47 => (PL_runs_J3 k r8_2 r19_3 lb_1 v5_6 v7_7 v8_8 r45_12 r86_16 V_17 r93_18) r142_47)) ∧ (¬ (r38_11 - t_15) ≤ r121_45 → (PL_runs_J3 k r8_2 r19_3 lb_1 v5_6 v7_7 v8_8 r45_12 r86_16 V_17 r93_18) (r38_11 - t_15))))) ∧ (¬ r100_19 ≤ (r38_11 + t_15) → (PL_runs_J3 k r8_2 r19_3 lb_1 v5_6 v7_7 v8_8 r45_12 r86_16 V_17 r93_18) (r38_11 + t_15))))))
def PL_runs_L1 (a_2 : Int32) (k : Int32 → VS → Prop) (r8_2 : Int32) (r19_3 : Int32) (kx_1 : Int32 → Int32 → Int32 → Int32 → VS → Prop) : Nat → Int32 → Int32 → Int32 → Int32 → VS → Prop
  | 0, _, _, _, _, _ => False
  | n_1 + 1, v4_5, v5_6, v7_7, v8_8, V_9 => ((a_2 ≤ v8_8 → kx_1 v4_5 v5_6 v7_7 v8_8 V_9) ∧ (¬ a_2 ≤ v8_8 → PA_count V_9 (2 : Int32) (fun r38_11 => PA_count V_9 (5 : Int32) (fun r45_12 => PA_count V_9 (4 : Int32) (fun r52_13 => PA_setting V_9 (2 : Int32) (fun r61_14 => ((r52_13 ≤ r61_14 → PA_setting V_9 (1 : Int32) (fun r79_49 => (PL_runs_J2 k r8_2 r19_3 (PL_runs_L1 a_2 k r8_2 r19_3 kx_1 n_1) v5_6 v7_7 v8_8 V_9 r38_11 r45_12) r79_49)) ∧ (¬ r52_13 ≤ r61_14 → PA_setting V_9 (1 : Int32) (fun r69_50 => (PL_runs_J2 k r8_2 r19_3 (PL_runs_L1 a_2 k r8_2 r19_3 kx_1 n_1) v5_6 v7_7 v8_8 V_9 r38_11 r45_12) (r69_50 / (2 : Int32)))))))))))
def PL_runs_J6 (k : Int32 → VS → Prop) (V_9 : VS)  : Prop := (k (1 : Int32) V_9)
def PL_runs (V : VS) (a_2 : Int32) (k : Int32 → VS → Prop) : Prop := PA_count V (1 : Int32) (fun r2_1 => PA_count V (3 : Int32) (fun r8_2 => PA_ticksAround V  (fun r19_3 V_4 => (∃ n_1, PL_runs_L1 a_2 k r8_2 r19_3 (fun v4_5 v5_6 v7_7 v8_8 V_9 => PA_count V_9 (1 : Int32) (fun r287_51 => ((¬ r287_51 = (((r2_1 + (v5_6 - v5_6 / (720 : Int32) * (720 : Int32))) + (720 : Int32)) - ((r2_1 + (v5_6 - v5_6 / (720 : Int32) * (720 : Int32))) + (720 : Int32)) / (720 : Int32) * (720 : Int32)) → (k (0 : Int32) V_9)) ∧ (r287_51 = (((r2_1 + (v5_6 - v5_6 / (720 : Int32) * (720 : Int32))) + (720 : Int32)) - ((r2_1 + (v5_6 - v5_6 / (720 : Int32) * (720 : Int32))) + (720 : Int32)) / (720 : Int32) * (720 : Int32)) → ((r19_3 = (-109 : Int32) → (PL_runs_J6 k V_9)) ∧ (¬ r19_3 = (-109 : Int32) → ((r19_3 ≤ (11 : Int32) → (k (0 : Int32) V_9)) ∧ (¬ r19_3 ≤ (11 : Int32) → (((501 : Int32) ≤ r19_3 → (k (0 : Int32) V_9)) ∧ (¬ (501 : Int32) ≤ r19_3 → (PL_runs_J6 k V_9))))))))))) n_1 (0 : Int32) (0 : Int32) (0 : Int32) (0 : Int32) V_4))))
theorem hdL_runs : yL_runs.cls = RL ∧ yL_runs.cls ≠ "java/lang/invoke/MethodHandle" ∧ yL_runs.cls ≠ "java/lang/invoke/VarHandle" ∧ (parseMethodDescriptor yL_runs.desc).map (fun d => d.parameters.length) = some 2 := by decide +kernel
set_option maxHeartbeats 8000000 in
set_option maxRecDepth 100000 in
theorem kL_runs (l : Launch) (g : GG) (a : QS) (V : VS) (ws : va_W) (sz : Nat) (hAW : AW g a V ws) (a_2 : Int32) (k : Int32 → VS → Prop) (h : PL_runs V a_2 k) : Met l yL_runs wsL_runs ({ frames := 7, cells := 0, slots := 0, locals := 151 }) (PreMS g [.ref (a.1 0), .int a_2] ws sz) (va_Qi (fun (r : Int32) (u : va_W) => ∃ V' : VS, AW g a V' u ∧ k r V') (fun u t => PostB g (va_A ws sz) u t) (va_A ws sz)) 0 0 (va_A ws sz) := by
  refine Met_ofWF (cc := cL_runs) (maxL := 15) (ret := (some .boolean)) (by decide +kernel) rfl ?_
  intro p e s m args below meth c s₁ B hml hv
  obtain ⟨rfl, hsz, hP, hK, hD0, hST⟩ := hv
  have hx := B.exec
  have hb := B.bytes
  have hr := B.returns
  have hts := atoms_spec (ws := wsL_runs) B.pre
  have hown : s.vm.findClass RL = some m.cls := findClass_of_methodNamed B.named
  have hlocks := B.notSynchronized
  subst hsz
  have hD := hD0.self (sz := s.heap.size)
  generalize hAe : va_A ws s.heap.size = A at hD hST ⊢
  have hA : ∀ q : Nat, s.heap.size ≤ q → A q := fun q h => by rw [← hAe]; exact Or.inr h
  clear hAe hD0
  have hS : va_S A s.heap s.heap [] := va_S.rf
  have hl := lv_entry ([.ref (a.1 0), .int a_2]) (n := 15) (Nat.le_of_ble_eq_true rfl)
  rw [lg_entry_eq]
  generalize (lg_sl ([.ref (a.1 0), .int a_2]) ++ List.replicate (15 - (lg_sl ([.ref (a.1 0), .int a_2])).length) Slot.unset).toArray = ls at hl ⊢
  have hl : lv_has ls 15 [(0, .ref (a.1 0)), (1, .int a_2)] := hl
  unfold PL_runs at h
  obtain ⟨H, hHe⟩ : ∃ y, y = s.heap := ⟨_, rfl⟩
  rw [← hHe] at hP
  have hS : va_S A s.heap H [] := by rw [hHe]; exact hS
  have hW0 : ∀ (Q : State → Prop), W p l e (headSpec wsL_runs ({ frames := 7, cells := 0, slots := 0, locals := 151 })).room s m ([.ref (a.1 0), .int a_2] : List Value).toArray below meth c H [] 0 0 Q (F0 m 0 ls []) → W p l e (headSpec wsL_runs ({ frames := 7, cells := 0, slots := 0, locals := 151 })).room s m ([.ref (a.1 0), .int a_2] : List Value).toArray below meth c s.heap [] 0 0 Q (F0 m 0 ls []) := by rw [hHe]; exact fun _ h9 => h9
  refine hW0 _ ?_
  clear hW0 hHe
  generalize ([] : List Loc) = locs at hS ⊢
  refine lv_aload_n hx hb dL_runs_0 rfl (lv_at hl 0 rfl) ?_
  refine lv_iconst (v := (1 : Int32)) hx hb dL_runs_1 (by decide) ?_
  obtain ⟨fs9, heA⟩ := hAW.recv
  refine vp_callSi (W.runV (As := [.int (1 : Int32)]) (rest := []) ⟨hx, hb, hml, hown, hts⟩ (a_count l g a V ws hAW (1 : Int32) _ h) (cwV 1 hts gL_runs_X4_count rfl rfl rfl hdX4_count ⟨(Nat.le_of_ble_eq_true rfl), (Nat.le_of_ble_eq_true rfl)⟩) (preV_R (r := (RX4, TX4, 9)) hK hP (ci := 4) (q0 := 0) rfl heA) rfl rfl hl.1 rfl (lv_room (Nat.le_of_ble_eq_true rfl)) dL_runs_2 ⟨(Nat.le_of_ble_eq_true rfl), (Nat.le_of_ble_eq_true rfl)⟩) (fun r2_1 h => ?_)
  clear heA fs9
  refine lv_istore_n (lv' := [(2, .int r2_1), (0, .ref (a.1 0)), (1, .int a_2)]) hx hb dL_runs_5 rfl hl (by decide) rfl (fun ls hl => ?_)
  refine lv_aload_n hx hb dL_runs_6 rfl (lv_at hl 1 rfl) ?_
  refine lv_iconst (v := (3 : Int32)) hx hb dL_runs_7 (by decide) ?_
  obtain ⟨fs9, heA⟩ := hAW.recv
  refine vp_callSi (W.runV (As := [.int (3 : Int32)]) (rest := []) ⟨hx, hb, hml, hown, hts⟩ (a_count l g a V ws hAW (3 : Int32) _ h) (cwV 1 hts gL_runs_X4_count rfl rfl rfl hdX4_count ⟨(Nat.le_of_ble_eq_true rfl), (Nat.le_of_ble_eq_true rfl)⟩) (preV_R (r := (RX4, TX4, 9)) hK hP (ci := 4) (q0 := 0) rfl heA) rfl rfl hl.1 rfl (lv_room (Nat.le_of_ble_eq_true rfl)) dL_runs_8 ⟨(Nat.le_of_ble_eq_true rfl), (Nat.le_of_ble_eq_true rfl)⟩) (fun r8_2 h => ?_)
  clear heA fs9
  refine lv_istore_n (lv' := [(3, .int r8_2), (2, .int r2_1), (0, .ref (a.1 0)), (1, .int a_2)]) hx hb dL_runs_11 rfl hl (by decide) rfl (fun ls hl => ?_)
  refine lv_iconst (v := (0 : Int32)) hx hb dL_runs_12 (by decide) ?_
  refine lv_istore (lv' := [(4, .int (0 : Int32)), (3, .int r8_2), (2, .int r2_1), (0, .ref (a.1 0)), (1, .int a_2)]) hx hb dL_runs_13 hl (by decide) rfl (fun ls hl => ?_)
  refine lv_iconst (v := (0 : Int32)) hx hb dL_runs_15 (by decide) ?_
  refine lv_istore (lv' := [(5, .int (0 : Int32)), (4, .int (0 : Int32)), (3, .int r8_2), (2, .int r2_1), (0, .ref (a.1 0)), (1, .int a_2)]) hx hb dL_runs_16 hl (by decide) rfl (fun ls hl => ?_)
  refine lv_aload_n hx hb dL_runs_18 rfl (lv_at hl 4 rfl) ?_
  obtain ⟨fs9, heA⟩ := hAW.recv
  refine vl_calli (V := V) (va_runV (As := []) (rest := []) ⟨hx, hb, hml, hown, hts⟩ (a_ticksAround l g a V ws H.size hAW  _ h) (cwV 0 hts gL_runs_X4_ticksAround rfl rfl rfl hdX4_ticksAround ⟨(Nat.le_of_ble_eq_true rfl), (Nat.le_of_ble_eq_true rfl)⟩) (preV_M (r := (RX4, TX4, 9)) hK hP hD (ci := 4) (q0 := 0) rfl heA) rfl rfl hl.1 rfl (lv_room (Nat.le_of_ble_eq_true rfl)) dL_runs_19 ⟨(Nat.le_of_ble_eq_true rfl), (Nat.le_of_ble_eq_true rfl)⟩) hS (va_freeA hD hS hA) ?_
  clear heA fs9
  clear h hAW hP hD hS
  clear ws H locs
  intro r19_3 V_4 ws H locs hAW hP hD hS h
  refine lv_istore (lv' := [(6, .int r19_3), (5, .int (0 : Int32)), (4, .int (0 : Int32)), (3, .int r8_2), (2, .int r2_1), (0, .ref (a.1 0)), (1, .int a_2)]) hx hb dL_runs_22 hl (by decide) rfl (fun ls hl => ?_)
  refine lv_iconst (v := (0 : Int32)) hx hb dL_runs_24 (by decide) ?_
  refine lv_istore (lv' := [(7, .int (0 : Int32)), (6, .int r19_3), (5, .int (0 : Int32)), (4, .int (0 : Int32)), (3, .int r8_2), (2, .int r2_1), (0, .ref (a.1 0)), (1, .int a_2)]) hx hb dL_runs_25 hl (by decide) rfl (fun ls hl => ?_)
  refine lv_iconst (v := (0 : Int32)) hx hb dL_runs_27 (by decide) ?_
  refine lv_istore (lv' := [(8, .int (0 : Int32)), (7, .int (0 : Int32)), (6, .int r19_3), (5, .int (0 : Int32)), (4, .int (0 : Int32)), (3, .int r8_2), (2, .int r2_1), (0, .ref (a.1 0)), (1, .int a_2)]) hx hb dL_runs_28 hl (by decide) rfl (fun ls hl => ?_)
  have loop_1 : ∀ (kx_1 : Int32 → Int32 → Int32 → Int32 → VS → Prop), (∀ (v4_5 : Int32) (v5_6 : Int32) (v7_7 : Int32) (v8_8 : Int32) (V_9 : VS) (ws : va_W) (H : Heap) (locs : List Loc) (ls : Array Slot), kx_1 v4_5 v5_6 v7_7 v8_8 V_9 → AW g a V_9 ws → va_P g.1 vwCl ws H → va_D A ws → va_S A s.heap H locs → lv_has ls 15 [(8, .int v8_8), (7, .int v7_7), (6, .int r19_3), (5, .int v5_6), (4, .int v4_5), (3, .int r8_2), (2, .int r2_1), (0, .ref (a.1 0)), (1, .int a_2)] → W p l e (headSpec wsL_runs ({ frames := 7, cells := 0, slots := 0, locals := 151 })).room s m ([.ref (a.1 0), .int a_2] : List Value).toArray below meth c H locs 0 0 (MQ below (va_Qi (fun (r : Int32) (u : va_W) => ∃ V' : VS, AW g a V' u ∧ k r V') (fun u t => PostB g A u t) A) ([.ref (a.1 0), .int a_2] : List Value).toArray s 0 0 A) (F0 m 285 ls [])) → ∀ (n_1 : Nat) (v4_5 : Int32) (v5_6 : Int32) (v7_7 : Int32) (v8_8 : Int32) (V_9 : VS) (ws : va_W) (H : Heap) (locs : List Loc) (ls : Array Slot), PL_runs_L1 a_2 k r8_2 r19_3 kx_1 n_1 v4_5 v5_6 v7_7 v8_8 V_9 → AW g a V_9 ws → va_P g.1 vwCl ws H → va_D A ws → va_S A s.heap H locs → lv_has ls 15 [(8, .int v8_8), (7, .int v7_7), (6, .int r19_3), (5, .int v5_6), (4, .int v4_5), (3, .int r8_2), (2, .int r2_1), (0, .ref (a.1 0)), (1, .int a_2)] → W p l e (headSpec wsL_runs ({ frames := 7, cells := 0, slots := 0, locals := 151 })).room s m ([.ref (a.1 0), .int a_2] : List Value).toArray below meth c H locs 0 0 (MQ below (va_Qi (fun (r : Int32) (u : va_W) => ∃ V' : VS, AW g a V' u ∧ k r V') (fun u t => PostB g A u t) A) ([.ref (a.1 0), .int a_2] : List Value).toArray s 0 0 A) (F0 m 30 ls []) := by
    intro kx_1 hexit_1 n_1
    induction n_1 with
    | zero => exact fun _ _ _ _ _ _ _ _ _ h _ _ _ _ _ => (h : False).elim
    | succ n_1 ih_1 =>
      intro v4_5 v5_6 v7_7 v8_8 V_9 ws H locs ls h hAW hP hD hS hl
      unfold PL_runs_L1 at h
      refine lv_iload hx hb dL_runs_30 (lv_at hl 0 rfl) ?_
      refine lv_iload_n hx hb dL_runs_32 rfl (lv_at hl 8 rfl) ?_
      refine lv_icmp_ge (tgt := 285) hx hb dL_runs_33 (by decide) (fun c_33_9 => ?_) (fun c_33_9 => ?_)
      · replace h := h.1 c_33_9
        exact hexit_1 v4_5 v5_6 v7_7 v8_8 V_9 ws H locs ls h hAW hP hD hS (lv_sub hl [0, 1, 2, 3, 4, 5, 6, 7, 8] rfl)
      · replace h := h.2 c_33_9
        refine lv_aload_n hx hb dL_runs_36 rfl (lv_at hl 7 rfl) ?_
        refine lv_iconst (v := (2 : Int32)) hx hb dL_runs_37 (by decide) ?_
        obtain ⟨fs9, heA⟩ := hAW.recv
        refine vp_callSi (W.runV (As := [.int (2 : Int32)]) (rest := []) ⟨hx, hb, hml, hown, hts⟩ (a_count l g a V_9 ws hAW (2 : Int32) _ h) (cwV 1 hts gL_runs_X4_count rfl rfl rfl hdX4_count ⟨(Nat.le_of_ble_eq_true rfl), (Nat.le_of_ble_eq_true rfl)⟩) (preV_R (r := (RX4, TX4, 9)) hK hP (ci := 4) (q0 := 0) rfl heA) rfl rfl hl.1 rfl (lv_room (Nat.le_of_ble_eq_true rfl)) dL_runs_38 ⟨(Nat.le_of_ble_eq_true rfl), (Nat.le_of_ble_eq_true rfl)⟩) (fun r38_11 h => ?_)
        clear heA fs9
        refine lv_istore (lv' := [(9, .int r38_11), (8, .int v8_8), (7, .int v7_7), (6, .int r19_3), (5, .int v5_6), (4, .int v4_5), (3, .int r8_2), (2, .int r2_1), (0, .ref (a.1 0)), (1, .int a_2)]) hx hb dL_runs_41 hl (by decide) rfl (fun ls hl => ?_)
        refine lv_aload_n hx hb dL_runs_43 rfl (lv_at hl 8 rfl) ?_
        refine lv_iconst (v := (5 : Int32)) hx hb dL_runs_44 (by decide) ?_
        obtain ⟨fs9, heA⟩ := hAW.recv
        refine vp_callSi (W.runV (As := [.int (5 : Int32)]) (rest := []) ⟨hx, hb, hml, hown, hts⟩ (a_count l g a V_9 ws hAW (5 : Int32) _ h) (cwV 1 hts gL_runs_X4_count rfl rfl rfl hdX4_count ⟨(Nat.le_of_ble_eq_true rfl), (Nat.le_of_ble_eq_true rfl)⟩) (preV_R (r := (RX4, TX4, 9)) hK hP (ci := 4) (q0 := 0) rfl heA) rfl rfl hl.1 rfl (lv_room (Nat.le_of_ble_eq_true rfl)) dL_runs_45 ⟨(Nat.le_of_ble_eq_true rfl), (Nat.le_of_ble_eq_true rfl)⟩) (fun r45_12 h => ?_)
        clear heA fs9
        refine lv_istore (lv' := [(10, .int r45_12), (9, .int r38_11), (8, .int v8_8), (7, .int v7_7), (6, .int r19_3), (5, .int v5_6), (4, .int v4_5), (3, .int r8_2), (2, .int r2_1), (0, .ref (a.1 0)), (1, .int a_2)]) hx hb dL_runs_48 hl (by decide) rfl (fun ls hl => ?_)
        refine lv_aload_n hx hb dL_runs_50 rfl (lv_at hl 9 rfl) ?_
        refine lv_iconst (v := (4 : Int32)) hx hb dL_runs_51 (by decide) ?_
        obtain ⟨fs9, heA⟩ := hAW.recv
        refine vp_callSi (W.runV (As := [.int (4 : Int32)]) (rest := []) ⟨hx, hb, hml, hown, hts⟩ (a_count l g a V_9 ws hAW (4 : Int32) _ h) (cwV 1 hts gL_runs_X4_count rfl rfl rfl hdX4_count ⟨(Nat.le_of_ble_eq_true rfl), (Nat.le_of_ble_eq_true rfl)⟩) (preV_R (r := (RX4, TX4, 9)) hK hP (ci := 4) (q0 := 0) rfl heA) rfl rfl hl.1 rfl (lv_room (Nat.le_of_ble_eq_true rfl)) dL_runs_52 ⟨(Nat.le_of_ble_eq_true rfl), (Nat.le_of_ble_eq_true rfl)⟩) (fun r52_13 h => ?_)
        clear heA fs9
        refine lv_istore (lv' := [(11, .int r52_13), (10, .int r45_12), (9, .int r38_11), (8, .int v8_8), (7, .int v7_7), (6, .int r19_3), (5, .int v5_6), (4, .int v4_5), (3, .int r8_2), (2, .int r2_1), (0, .ref (a.1 0)), (1, .int a_2)]) hx hb dL_runs_55 hl (by decide) rfl (fun ls hl => ?_)
        refine lv_iload hx hb dL_runs_57 (lv_at hl 0 rfl) ?_
        refine lv_aload_n hx hb dL_runs_59 rfl (lv_at hl 10 rfl) ?_
        refine lv_iconst (v := (2 : Int32)) hx hb dL_runs_60 (by decide) ?_
        obtain ⟨fs9, heA⟩ := hAW.recv
        refine vp_callSi (W.runV (As := [.int (2 : Int32)]) (rest := [.int r52_13]) ⟨hx, hb, hml, hown, hts⟩ (a_setting l g a V_9 ws hAW (2 : Int32) _ h) (cwV 1 hts gL_runs_X4_setting rfl rfl rfl hdX4_setting ⟨(Nat.le_of_ble_eq_true rfl), (Nat.le_of_ble_eq_true rfl)⟩) (preV_R (r := (RX4, TX4, 9)) hK hP (ci := 4) (q0 := 0) rfl heA) rfl rfl hl.1 rfl (lv_room (Nat.le_of_ble_eq_true rfl)) dL_runs_61 ⟨(Nat.le_of_ble_eq_true rfl), (Nat.le_of_ble_eq_true rfl)⟩) (fun r61_14 h => ?_)
        clear heA fs9
        have tail_2 : ∀ (t_15 : Int32) (ws : va_W) (H : Heap) (locs : List Loc) (ls : Array Slot), PL_runs_J2 k r8_2 r19_3 (PL_runs_L1 a_2 k r8_2 r19_3 kx_1 n_1) v5_6 v7_7 v8_8 V_9 r38_11 r45_12 t_15 → AW g a V_9 ws → va_P g.1 vwCl ws H → va_D A ws → va_S A s.heap H locs → lv_has ls 15 [(11, .int r52_13), (10, .int r45_12), (9, .int r38_11), (8, .int v8_8), (7, .int v7_7), (6, .int r19_3), (5, .int v5_6), (4, .int v4_5), (3, .int r8_2), (2, .int r2_1), (0, .ref (a.1 0)), (1, .int a_2)] → W p l e (headSpec wsL_runs ({ frames := 7, cells := 0, slots := 0, locals := 151 })).room s m ([.ref (a.1 0), .int a_2] : List Value).toArray below meth c H locs 0 0 (MQ below (va_Qi (fun (r : Int32) (u : va_W) => ∃ V' : VS, AW g a V' u ∧ k r V') (fun u t => PostB g A u t) A) ([.ref (a.1 0), .int a_2] : List Value).toArray s 0 0 A) (F0 m 82 ls [.int t_15]) := by
          intro t_15 ws H locs ls h hAW hP hD hS hl
          unfold PL_runs_J2 at h
          refine lv_istore (lv' := [(12, .int t_15), (11, .int r52_13), (10, .int r45_12), (9, .int r38_11), (8, .int v8_8), (7, .int v7_7), (6, .int r19_3), (5, .int v5_6), (4, .int v4_5), (3, .int r8_2), (2, .int r2_1), (0, .ref (a.1 0)), (1, .int a_2)]) hx hb dL_runs_82 hl (by decide) rfl (fun ls hl => ?_)
          refine lv_aload_n hx hb dL_runs_84 rfl (lv_at hl 11 rfl) ?_
          refine lv_iconst (v := (1 : Int32)) hx hb dL_runs_85 (by decide) ?_
          obtain ⟨fs9, heA⟩ := hAW.recv
          refine vl_calli (V := V_9) (va_runV (As := [.int (1 : Int32)]) (rest := []) ⟨hx, hb, hml, hown, hts⟩ (a_run l g a V_9 ws H.size hAW (1 : Int32) _ h) (cwV 1 hts gL_runs_X4_run rfl rfl rfl hdX4_run ⟨(Nat.le_of_ble_eq_true rfl), (Nat.le_of_ble_eq_true rfl)⟩) (preV_M (r := (RX4, TX4, 9)) hK hP hD (ci := 4) (q0 := 0) rfl heA) rfl rfl hl.1 rfl (lv_room (Nat.le_of_ble_eq_true rfl)) dL_runs_86 ⟨(Nat.le_of_ble_eq_true rfl), (Nat.le_of_ble_eq_true rfl)⟩) hS (va_freeA hD hS hA) ?_
          clear heA fs9
          clear h hAW hP hD hS
          clear ws H locs
          intro r86_16 V_17 ws H locs hAW hP hD hS h
          refine lv_istore (lv' := [(4, .int r86_16), (12, .int t_15), (11, .int r52_13), (10, .int r45_12), (9, .int r38_11), (8, .int v8_8), (7, .int v7_7), (6, .int r19_3), (5, .int v5_6), (3, .int r8_2), (2, .int r2_1), (0, .ref (a.1 0)), (1, .int a_2)]) hx hb dL_runs_89 hl (by decide) rfl (fun ls hl => ?_)
          refine lv_aload_n hx hb dL_runs_91 rfl (lv_at hl 11 rfl) ?_
          refine lv_iconst (v := (2 : Int32)) hx hb dL_runs_92 (by decide) ?_
          obtain ⟨fs9, heA⟩ := hAW.recv
          refine vp_callSi (W.runV (As := [.int (2 : Int32)]) (rest := []) ⟨hx, hb, hml, hown, hts⟩ (a_count l g a V_17 ws hAW (2 : Int32) _ h) (cwV 1 hts gL_runs_X4_count rfl rfl rfl hdX4_count ⟨(Nat.le_of_ble_eq_true rfl), (Nat.le_of_ble_eq_true rfl)⟩) (preV_R (r := (RX4, TX4, 9)) hK hP (ci := 4) (q0 := 0) rfl heA) rfl rfl hl.1 rfl (lv_room (Nat.le_of_ble_eq_true rfl)) dL_runs_93 ⟨(Nat.le_of_ble_eq_true rfl), (Nat.le_of_ble_eq_true rfl)⟩) (fun r93_18 h => ?_)
          clear heA fs9
          refine lv_istore (lv' := [(13, .int r93_18), (4, .int r86_16), (12, .int t_15), (11, .int r52_13), (10, .int r45_12), (9, .int r38_11), (8, .int v8_8), (7, .int v7_7), (6, .int r19_3), (5, .int v5_6), (3, .int r8_2), (2, .int r2_1), (0, .ref (a.1 0)), (1, .int a_2)]) hx hb dL_runs_96 hl (by decide) rfl (fun ls hl => ?_)
          refine lv_aload_n hx hb dL_runs_98 rfl (lv_at hl 12 rfl) ?_
          refine lv_iconst (v := (0 : Int32)) hx hb dL_runs_99 (by decide) ?_
          obtain ⟨fs9, heA⟩ := hAW.recv
          refine vp_callSi (W.runV (As := [.int (0 : Int32)]) (rest := []) ⟨hx, hb, hml, hown, hts⟩ (a_setting l g a V_17 ws hAW (0 : Int32) _ h) (cwV 1 hts gL_runs_X4_setting rfl rfl rfl hdX4_setting ⟨(Nat.le_of_ble_eq_true rfl), (Nat.le_of_ble_eq_true rfl)⟩) (preV_R (r := (RX4, TX4, 9)) hK hP (ci := 4) (q0 := 0) rfl heA) rfl rfl hl.1 rfl (lv_room (Nat.le_of_ble_eq_true rfl)) dL_runs_100 ⟨(Nat.le_of_ble_eq_true rfl), (Nat.le_of_ble_eq_true rfl)⟩) (fun r100_19 h => ?_)
          clear heA fs9
          refine lv_iload hx hb dL_runs_103 (lv_at hl 5 rfl) ?_
          refine lv_iload hx hb dL_runs_105 (lv_at hl 2 rfl) ?_
          refine lv_iadd hx hb dL_runs_107 ?_
          have tail_3 : ∀ (t_20 : Int32) (ws : va_W) (H : Heap) (locs : List Loc) (ls : Array Slot), PL_runs_J3 k r8_2 r19_3 (PL_runs_L1 a_2 k r8_2 r19_3 kx_1 n_1) v5_6 v7_7 v8_8 r45_12 r86_16 V_17 r93_18 t_20 → AW g a V_17 ws → va_P g.1 vwCl ws H → va_D A ws → va_S A s.heap H locs → lv_has ls 15 [(13, .int r93_18), (4, .int r86_16), (12, .int t_15), (11, .int r52_13), (10, .int r45_12), (9, .int r38_11), (8, .int v8_8), (7, .int v7_7), (6, .int r19_3), (5, .int v5_6), (3, .int r8_2), (2, .int r2_1), (0, .ref (a.1 0)), (1, .int a_2)] → W p l e (headSpec wsL_runs ({ frames := 7, cells := 0, slots := 0, locals := 151 })).room s m ([.ref (a.1 0), .int a_2] : List Value).toArray below meth c H locs 0 0 (MQ below (va_Qi (fun (r : Int32) (u : va_W) => ∃ V' : VS, AW g a V' u ∧ k r V') (fun u t => PostB g A u t) A) ([.ref (a.1 0), .int a_2] : List Value).toArray s 0 0 A) (F0 m 145 ls [.int t_20]) := by
            intro t_20 ws H locs ls h hAW hP hD hS hl
            unfold PL_runs_J3 at h
            refine lv_istore (lv' := [(14, .int t_20), (13, .int r93_18), (4, .int r86_16), (12, .int t_15), (11, .int r52_13), (10, .int r45_12), (9, .int r38_11), (8, .int v8_8), (7, .int v7_7), (6, .int r19_3), (5, .int v5_6), (3, .int r8_2), (2, .int r2_1), (0, .ref (a.1 0)), (1, .int a_2)]) hx hb dL_runs_145 hl (by decide) rfl (fun ls hl => ?_)
            refine lv_iload hx hb dL_runs_147 (lv_at hl 10 rfl) ?_
            refine lv_iload hx hb dL_runs_149 (lv_at hl 1 rfl) ?_
            refine lv_iadd hx hb dL_runs_151 ?_
            refine lv_topi (fun v5_21 e_v5_21 => ?_)
            replace h := h v5_21 e_v5_21
            refine lv_istore (lv' := [(5, .int v5_21), (14, .int t_20), (13, .int r93_18), (4, .int r86_16), (12, .int t_15), (11, .int r52_13), (10, .int r45_12), (9, .int r38_11), (8, .int v8_8), (7, .int v7_7), (6, .int r19_3), (3, .int r8_2), (2, .int r2_1), (0, .ref (a.1 0)), (1, .int a_2)]) hx hb dL_runs_152 hl (by decide) rfl (fun ls hl => ?_)
            refine lv_iload hx hb dL_runs_154 (lv_at hl 9 rfl) ?_
            refine lv_iload hx hb dL_runs_156 (lv_at hl 2 rfl) ?_
            refine vp_callSi (W.runS (As := [.int r93_18]) (rest := [.int v7_7]) ⟨hx, hb, hml, hown, hts⟩ (kL_size l g  r93_18 _ h) (va_cwS 1 hts gL_runs_L_size rfl rfl rfl hdL_size.2 ⟨(Nat.le_of_ble_eq_true rfl), (Nat.le_of_ble_eq_true rfl)⟩) (preS_R hK (va_P_nil (D := g.1) (cl := vwCl))) rfl rfl hl.1 rfl (lv_room (Nat.le_of_ble_eq_true rfl)) dL_runs_158 ⟨(Nat.le_of_ble_eq_true rfl), (Nat.le_of_ble_eq_true rfl)⟩) (fun r158_22 h => ?_)
            refine lv_iadd hx hb dL_runs_161 ?_
            refine lv_topi (fun v7_23 e_v7_23 => ?_)
            replace h := h v7_23 e_v7_23
            refine lv_istore (lv' := [(7, .int v7_23), (5, .int v5_21), (14, .int t_20), (13, .int r93_18), (4, .int r86_16), (12, .int t_15), (11, .int r52_13), (10, .int r45_12), (9, .int r38_11), (8, .int v8_8), (6, .int r19_3), (3, .int r8_2), (2, .int r2_1), (0, .ref (a.1 0)), (1, .int a_2)]) hx hb dL_runs_162 hl (by decide) rfl (fun ls hl => ?_)
            refine lv_iload hx hb dL_runs_164 (lv_at hl 3 rfl) ?_
            refine lv_iload hx hb dL_runs_166 (lv_at hl 2 rfl) ?_
            refine lv_icmp_ne (tgt := 277) hx hb dL_runs_168 (by decide) (fun c_168_23 => ?_) (fun c_168_23 => ?_)
            · replace h := h.1 c_168_23
              refine lv_iconst (v := (0 : Int32)) hx hb dL_runs_277 (by decide) ?_
              exact W.zret (v := (0 : Int32)) hx hb hr rfl (fun t ht hW => ⟨⟨(0 : Int32), ws, rfl, ⟨V_17, hAW, h⟩, by rw [ht]; exact hP, hD⟩, hS.F ht⟩) hS.2.2 dL_runs_278
            · replace h := h.2 c_168_23
              refine lv_iload hx hb dL_runs_171 (lv_at hl 3 rfl) ?_
              refine lv_bipush (v := (60 : Int32)) hx hb dL_runs_173 (by decide) ?_
              refine lv_icmp_gt (tgt := 277) hx hb dL_runs_175 (by decide) (fun c_175_24 => ?_) (fun c_175_24 => ?_)
              · replace h := h.1 c_175_24
                refine lv_iconst (v := (0 : Int32)) hx hb dL_runs_277 (by decide) ?_
                exact W.zret (v := (0 : Int32)) hx hb hr rfl (fun t ht hW => ⟨⟨(0 : Int32), ws, rfl, ⟨V_17, hAW, h⟩, by rw [ht]; exact hP, hD⟩, hS.F ht⟩) hS.2.2 dL_runs_278
              · replace h := h.2 c_175_24
                refine lv_iload hx hb dL_runs_178 (lv_at hl 3 rfl) ?_
                refine lv_bipush (v := (-60 : Int32)) hx hb dL_runs_180 (by decide) ?_
                refine lv_icmp_lt (tgt := 277) hx hb dL_runs_182 (by decide) (fun c_182_25 => ?_) (fun c_182_25 => ?_)
                · replace h := h.1 c_182_25
                  refine lv_iconst (v := (0 : Int32)) hx hb dL_runs_277 (by decide) ?_
                  exact W.zret (v := (0 : Int32)) hx hb hr rfl (fun t ht hW => ⟨⟨(0 : Int32), ws, rfl, ⟨V_17, hAW, h⟩, by rw [ht]; exact hP, hD⟩, hS.F ht⟩) hS.2.2 dL_runs_278
                · replace h := h.2 c_182_25
                  refine lv_iload hx hb dL_runs_185 (lv_at hl 4 rfl) ?_
                  refine lv_if_lt (tgt := 277) hx hb dL_runs_187 (by decide) (fun c_187_26 => ?_) (fun c_187_26 => ?_)
                  · replace h := h.1 c_187_26
                    refine lv_iconst (v := (0 : Int32)) hx hb dL_runs_277 (by decide) ?_
                    exact W.zret (v := (0 : Int32)) hx hb hr rfl (fun t ht hW => ⟨⟨(0 : Int32), ws, rfl, ⟨V_17, hAW, h⟩, by rw [ht]; exact hP, hD⟩, hS.F ht⟩) hS.2.2 dL_runs_278
                  · replace h := h.2 c_187_26
                    refine lv_iload hx hb dL_runs_190 (lv_at hl 4 rfl) ?_
                    refine lv_aload_n hx hb dL_runs_192 rfl (lv_at hl 13 rfl) ?_
                    refine lv_iconst (v := (4 : Int32)) hx hb dL_runs_193 (by decide) ?_
                    obtain ⟨fs9, heA⟩ := hAW.recv
                    refine vp_callSi (W.runV (As := [.int (4 : Int32)]) (rest := [.int r86_16]) ⟨hx, hb, hml, hown, hts⟩ (a_count l g a V_17 ws hAW (4 : Int32) _ h) (cwV 1 hts gL_runs_X4_count rfl rfl rfl hdX4_count ⟨(Nat.le_of_ble_eq_true rfl), (Nat.le_of_ble_eq_true rfl)⟩) (preV_R (r := (RX4, TX4, 9)) hK hP (ci := 4) (q0 := 0) rfl heA) rfl rfl hl.1 rfl (lv_room (Nat.le_of_ble_eq_true rfl)) dL_runs_194 ⟨(Nat.le_of_ble_eq_true rfl), (Nat.le_of_ble_eq_true rfl)⟩) (fun r194_28 h => ?_)
                    clear heA fs9
                    refine lv_icmp_ne (tgt := 277) hx hb dL_runs_197 (by decide) (fun c_197_28 => ?_) (fun c_197_28 => ?_)
                    · replace h := h.1 c_197_28
                      refine lv_iconst (v := (0 : Int32)) hx hb dL_runs_277 (by decide) ?_
                      exact W.zret (v := (0 : Int32)) hx hb hr rfl (fun t ht hW => ⟨⟨(0 : Int32), ws, rfl, ⟨V_17, hAW, h⟩, by rw [ht]; exact hP, hD⟩, hS.F ht⟩) hS.2.2 dL_runs_278
                    · replace h := h.2 c_197_28
                      refine lv_iload hx hb dL_runs_200 (lv_at hl 4 rfl) ?_
                      refine lv_bipush (v := (24 : Int32)) hx hb dL_runs_202 (by decide) ?_
                      refine lv_iload hx hb dL_runs_204 (lv_at hl 3 rfl) ?_
                      refine vp_callSi (W.runS (As := [.int r93_18]) (rest := [.int (24 : Int32), .int r86_16]) ⟨hx, hb, hml, hown, hts⟩ (kL_size l g  r93_18 _ h) (va_cwS 1 hts gL_runs_L_size rfl rfl rfl hdL_size.2 ⟨(Nat.le_of_ble_eq_true rfl), (Nat.le_of_ble_eq_true rfl)⟩) (preS_R hK (va_P_nil (D := g.1) (cl := vwCl))) rfl rfl hl.1 rfl (lv_room (Nat.le_of_ble_eq_true rfl)) dL_runs_206 ⟨(Nat.le_of_ble_eq_true rfl), (Nat.le_of_ble_eq_true rfl)⟩) (fun r206_30 h => ?_)
                      refine lv_imul hx hb dL_runs_209 ?_
                      refine lv_icmp_gt (tgt := 277) hx hb dL_runs_210 (by decide) (fun c_210_30 => ?_) (fun c_210_30 => ?_)
                      · replace h := h.1 c_210_30
                        refine lv_iconst (v := (0 : Int32)) hx hb dL_runs_277 (by decide) ?_
                        exact W.zret (v := (0 : Int32)) hx hb hr rfl (fun t ht hW => ⟨⟨(0 : Int32), ws, rfl, ⟨V_17, hAW, h⟩, by rw [ht]; exact hP, hD⟩, hS.F ht⟩) hS.2.2 dL_runs_278
                      · replace h := h.2 c_210_30
                        refine lv_aload_n hx hb dL_runs_213 rfl (lv_at hl 13 rfl) ?_
                        refine lv_iconst (v := (5 : Int32)) hx hb dL_runs_214 (by decide) ?_
                        obtain ⟨fs9, heA⟩ := hAW.recv
                        refine vp_callSi (W.runV (As := [.int (5 : Int32)]) (rest := []) ⟨hx, hb, hml, hown, hts⟩ (a_count l g a V_17 ws hAW (5 : Int32) _ h) (cwV 1 hts gL_runs_X4_count rfl rfl rfl hdX4_count ⟨(Nat.le_of_ble_eq_true rfl), (Nat.le_of_ble_eq_true rfl)⟩) (preV_R (r := (RX4, TX4, 9)) hK hP (ci := 4) (q0 := 0) rfl heA) rfl rfl hl.1 rfl (lv_room (Nat.le_of_ble_eq_true rfl)) dL_runs_215 ⟨(Nat.le_of_ble_eq_true rfl), (Nat.le_of_ble_eq_true rfl)⟩) (fun r215_32 h => ?_)
                        clear heA fs9
                        refine lv_iload hx hb dL_runs_218 (lv_at hl 7 rfl) ?_
                        refine lv_iload hx hb dL_runs_220 (lv_at hl 4 rfl) ?_
                        refine lv_iadd hx hb dL_runs_222 ?_
                        refine lv_icmp_gt (tgt := 277) hx hb dL_runs_223 (by decide) (fun c_223_32 => ?_) (fun c_223_32 => ?_)
                        · replace h := h.1 c_223_32
                          refine lv_iconst (v := (0 : Int32)) hx hb dL_runs_277 (by decide) ?_
                          exact W.zret (v := (0 : Int32)) hx hb hr rfl (fun t ht hW => ⟨⟨(0 : Int32), ws, rfl, ⟨V_17, hAW, h⟩, by rw [ht]; exact hP, hD⟩, hS.F ht⟩) hS.2.2 dL_runs_278
                        · replace h := h.2 c_223_32
                          refine lv_aload_n hx hb dL_runs_226 rfl (lv_at hl 13 rfl) ?_
                          refine lv_iconst (v := (3 : Int32)) hx hb dL_runs_227 (by decide) ?_
                          obtain ⟨fs9, heA⟩ := hAW.recv
                          refine vp_callSi (W.runV (As := [.int (3 : Int32)]) (rest := []) ⟨hx, hb, hml, hown, hts⟩ (a_count l g a V_17 ws hAW (3 : Int32) _ h) (cwV 1 hts gL_runs_X4_count rfl rfl rfl hdX4_count ⟨(Nat.le_of_ble_eq_true rfl), (Nat.le_of_ble_eq_true rfl)⟩) (preV_R (r := (RX4, TX4, 9)) hK hP (ci := 4) (q0 := 0) rfl heA) rfl rfl hl.1 rfl (lv_room (Nat.le_of_ble_eq_true rfl)) dL_runs_228 ⟨(Nat.le_of_ble_eq_true rfl), (Nat.le_of_ble_eq_true rfl)⟩) (fun r228_34 h => ?_)
                          clear heA fs9
                          refine lv_iload_n hx hb dL_runs_231 rfl (lv_at hl 11 rfl) ?_
                          refine lv_iload hx hb dL_runs_232 (lv_at hl 9 rfl) ?_
                          refine lv_iadd hx hb dL_runs_234 ?_
                          refine lv_iconst (v := (1 : Int32)) hx hb dL_runs_235 (by decide) ?_
                          refine lv_iadd hx hb dL_runs_236 ?_
                          refine lv_icmp_ne (tgt := 277) hx hb dL_runs_237 (by decide) (fun c_237_34 => ?_) (fun c_237_34 => ?_)
                          · replace h := h.1 c_237_34
                            refine lv_iconst (v := (0 : Int32)) hx hb dL_runs_277 (by decide) ?_
                            exact W.zret (v := (0 : Int32)) hx hb hr rfl (fun t ht hW => ⟨⟨(0 : Int32), ws, rfl, ⟨V_17, hAW, h⟩, by rw [ht]; exact hP, hD⟩, hS.F ht⟩) hS.2.2 dL_runs_278
                          · replace h := h.2 c_237_34
                            refine lv_iload hx hb dL_runs_240 (lv_at hl 10 rfl) ?_
                            refine lv_bipush (v := (-109 : Int32)) hx hb dL_runs_242 (by decide) ?_
                            refine lv_icmp_eq (tgt := 279) hx hb dL_runs_244 (by decide) (fun c_244_35 => ?_) (fun c_244_35 => ?_)
                            · replace h := h.1 c_244_35
                              obtain ⟨v8_37, e_v8_37⟩ : ∃ y : Int32, y = v8_8 + (1 : Int32) := ⟨_, rfl⟩
                              replace h := h v8_37 e_v8_37
                              refine lv_iinc (v := v8_37) (lv' := [(8, .int v8_37), (7, .int v7_23), (5, .int v5_21), (14, .int t_20), (13, .int r93_18), (4, .int r86_16), (12, .int t_15), (11, .int r52_13), (10, .int r45_12), (9, .int r38_11), (6, .int r19_3), (3, .int r8_2), (2, .int r2_1), (0, .ref (a.1 0)), (1, .int a_2)]) hx hb dL_runs_279 hl (k := 9) rfl (by rw [e_v8_37]; rfl) (by decide) rfl (fun ls hl => ?_)
                              refine lv_goto (tgt := 30) hx hb dL_runs_282 (by decide) ?_
                              exact ih_1 r86_16 v5_21 v7_23 v8_37 V_17 ws H locs ls h hAW hP hD hS (lv_sub hl [0, 1, 10, 2, 5, 11, 12, 13, 14] rfl)
                            · replace h := h.2 c_244_35
                              refine lv_iload hx hb dL_runs_247 (lv_at hl 0 rfl) ?_
                              refine lv_sipush (v := (720 : Int32)) hx hb dL_runs_249 (by decide) ?_
                              have tail_4 : ∀ (t_38 : Int32) (ws : va_W) (H : Heap) (locs : List Loc) (ls : Array Slot), PL_runs_J4 k r19_3 (PL_runs_L1 a_2 k r8_2 r19_3 kx_1 n_1) v8_8 r86_16 V_17 v5_21 v7_23 t_38 → AW g a V_17 ws → va_P g.1 vwCl ws H → va_D A ws → va_S A s.heap H locs → lv_has ls 15 [(7, .int v7_23), (5, .int v5_21), (14, .int t_20), (13, .int r93_18), (4, .int r86_16), (12, .int t_15), (11, .int r52_13), (10, .int r45_12), (9, .int r38_11), (8, .int v8_8), (6, .int r19_3), (3, .int r8_2), (2, .int r2_1), (0, .ref (a.1 0)), (1, .int a_2)] → W p l e (headSpec wsL_runs ({ frames := 7, cells := 0, slots := 0, locals := 151 })).room s m ([.ref (a.1 0), .int a_2] : List Value).toArray below meth c H locs 0 0 (MQ below (va_Qi (fun (r : Int32) (u : va_W) => ∃ V' : VS, AW g a V' u ∧ k r V') (fun u t => PostB g A u t) A) ([.ref (a.1 0), .int a_2] : List Value).toArray s 0 0 A) (F0 m 260 ls [.int t_38]) := by
                                intro t_38 ws H locs ls h hAW hP hD hS hl
                                unfold PL_runs_J4 at h
                                refine lv_iload hx hb dL_runs_260 (lv_at hl 9 rfl) ?_
                                refine lv_iconst (v := (1 : Int32)) hx hb dL_runs_262 (by decide) ?_
                                refine lv_iadd hx hb dL_runs_263 ?_
                                refine lv_iload hx hb dL_runs_264 (lv_at hl 10 rfl) ?_
                                have tail_5 : ∀ (t_39 : Int32) (ws : va_W) (H : Heap) (locs : List Loc) (ls : Array Slot), PL_runs_J5 k (PL_runs_L1 a_2 k r8_2 r19_3 kx_1 n_1) v8_8 r86_16 V_17 v5_21 v7_23 t_38 t_39 → AW g a V_17 ws → va_P g.1 vwCl ws H → va_D A ws → va_S A s.heap H locs → lv_has ls 15 [(7, .int v7_23), (5, .int v5_21), (14, .int t_20), (13, .int r93_18), (4, .int r86_16), (12, .int t_15), (11, .int r52_13), (10, .int r45_12), (9, .int r38_11), (8, .int v8_8), (6, .int r19_3), (3, .int r8_2), (2, .int r2_1), (0, .ref (a.1 0)), (1, .int a_2)] → W p l e (headSpec wsL_runs ({ frames := 7, cells := 0, slots := 0, locals := 151 })).room s m ([.ref (a.1 0), .int a_2] : List Value).toArray below meth c H locs 0 0 (MQ below (va_Qi (fun (r : Int32) (u : va_W) => ∃ V' : VS, AW g a V' u ∧ k r V') (fun u t => PostB g A u t) A) ([.ref (a.1 0), .int a_2] : List Value).toArray s 0 0 A) (F0 m 274 ls [.int t_39, .int t_38]) := by
                                  intro t_39 ws H locs ls h hAW hP hD hS hl
                                  unfold PL_runs_J5 at h
                                  refine lv_icmp_eq (tgt := 279) hx hb dL_runs_274 (by decide) (fun c_274_39 => ?_) (fun c_274_39 => ?_)
                                  · replace h := h.1 c_274_39
                                    obtain ⟨v8_41, e_v8_41⟩ : ∃ y : Int32, y = v8_8 + (1 : Int32) := ⟨_, rfl⟩
                                    replace h := h v8_41 e_v8_41
                                    refine lv_iinc (v := v8_41) (lv' := [(8, .int v8_41), (7, .int v7_23), (5, .int v5_21), (14, .int t_20), (13, .int r93_18), (4, .int r86_16), (12, .int t_15), (11, .int r52_13), (10, .int r45_12), (9, .int r38_11), (6, .int r19_3), (3, .int r8_2), (2, .int r2_1), (0, .ref (a.1 0)), (1, .int a_2)]) hx hb dL_runs_279 hl (k := 9) rfl (by rw [e_v8_41]; rfl) (by decide) rfl (fun ls hl => ?_)
                                    refine lv_goto (tgt := 30) hx hb dL_runs_282 (by decide) ?_
                                    exact ih_1 r86_16 v5_21 v7_23 v8_41 V_17 ws H locs ls h hAW hP hD hS (lv_sub hl [0, 1, 10, 2, 5, 11, 12, 13, 14] rfl)
                                  · replace h := h.2 c_274_39
                                    refine lv_iconst (v := (0 : Int32)) hx hb dL_runs_277 (by decide) ?_
                                    exact W.zret (v := (0 : Int32)) hx hb hr rfl (fun t ht hW => ⟨⟨(0 : Int32), ws, rfl, ⟨V_17, hAW, h⟩, by rw [ht]; exact hP, hD⟩, hS.F ht⟩) hS.2.2 dL_runs_278
                                refine lv_icmp_lt (tgt := 273) hx hb dL_runs_266 (by decide) (fun c_266_41 => ?_) (fun c_266_41 => ?_)
                                · replace h := h.1 c_266_41
                                  refine lv_iconst (v := (0 : Int32)) hx hb dL_runs_273 (by decide) ?_
                                  exact tail_5 (0 : Int32) ws H locs ls h hAW hP hD hS (lv_sub hl [0, 1, 2, 3, 4, 5, 6, 7, 8, 9, 10, 11, 12, 13, 14] rfl)
                                · replace h := h.2 c_266_41
                                  refine lv_iconst (v := (1 : Int32)) hx hb dL_runs_269 (by decide) ?_
                                  refine lv_goto (tgt := 274) hx hb dL_runs_270 (by decide) ?_
                                  exact tail_5 (1 : Int32) ws H locs ls h hAW hP hD hS (lv_sub hl [0, 1, 2, 3, 4, 5, 6, 7, 8, 9, 10, 11, 12, 13, 14] rfl)
                              refine lv_icmp_lt (tgt := 259) hx hb dL_runs_252 (by decide) (fun c_252_42 => ?_) (fun c_252_42 => ?_)
                              · replace h := h.1 c_252_42
                                refine lv_iconst (v := (0 : Int32)) hx hb dL_runs_259 (by decide) ?_
                                exact tail_4 (0 : Int32) ws H locs ls h hAW hP hD hS (lv_sub hl [0, 1, 2, 3, 4, 5, 6, 7, 8, 9, 10, 11, 12, 13, 14] rfl)
                              · replace h := h.2 c_252_42
                                refine lv_iconst (v := (1 : Int32)) hx hb dL_runs_255 (by decide) ?_
                                refine lv_goto (tgt := 260) hx hb dL_runs_256 (by decide) ?_
                                exact tail_4 (1 : Int32) ws H locs ls h hAW hP hD hS (lv_sub hl [0, 1, 2, 3, 4, 5, 6, 7, 8, 9, 10, 11, 12, 13, 14] rfl)
          refine lv_icmp_le (tgt := 119) hx hb dL_runs_108 (by decide) (fun c_108_43 => ?_) (fun c_108_43 => ?_)
          · replace h := h.1 c_108_43
            refine lv_aload_n hx hb dL_runs_119 rfl (lv_at hl 12 rfl) ?_
            refine lv_iconst (v := (0 : Int32)) hx hb dL_runs_120 (by decide) ?_
            obtain ⟨fs9, heA⟩ := hAW.recv
            refine vp_callSi (W.runV (As := [.int (0 : Int32)]) (rest := []) ⟨hx, hb, hml, hown, hts⟩ (a_setting l g a V_17 ws hAW (0 : Int32) _ h) (cwV 1 hts gL_runs_X4_setting rfl rfl rfl hdX4_setting ⟨(Nat.le_of_ble_eq_true rfl), (Nat.le_of_ble_eq_true rfl)⟩) (preV_R (r := (RX4, TX4, 9)) hK hP (ci := 4) (q0 := 0) rfl heA) rfl rfl hl.1 rfl (lv_room (Nat.le_of_ble_eq_true rfl)) dL_runs_121 ⟨(Nat.le_of_ble_eq_true rfl), (Nat.le_of_ble_eq_true rfl)⟩) (fun r121_45 h => ?_)
            clear heA fs9
            refine lv_iload hx hb dL_runs_124 (lv_at hl 5 rfl) ?_
            refine lv_iload hx hb dL_runs_126 (lv_at hl 2 rfl) ?_
            refine lv_isub hx hb dL_runs_128 ?_
            refine lv_icmp_ge (tgt := 140) hx hb dL_runs_129 (by decide) (fun c_129_45 => ?_) (fun c_129_45 => ?_)
            · replace h := h.1 c_129_45
              refine lv_aload_n hx hb dL_runs_140 rfl (lv_at hl 12 rfl) ?_
              refine lv_iconst (v := (0 : Int32)) hx hb dL_runs_141 (by decide) ?_
              obtain ⟨fs9, heA⟩ := hAW.recv
              refine vp_callSi (W.runV (As := [.int (0 : Int32)]) (rest := []) ⟨hx, hb, hml, hown, hts⟩ (a_setting l g a V_17 ws hAW (0 : Int32) _ h) (cwV 1 hts gL_runs_X4_setting rfl rfl rfl hdX4_setting ⟨(Nat.le_of_ble_eq_true rfl), (Nat.le_of_ble_eq_true rfl)⟩) (preV_R (r := (RX4, TX4, 9)) hK hP (ci := 4) (q0 := 0) rfl heA) rfl rfl hl.1 rfl (lv_room (Nat.le_of_ble_eq_true rfl)) dL_runs_142 ⟨(Nat.le_of_ble_eq_true rfl), (Nat.le_of_ble_eq_true rfl)⟩) (fun r142_47 h => ?_)
              clear heA fs9
              exact tail_3 r142_47 ws H locs ls h hAW hP hD hS (lv_sub hl [0, 1, 2, 3, 4, 5, 6, 7, 8, 9, 10, 11, 12, 13] rfl)
            · replace h := h.2 c_129_45
              refine lv_iload hx hb dL_runs_132 (lv_at hl 5 rfl) ?_
              refine lv_iload hx hb dL_runs_134 (lv_at hl 2 rfl) ?_
              refine lv_isub hx hb dL_runs_136 ?_
              refine lv_goto (tgt := 145) hx hb dL_runs_137 (by decide) ?_
              exact tail_3 (r38_11 - t_15) ws H locs ls h hAW hP hD hS (lv_sub hl [0, 1, 2, 3, 4, 5, 6, 7, 8, 9, 10, 11, 12, 13] rfl)
          · replace h := h.2 c_108_43
            refine lv_iload hx hb dL_runs_111 (lv_at hl 5 rfl) ?_
            refine lv_iload hx hb dL_runs_113 (lv_at hl 2 rfl) ?_
            refine lv_iadd hx hb dL_runs_115 ?_
            refine lv_goto (tgt := 145) hx hb dL_runs_116 (by decide) ?_
            exact tail_3 (r38_11 + t_15) ws H locs ls h hAW hP hD hS (lv_sub hl [0, 1, 2, 3, 4, 5, 6, 7, 8, 9, 10, 11, 12, 13] rfl)
        refine lv_icmp_le (tgt := 77) hx hb dL_runs_64 (by decide) (fun c_64_47 => ?_) (fun c_64_47 => ?_)
        · replace h := h.1 c_64_47
          refine lv_aload_n hx hb dL_runs_77 rfl (lv_at hl 10 rfl) ?_
          refine lv_iconst (v := (1 : Int32)) hx hb dL_runs_78 (by decide) ?_
          obtain ⟨fs9, heA⟩ := hAW.recv
          refine vp_callSi (W.runV (As := [.int (1 : Int32)]) (rest := []) ⟨hx, hb, hml, hown, hts⟩ (a_setting l g a V_9 ws hAW (1 : Int32) _ h) (cwV 1 hts gL_runs_X4_setting rfl rfl rfl hdX4_setting ⟨(Nat.le_of_ble_eq_true rfl), (Nat.le_of_ble_eq_true rfl)⟩) (preV_R (r := (RX4, TX4, 9)) hK hP (ci := 4) (q0 := 0) rfl heA) rfl rfl hl.1 rfl (lv_room (Nat.le_of_ble_eq_true rfl)) dL_runs_79 ⟨(Nat.le_of_ble_eq_true rfl), (Nat.le_of_ble_eq_true rfl)⟩) (fun r79_49 h => ?_)
          clear heA fs9
          exact tail_2 r79_49 ws H locs ls h hAW hP hD hS (lv_sub hl [0, 1, 2, 3, 4, 5, 6, 7, 8, 9, 10, 11] rfl)
        · replace h := h.2 c_64_47
          refine lv_aload_n hx hb dL_runs_67 rfl (lv_at hl 10 rfl) ?_
          refine lv_iconst (v := (1 : Int32)) hx hb dL_runs_68 (by decide) ?_
          obtain ⟨fs9, heA⟩ := hAW.recv
          refine vp_callSi (W.runV (As := [.int (1 : Int32)]) (rest := []) ⟨hx, hb, hml, hown, hts⟩ (a_setting l g a V_9 ws hAW (1 : Int32) _ h) (cwV 1 hts gL_runs_X4_setting rfl rfl rfl hdX4_setting ⟨(Nat.le_of_ble_eq_true rfl), (Nat.le_of_ble_eq_true rfl)⟩) (preV_R (r := (RX4, TX4, 9)) hK hP (ci := 4) (q0 := 0) rfl heA) rfl rfl hl.1 rfl (lv_room (Nat.le_of_ble_eq_true rfl)) dL_runs_69 ⟨(Nat.le_of_ble_eq_true rfl), (Nat.le_of_ble_eq_true rfl)⟩) (fun r69_50 h => ?_)
          clear heA fs9
          refine lv_iconst (v := (2 : Int32)) hx hb dL_runs_72 (by decide) ?_
          refine lv_idiv hx hb dL_runs_73 (by decide) ?_
          refine lv_goto (tgt := 82) hx hb dL_runs_74 (by decide) ?_
          exact tail_2 (r69_50 / (2 : Int32)) ws H locs ls h hAW hP hD hS (lv_sub hl [0, 1, 2, 3, 4, 5, 6, 7, 8, 9, 10, 11] rfl)
  obtain ⟨n_1, h⟩ := h
  refine loop_1 _ ?_ n_1 (0 : Int32) (0 : Int32) (0 : Int32) (0 : Int32) V_4 _ _ _ ls h hAW hP hD hS (lv_sub hl [0, 1, 2, 3, 4, 5, 6, 7, 8] rfl)
  intro v4_5 v5_6 v7_7 v8_8 V_9 ws H locs ls h hAW hP hD hS hl
  refine lv_aload_n hx hb dL_runs_285 rfl (lv_at hl 7 rfl) ?_
  refine lv_iconst (v := (1 : Int32)) hx hb dL_runs_286 (by decide) ?_
  obtain ⟨fs9, heA⟩ := hAW.recv
  refine vp_callSi (W.runV (As := [.int (1 : Int32)]) (rest := []) ⟨hx, hb, hml, hown, hts⟩ (a_count l g a V_9 ws hAW (1 : Int32) _ h) (cwV 1 hts gL_runs_X4_count rfl rfl rfl hdX4_count ⟨(Nat.le_of_ble_eq_true rfl), (Nat.le_of_ble_eq_true rfl)⟩) (preV_R (r := (RX4, TX4, 9)) hK hP (ci := 4) (q0 := 0) rfl heA) rfl rfl hl.1 rfl (lv_room (Nat.le_of_ble_eq_true rfl)) dL_runs_287 ⟨(Nat.le_of_ble_eq_true rfl), (Nat.le_of_ble_eq_true rfl)⟩) (fun r287_51 h => ?_)
  clear heA fs9
  refine lv_iload_n hx hb dL_runs_290 rfl (lv_at hl 6 rfl) ?_
  refine lv_iload hx hb dL_runs_291 (lv_at hl 3 rfl) ?_
  refine lv_sipush (v := (720 : Int32)) hx hb dL_runs_293 (by decide) ?_
  refine lv_irem hx hb dL_runs_296 (by decide) ?_
  refine lv_iadd hx hb dL_runs_297 ?_
  refine lv_sipush (v := (720 : Int32)) hx hb dL_runs_298 (by decide) ?_
  refine lv_iadd hx hb dL_runs_301 ?_
  refine lv_sipush (v := (720 : Int32)) hx hb dL_runs_302 (by decide) ?_
  refine lv_irem hx hb dL_runs_305 (by decide) ?_
  refine lv_icmp_ne (tgt := 335) hx hb dL_runs_306 (by decide) (fun c_306_51 => ?_) (fun c_306_51 => ?_)
  · replace h := h.1 c_306_51
    refine lv_iconst (v := (0 : Int32)) hx hb dL_runs_335 (by decide) ?_
    exact W.zret (v := (0 : Int32)) hx hb hr rfl (fun t ht hW => ⟨⟨(0 : Int32), ws, rfl, ⟨V_9, hAW, h⟩, by rw [ht]; exact hP, hD⟩, hS.F ht⟩) hS.2.2 dL_runs_336
  · replace h := h.2 c_306_51
    refine lv_iload hx hb dL_runs_309 (lv_at hl 2 rfl) ?_
    refine lv_bipush (v := (-109 : Int32)) hx hb dL_runs_311 (by decide) ?_
    have tail_6 : ∀ (ws : va_W) (H : Heap) (locs : List Loc) (ls : Array Slot), PL_runs_J6 k V_9  → AW g a V_9 ws → va_P g.1 vwCl ws H → va_D A ws → va_S A s.heap H locs → lv_has ls 15 [(8, .int v8_8), (7, .int v7_7), (6, .int r19_3), (5, .int v5_6), (4, .int v4_5), (3, .int r8_2), (2, .int r2_1), (0, .ref (a.1 0)), (1, .int a_2)] → W p l e (headSpec wsL_runs ({ frames := 7, cells := 0, slots := 0, locals := 151 })).room s m ([.ref (a.1 0), .int a_2] : List Value).toArray below meth c H locs 0 0 (MQ below (va_Qi (fun (r : Int32) (u : va_W) => ∃ V' : VS, AW g a V' u ∧ k r V') (fun u t => PostB g A u t) A) ([.ref (a.1 0), .int a_2] : List Value).toArray s 0 0 A) (F0 m 331 ls []) := by
      intro  ws H locs ls h hAW hP hD hS hl
      unfold PL_runs_J6 at h
      refine lv_iconst (v := (1 : Int32)) hx hb dL_runs_331 (by decide) ?_
      refine lv_goto (tgt := 336) hx hb dL_runs_332 (by decide) ?_
      exact W.zret (v := (1 : Int32)) hx hb hr rfl (fun t ht hW => ⟨⟨(1 : Int32), ws, rfl, ⟨V_9, hAW, h⟩, by rw [ht]; exact hP, hD⟩, hS.F ht⟩) hS.2.2 dL_runs_336
    refine lv_icmp_eq (tgt := 331) hx hb dL_runs_313 (by decide) (fun c_313_52 => ?_) (fun c_313_52 => ?_)
    · replace h := h.1 c_313_52
      exact tail_6  ws H locs ls h hAW hP hD hS (lv_sub hl [0, 1, 2, 3, 4, 5, 6, 7, 8] rfl)
    · replace h := h.2 c_313_52
      refine lv_iload hx hb dL_runs_316 (lv_at hl 2 rfl) ?_
      refine lv_bipush (v := (11 : Int32)) hx hb dL_runs_318 (by decide) ?_
      refine lv_icmp_le (tgt := 335) hx hb dL_runs_320 (by decide) (fun c_320_53 => ?_) (fun c_320_53 => ?_)
      · replace h := h.1 c_320_53
        refine lv_iconst (v := (0 : Int32)) hx hb dL_runs_335 (by decide) ?_
        exact W.zret (v := (0 : Int32)) hx hb hr rfl (fun t ht hW => ⟨⟨(0 : Int32), ws, rfl, ⟨V_9, hAW, h⟩, by rw [ht]; exact hP, hD⟩, hS.F ht⟩) hS.2.2 dL_runs_336
      · replace h := h.2 c_320_53
        refine lv_iload hx hb dL_runs_323 (lv_at hl 2 rfl) ?_
        refine lv_sipush (v := (501 : Int32)) hx hb dL_runs_325 (by decide) ?_
        refine lv_icmp_ge (tgt := 335) hx hb dL_runs_328 (by decide) (fun c_328_54 => ?_) (fun c_328_54 => ?_)
        · replace h := h.1 c_328_54
          refine lv_iconst (v := (0 : Int32)) hx hb dL_runs_335 (by decide) ?_
          exact W.zret (v := (0 : Int32)) hx hb hr rfl (fun t ht hW => ⟨⟨(0 : Int32), ws, rfl, ⟨V_9, hAW, h⟩, by rw [ht]; exact hP, hD⟩, hS.F ht⟩) hS.2.2 dL_runs_336
        · replace h := h.2 c_328_54
          exact tail_6  ws H locs ls h hAW hP hD hS (lv_sub hl [0, 1, 2, 3, 4, 5, 6, 7, 8] rfl)
