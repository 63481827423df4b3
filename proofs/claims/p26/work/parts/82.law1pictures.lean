def PL_pictures_J4 (lb_2 : Int32 → Int32 → Prop) (v5_6 : Int32)  : Prop := (∀ v5_11 : Int32, v5_11 = v5_6 + (1 : Int32) → lb_2 (0 : Int32) v5_11)
def PL_pictures_J3 (lb_2 : Int32 → Int32 → Prop) (v5_6 : Int32)  : Prop := (∀ v5_8 : Int32, v5_8 = v5_6 + (1 : Int32) → lb_2 (1 : Int32) v5_8)
def PL_pictures_L2 (V : VS) (r2_1 : Int32) (v3_3 : Int32) (kx_2 : Int32 → Int32 → Prop) : Nat → Int32 → Int32 → Prop
  | 0, _, _ => False
  | n_2 + 1, v4_5, v5_6 => ((r2_1 ≤ v5_6 → kx_2 v4_5 v5_6) ∧ (¬ r2_1 ≤ v5_6 → ((¬ v4_5 = 0 → (PL_pictures_J3 (PL_pictures_L2 V r2_1 v3_3 kx_2 n_2) v5_6)) ∧ (v4_5 = 0 → PA_picture V v5_6 (3 : Int32) (fun r38_10 => ((r38_10 = (2 : Int32) → (PL_pictures_J4 (PL_pictures_L2 V r2_1 v3_3 kx_2 n_2) v5_6)) ∧ (¬ r38_10 = (2 : Int32) → PA_columnAt V v5_6 v3_3 (fun r49_13 => ((r49_13 = (-109 : Int32) → (PL_pictures_J4 (PL_pictures_L2 V r2_1 v3_3 kx_2 n_2) v5_6)) ∧ (¬ r49_13 = (-109 : Int32) → (PL_pictures_J3 (PL_pictures_L2 V r2_1 v3_3 kx_2 n_2) v5_6)))))))))))
def PL_pictures_J5 (lb_1 : Int32 → Int32 → Prop) (v2_2 : Int32) (v3_3 : Int32) (t_15 : Int32) : Prop := (∀ v2_16 : Int32, v2_16 = (v2_2 + t_15) → (∀ v3_17 : Int32, v3_17 = v3_3 + (1 : Int32) → lb_1 v2_16 v3_17))
def PL_pictures_L1 (V : VS) (r2_1 : Int32) (kx_1 : Int32 → Int32 → Prop) : Nat → Int32 → Int32 → Prop
  | 0, _, _ => False
  | n_1 + 1, v2_2, v3_3 => (((720 : Int32) ≤ v3_3 → kx_1 v2_2 v3_3) ∧ (¬ (720 : Int32) ≤ v3_3 → (∃ n_2, PL_pictures_L2 V r2_1 v3_3 (fun v4_5 v5_6 => ((v4_5 = 0 → (PL_pictures_J5 (PL_pictures_L1 V r2_1 kx_1 n_1) v2_2 v3_3) (0 : Int32)) ∧ (¬ v4_5 = 0 → (PL_pictures_J5 (PL_pictures_L1 V r2_1 kx_1 n_1) v2_2 v3_3) (1 : Int32)))) n_2 (0 : Int32) (0 : Int32))))
def PL_pictures_J8 (V : VS) (k : Int32 → VS → Prop) (r102_21 : Int32) (lb_7 : Int32 → Int32 → Prop) (v4_22 : Int32) (v6_23 : Int32) (r122_25 : Int32) (t_26 : Int32) : Prop := (∀ v4_27 : Int32, v4_27 = (v4_22 + t_26) → ((r122_25 = (-109 : Int32) → (∀ v6_29 : Int32, v6_29 = v6_23 + (1 : Int32) → lb_7 v4_27 v6_29)) ∧ (¬ r122_25 = (-109 : Int32) → ((r122_25 < 0 → (k (0 : Int32) V)) ∧ (¬ r122_25 < 0 → ((r122_25 < r102_21 → (∀ v6_32 : Int32, v6_32 = v6_23 + (1 : Int32) → lb_7 v4_27 v6_32)) ∧ (¬ r122_25 < r102_21 → (k (0 : Int32) V))))))))
def PL_pictures_L7 (V : VS) (k : Int32 → VS → Prop) (v3_19 : Int32) (r102_21 : Int32) (kx_7 : Int32 → Int32 → Prop) : Nat → Int32 → Int32 → Prop
  | 0, _, _ => False
  | n_7 + 1, v4_22, v6_23 => (((720 : Int32) ≤ v6_23 → kx_7 v4_22 v6_23) ∧ (¬ (720 : Int32) ≤ v6_23 → PA_columnAt V v3_19 v6_23 (fun r122_25 => ((¬ r122_25 = (-109 : Int32) → (PL_pictures_J8 V k r102_21 (PL_pictures_L7 V k v3_19 r102_21 kx_7 n_7) v4_22 v6_23 r122_25) (1 : Int32)) ∧ (r122_25 = (-109 : Int32) → (PL_pictures_J8 V k r102_21 (PL_pictures_L7 V k v3_19 r102_21 kx_7 n_7) v4_22 v6_23 r122_25) (0 : Int32))))))
def PL_pictures_J12 (V : VS) (k : Int32 → VS → Prop) (lb_10 : Int32 → Prop) (v7_45 : Int32) (t_47 : Int32)  : Prop := ((t_47 = 0 → (∀ v7_56 : Int32, v7_56 = v7_45 + (1 : Int32) → lb_10 v7_56)) ∧ (¬ t_47 = 0 → (k (0 : Int32) V)))
def PL_pictures_J11 (V : VS) (k : Int32 → VS → Prop) (v3_19 : Int32) (v4_22 : Int32) (lb_10 : Int32 → Prop) (v7_45 : Int32) (t_47 : Int32) : Prop := ((v7_45 = v3_19 → (∀ v7_49 : Int32, v7_49 = v7_45 + (1 : Int32) → lb_10 v7_49)) ∧ (¬ v7_45 = v3_19 → PA_meetings V v7_45 v3_19 (fun r283_50 => ((¬ t_47 = r283_50 → (k (0 : Int32) V)) ∧ (t_47 = r283_50 → ((t_47 < 0 → (k (0 : Int32) V)) ∧ (¬ t_47 < 0 → ((((12 : Int32) * v4_22) < t_47 → (k (0 : Int32) V)) ∧ (¬ ((12 : Int32) * v4_22) < t_47 → PA_picture V v3_19 (3 : Int32) (fun r307_54 => ((r307_54 = (2 : Int32) → (PL_pictures_J12 V k lb_10 v7_45 t_47)) ∧ (¬ r307_54 = (2 : Int32) → PA_picture V v3_19 (4 : Int32) (fun r317_58 => ((¬ r317_58 = 0 → (∀ v7_60 : Int32, v7_60 = v7_45 + (1 : Int32) → lb_10 v7_60)) ∧ (r317_58 = 0 → (PL_pictures_J12 V k lb_10 v7_45 t_47))))))))))))))))
def PL_pictures_L10 (V : VS) (k : Int32 → VS → Prop) (r2_1 : Int32) (v3_19 : Int32) (v4_22 : Int32) (kx_10 : Int32 → Prop) : Nat → Int32 → Prop
  | 0, _ => False
  | n_10 + 1, v7_45 => ((r2_1 ≤ v7_45 → kx_10 v7_45) ∧ (¬ r2_1 ≤ v7_45 → ((¬ v7_45 = v3_19 → PA_meetings V v3_19 v7_45 (fun r266_62 => (PL_pictures_J11 V k v3_19 v4_22 (PL_pictures_L10 V k r2_1 v3_19 v4_22 kx_10 n_10) v7_45) r266_62)) ∧ (v7_45 = v3_19 → (PL_pictures_J11 V k v3_19 v4_22 (PL_pictures_L10 V k r2_1 v3_19 v4_22 kx_10 n_10) v7_45) (0 : Int32)))))
def PL_pictures_J9 (V : VS) (k : Int32 → VS → Prop) (r2_1 : Int32) (lb_6 : Int32 → Prop) (v3_19 : Int32) (r102_21 : Int32) (v4_22 : Int32) (r179_35 : Int32) (t_39 : Int32) : Prop := ((¬ r179_35 = t_39 → (k (0 : Int32) V)) ∧ (r179_35 = t_39 → PA_picture V v3_19 (4 : Int32) (fun r221_41 => ((r221_41 < 0 → (k (0 : Int32) V)) ∧ (¬ r221_41 < 0 → PA_picture V v3_19 (4 : Int32) (fun r230_43 => ((r230_43 ≤ ((12 : Int32) * r102_21) → (∃ n_10, PL_pictures_L10 V k r2_1 v3_19 v4_22 (fun v7_45 => (∀ v3_63 : Int32, v3_63 = v3_19 + (1 : Int32) → lb_6 v3_63)) n_10 (0 : Int32))) ∧ (¬ r230_43 ≤ ((12 : Int32) * r102_21) → (k (0 : Int32) V)))))))))
def PL_pictures_L6 (V : VS) (k : Int32 → VS → Prop) (r2_1 : Int32) (kx_6 : Int32 → Prop) : Nat → Int32 → Prop
  | 0, _ => False
  | n_6 + 1, v3_19 => ((r2_1 ≤ v3_19 → kx_6 v3_19) ∧ (¬ r2_1 ≤ v3_19 → PA_picture V v3_19 (0 : Int32) (fun r102_21 => (∃ n_7, PL_pictures_L7 V k v3_19 r102_21 (fun v4_22 v6_23 => PA_picture V v3_19 (1 : Int32) (fun r176_34 => PA_columnAt V v3_19 r176_34 (fun r179_35 => PA_picture V v3_19 (5 : Int32) (fun r189_36 => ((¬ v4_22 = r189_36 → (k (0 : Int32) V)) ∧ (v4_22 = r189_36 → PA_picture V v3_19 (3 : Int32) (fun r200_38 => ((¬ r200_38 = (1 : Int32) → (PL_pictures_J9 V k r2_1 (PL_pictures_L6 V k r2_1 kx_6 n_6) v3_19 r102_21 v4_22 r179_35) (0 : Int32)) ∧ (r200_38 = (1 : Int32) → (PL_pictures_J9 V k r2_1 (PL_pictures_L6 V k r2_1 kx_6 n_6) v3_19 r102_21 v4_22 r179_35) (r102_21 - (1 : Int32))))))))))) n_7 (0 : Int32) (0 : Int32)))))
def PL_pictures (V : VS)  (k : Int32 → VS → Prop) : Prop := PA_count V (0 : Int32) (fun r2_1 => (∃ n_1, PL_pictures_L1 V r2_1 (fun v2_2 v3_3 => (∃ n_6, PL_pictures_L6 V k r2_1 (fun v3_19 => PA_gaps V (3 : Int32) (fun r344_65 V_66 => PA_gaps V_66 (0 : Int32) (fun r350_67 V_68 => ((¬ r350_67 = v2_2 → (k (0 : Int32) V_68)) ∧ (r350_67 = v2_2 → ((v2_2 < r344_65 → (k (0 : Int32) V_68)) ∧ (¬ v2_2 < r344_65 → PA_gaps V_68 (40 : Int32) (fun r365_71 V_72 => ((r344_65 < r365_71 → (k (0 : Int32) V_72)) ∧ (¬ r344_65 < r365_71 → PA_count V_72 (5 : Int32) (fun r374_74 => (((8640 : Int32) < r374_74 → (k (0 : Int32) V_72)) ∧ (¬ (8640 : Int32) < r374_74 → PA_count V_72 (6 : Int32) (fun r386_76 => (((8640 : Int32) < r386_76 → (k (0 : Int32) V_72)) ∧ (¬ (8640 : Int32) < r386_76 → (k (1 : Int32) V_72))))))))))))))))) n_6 (0 : Int32))) n_1 (0 : Int32) (0 : Int32)))
theorem hdL_pictures : yL_pictures.cls = RL ∧ yL_pictures.cls ≠ "java/lang/invoke/MethodHandle" ∧ yL_pictures.cls ≠ "java/lang/invoke/VarHandle" ∧ (parseMethodDescriptor yL_pictures.desc).map (fun d => d.parameters.length) = some 1 := by decide +kernel
set_option maxHeartbeats 8000000 in
set_option maxRecDepth 100000 in
theorem kL_pictures (l : Launch) (g : GG) (a : QS) (V : VS) (ws : va_W) (sz : Nat) (hAW : AW g a V ws)  (k : Int32 → VS → Prop) (h : PL_pictures V  k) : Met l yL_pictures wsL_pictures ({ frames := 7, cells := 0, slots := 0, locals := 153 }) (PreMS g [.ref (a.1 0)] ws sz) (va_Qi (fun (r : Int32) (u : va_W) => ∃ V' : VS, AW g a V' u ∧ k r V') (fun u t => PostB g (va_A ws sz) u t) (va_A ws sz)) 0 0 (va_A ws sz) := by
  refine Met_ofWF (cc := cL_pictures) (maxL := 9) (ret := (some .boolean)) (by decide +kernel) rfl ?_
  intro p e s m args below meth c s₁ B hml hv
  obtain ⟨rfl, hsz, hP, hK, hD0, hST⟩ := hv
  have hx := B.exec
  have hb := B.bytes
  have hr := B.returns
  have hts := atoms_spec (ws := wsL_pictures) B.pre
  have hown : s.vm.findClass RL = some m.cls := findClass_of_methodNamed B.named
  have hlocks := B.notSynchronized
  subst hsz
  have hD := hD0.self (sz := s.heap.size)
  generalize hAe : va_A ws s.heap.size = A at hD hST ⊢
  have hA : ∀ q : Nat, s.heap.size ≤ q → A q := fun q h => by rw [← hAe]; exact Or.inr h
  clear hAe hD0
  have hS : va_S A s.heap s.heap [] := va_S.rf
  have hl := lv_entry ([.ref (a.1 0)]) (n := 9) (Nat.le_of_ble_eq_true rfl)
  rw [lg_entry_eq]
  generalize (lg_sl ([.ref (a.1 0)]) ++ List.replicate (9 - (lg_sl ([.ref (a.1 0)])).length) Slot.unset).toArray = ls at hl ⊢
  have hl : lv_has ls 9 [(0, .ref (a.1 0))] := hl
  unfold PL_pictures at h
  obtain ⟨H, hHe⟩ : ∃ y, y = s.heap := ⟨_, rfl⟩
  rw [← hHe] at hP
  have hS : va_S A s.heap H [] := by rw [hHe]; exact hS
  have hW0 : ∀ (Q : State → Prop), W p l e (headSpec wsL_pictures ({ frames := 7, cells := 0, slots := 0, locals := 153 })).room s m ([.ref (a.1 0)] : List Value).toArray below meth c H [] 0 0 Q (F0 m 0 ls []) → W p l e (headSpec wsL_pictures ({ frames := 7, cells := 0, slots := 0, locals := 153 })).room s m ([.ref (a.1 0)] : List Value).toArray below meth c s.heap [] 0 0 Q (F0 m 0 ls []) := by rw [hHe]; exact fun _ h9 => h9
  refine hW0 _ ?_
  clear hW0 hHe
  generalize ([] : List Loc) = locs at hS ⊢
  refine lv_aload_n hx hb dL_pictures_0 rfl (lv_at hl 0 rfl) ?_
  refine lv_iconst (v := (0 : Int32)) hx hb dL_pictures_1 (by decide) ?_
  obtain ⟨fs9, heA⟩ := hAW.recv
  refine vp_callSi (W.runV (As := [.int (0 : Int32)]) (rest := []) ⟨hx, hb, hml, hown, hts⟩ (a_count l g a V ws hAW (0 : Int32) _ h) (cwV 1 hts gL_pictures_X4_count rfl rfl rfl hdX4_count ⟨(Nat.le_of_ble_eq_true rfl), (Nat.le_of_ble_eq_true rfl)⟩) (preV_R (r := (RX4, TX4, 9)) hK hP (ci := 4) (q0 := 0) rfl heA) rfl rfl hl.1 rfl (lv_room (Nat.le_of_ble_eq_true rfl)) dL_pictures_2 ⟨(Nat.le_of_ble_eq_true rfl), (Nat.le_of_ble_eq_true rfl)⟩) (fun r2_1 h => ?_)
  clear heA fs9
  refine lv_istore_n (lv' := [(1, .int r2_1), (0, .ref (a.1 0))]) hx hb dL_pictures_5 rfl hl (by decide) rfl (fun ls hl => ?_)
  refine lv_iconst (v := (0 : Int32)) hx hb dL_pictures_6 (by decide) ?_
  refine lv_istore_n (lv' := [(2, .int (0 : Int32)), (1, .int r2_1), (0, .ref (a.1 0))]) hx hb dL_pictures_7 rfl hl (by decide) rfl (fun ls hl => ?_)
  refine lv_iconst (v := (0 : Int32)) hx hb dL_pictures_8 (by decide) ?_
  refine lv_istore_n (lv' := [(3, .int (0 : Int32)), (2, .int (0 : Int32)), (1, .int r2_1), (0, .ref (a.1 0))]) hx hb dL_pictures_9 rfl hl (by decide) rfl (fun ls hl => ?_)
  have loop_1 : ∀ (kx_1 : Int32 → Int32 → Prop), (∀ (v2_2 : Int32) (v3_3 : Int32) (ws : va_W) (H : Heap) (locs : List Loc) (ls : Array Slot), kx_1 v2_2 v3_3 → AW g a V ws → va_P g.1 vwCl ws H → va_D A ws → va_S A s.heap H locs → lv_has ls 9 [(3, .int v3_3), (2, .int v2_2), (1, .int r2_1), (0, .ref (a.1 0))] → W p l e (headSpec wsL_pictures ({ frames := 7, cells := 0, slots := 0, locals := 153 })).room s m ([.ref (a.1 0)] : List Value).toArray below meth c H locs 0 0 (MQ below (va_Qi (fun (r : Int32) (u : va_W) => ∃ V' : VS, AW g a V' u ∧ k r V') (fun u t => PostB g A u t) A) ([.ref (a.1 0)] : List Value).toArray s 0 0 A) (F0 m 89 ls [])) → ∀ (n_1 : Nat) (v2_2 : Int32) (v3_3 : Int32) (ws : va_W) (H : Heap) (locs : List Loc) (ls : Array Slot), PL_pictures_L1 V r2_1 kx_1 n_1 v2_2 v3_3 → AW g a V ws → va_P g.1 vwCl ws H → va_D A ws → va_S A s.heap H locs → lv_has ls 9 [(3, .int v3_3), (2, .int v2_2), (1, .int r2_1), (0, .ref (a.1 0))] → W p l e (headSpec wsL_pictures ({ frames := 7, cells := 0, slots := 0, locals := 153 })).room s m ([.ref (a.1 0)] : List Value).toArray below meth c H locs 0 0 (MQ below (va_Qi (fun (r : Int32) (u : va_W) => ∃ V' : VS, AW g a V' u ∧ k r V') (fun u t => PostB g A u t) A) ([.ref (a.1 0)] : List Value).toArray s 0 0 A) (F0 m 10 ls []) := by
    intro kx_1 hexit_1 n_1
    induction n_1 with
    | zero => exact fun _ _ _ _ _ _ h _ _ _ _ _ => (h : False).elim
    | succ n_1 ih_1 =>
      intro v2_2 v3_3 ws H locs ls h hAW hP hD hS hl
      unfold PL_pictures_L1 at h
      refine lv_iload_n hx hb dL_pictures_10 rfl (lv_at hl 0 rfl) ?_
      refine lv_sipush (v := (720 : Int32)) hx hb dL_pictures_11 (by decide) ?_
      refine lv_icmp_ge (tgt := 89) hx hb dL_pictures_14 (by decide) (fun c_14_3 => ?_) (fun c_14_3 => ?_)
      · replace h := h.1 c_14_3
        exact hexit_1 v2_2 v3_3 ws H locs ls h hAW hP hD hS (lv_sub hl [0, 1, 2, 3] rfl)
      · replace h := h.2 c_14_3
        refine lv_iconst (v := (0 : Int32)) hx hb dL_pictures_17 (by decide) ?_
        refine lv_istore (lv' := [(4, .int (0 : Int32)), (3, .int v3_3), (2, .int v2_2), (1, .int r2_1), (0, .ref (a.1 0))]) hx hb dL_pictures_18 hl (by decide) rfl (fun ls hl => ?_)
        refine lv_iconst (v := (0 : Int32)) hx hb dL_pictures_20 (by decide) ?_
        refine lv_istore (lv' := [(5, .int (0 : Int32)), (4, .int (0 : Int32)), (3, .int v3_3), (2, .int v2_2), (1, .int r2_1), (0, .ref (a.1 0))]) hx hb dL_pictures_21 hl (by decide) rfl (fun ls hl => ?_)
        have loop_2 : ∀ (kx_2 : Int32 → Int32 → Prop), (∀ (v4_5 : Int32) (v5_6 : Int32) (ws : va_W) (H : Heap) (locs : List Loc) (ls : Array Slot), kx_2 v4_5 v5_6 → AW g a V ws → va_P g.1 vwCl ws H → va_D A ws → va_S A s.heap H locs → lv_has ls 9 [(5, .int v5_6), (4, .int v4_5), (3, .int v3_3), (2, .int v2_2), (1, .int r2_1), (0, .ref (a.1 0))] → W p l e (headSpec wsL_pictures ({ frames := 7, cells := 0, slots := 0, locals := 153 })).room s m ([.ref (a.1 0)] : List Value).toArray below meth c H locs 0 0 (MQ below (va_Qi (fun (r : Int32) (u : va_W) => ∃ V' : VS, AW g a V' u ∧ k r V') (fun u t => PostB g A u t) A) ([.ref (a.1 0)] : List Value).toArray s 0 0 A) (F0 m 70 ls [])) → ∀ (n_2 : Nat) (v4_5 : Int32) (v5_6 : Int32) (ws : va_W) (H : Heap) (locs : List Loc) (ls : Array Slot), PL_pictures_L2 V r2_1 v3_3 kx_2 n_2 v4_5 v5_6 → AW g a V ws → va_P g.1 vwCl ws H → va_D A ws → va_S A s.heap H locs → lv_has ls 9 [(5, .int v5_6), (4, .int v4_5), (3, .int v3_3), (2, .int v2_2), (1, .int r2_1), (0, .ref (a.1 0))] → W p l e (headSpec wsL_pictures ({ frames := 7, cells := 0, slots := 0, locals := 153 })).room s m ([.ref (a.1 0)] : List Value).toArray below meth c H locs 0 0 (MQ below (va_Qi (fun (r : Int32) (u : va_W) => ∃ V' : VS, AW g a V' u ∧ k r V') (fun u t => PostB g A u t) A) ([.ref (a.1 0)] : List Value).toArray s 0 0 A) (F0 m 23 ls []) := by
          intro kx_2 hexit_2 n_2
          induction n_2 with
          | zero => exact fun _ _ _ _ _ _ h _ _ _ _ _ => (h : False).elim
          | succ n_2 ih_2 =>
            intro v4_5 v5_6 ws H locs ls h hAW hP hD hS hl
            unfold PL_pictures_L2 at h
            refine lv_iload hx hb dL_pictures_23 (lv_at hl 0 rfl) ?_
            refine lv_iload_n hx hb dL_pictures_25 rfl (lv_at hl 4 rfl) ?_
            refine lv_icmp_ge (tgt := 70) hx hb dL_pictures_26 (by decide) (fun c_26_6 => ?_) (fun c_26_6 => ?_)
            · replace h := h.1 c_26_6
              exact hexit_2 v4_5 v5_6 ws H locs ls h hAW hP hD hS (lv_sub hl [0, 1, 2, 3, 4, 5] rfl)
            · replace h := h.2 c_26_6
              refine lv_iload hx hb dL_pictures_29 (lv_at hl 1 rfl) ?_
              have tail_3 : ∀ (ws : va_W) (H : Heap) (locs : List Loc) (ls : Array Slot), PL_pictures_J3 (PL_pictures_L2 V r2_1 v3_3 kx_2 n_2) v5_6  → AW g a V ws → va_P g.1 vwCl ws H → va_D A ws → va_S A s.heap H locs → lv_has ls 9 [(5, .int v5_6), (4, .int v4_5), (3, .int v3_3), (2, .int v2_2), (1, .int r2_1), (0, .ref (a.1 0))] → W p l e (headSpec wsL_pictures ({ frames := 7, cells := 0, slots := 0, locals := 153 })).room s m ([.ref (a.1 0)] : List Value).toArray below meth c H locs 0 0 (MQ below (va_Qi (fun (r : Int32) (u : va_W) => ∃ V' : VS, AW g a V' u ∧ k r V') (fun u t => PostB g A u t) A) ([.ref (a.1 0)] : List Value).toArray s 0 0 A) (F0 m 57 ls []) := by
                intro  ws H locs ls h hAW hP hD hS hl
                unfold PL_pictures_J3 at h
                refine lv_iconst (v := (1 : Int32)) hx hb dL_pictures_57 (by decide) ?_
                refine lv_goto (tgt := 62) hx hb dL_pictures_58 (by decide) ?_
                refine lv_istore (lv' := [(4, .int (1 : Int32)), (5, .int v5_6), (3, .int v3_3), (2, .int v2_2), (1, .int r2_1), (0, .ref (a.1 0))]) hx hb dL_pictures_62 hl (by decide) rfl (fun ls hl => ?_)
                obtain ⟨v5_8, e_v5_8⟩ : ∃ y : Int32, y = v5_6 + (1 : Int32) := ⟨_, rfl⟩
                replace h := h v5_8 e_v5_8
                refine lv_iinc (v := v5_8) (lv' := [(5, .int v5_8), (4, .int (1 : Int32)), (3, .int v3_3), (2, .int v2_2), (1, .int r2_1), (0, .ref (a.1 0))]) hx hb dL_pictures_64 hl (k := 1) rfl (by rw [e_v5_8]; rfl) (by decide) rfl (fun ls hl => ?_)
                refine lv_goto (tgt := 23) hx hb dL_pictures_67 (by decide) ?_
                exact ih_2 (1 : Int32) v5_8 ws H locs ls h hAW hP hD hS (lv_sub hl [0, 1, 2, 3, 4, 5] rfl)
              refine lv_if_ne (tgt := 57) hx hb dL_pictures_31 (by decide) (fun c_31_8 => ?_) (fun c_31_8 => ?_)
              · replace h := h.1 c_31_8
                exact tail_3  ws H locs ls h hAW hP hD hS (lv_sub hl [0, 1, 2, 3, 4, 5] rfl)
              · replace h := h.2 c_31_8
                refine lv_aload_n hx hb dL_pictures_34 rfl (lv_at hl 5 rfl) ?_
                refine lv_iload hx hb dL_pictures_35 (lv_at hl 0 rfl) ?_
                refine lv_iconst (v := (3 : Int32)) hx hb dL_pictures_37 (by decide) ?_
                obtain ⟨fs9, heA⟩ := hAW.recv
                refine vp_callSi (W.runV (As := [.int v5_6, .int (3 : Int32)]) (rest := []) ⟨hx, hb, hml, hown, hts⟩ (a_picture l g a V ws hAW v5_6 (3 : Int32) _ h) (cwV 2 hts gL_pictures_X4_picture rfl rfl rfl hdX4_picture ⟨(Nat.le_of_ble_eq_true rfl), (Nat.le_of_ble_eq_true rfl)⟩) (preV_R (r := (RX4, TX4, 9)) hK hP (ci := 4) (q0 := 0) rfl heA) rfl rfl hl.1 rfl (lv_room (Nat.le_of_ble_eq_true rfl)) dL_pictures_38 ⟨(Nat.le_of_ble_eq_true rfl), (Nat.le_of_ble_eq_true rfl)⟩) (fun r38_10 h => ?_)
                clear heA fs9
                refine lv_iconst (v := (2 : Int32)) hx hb dL_pictures_41 (by decide) ?_
                have tail_4 : ∀ (ws : va_W) (H : Heap) (locs : List Loc) (ls : Array Slot), PL_pictures_J4 (PL_pictures_L2 V r2_1 v3_3 kx_2 n_2) v5_6  → AW g a V ws → va_P g.1 vwCl ws H → va_D A ws → va_S A s.heap H locs → lv_has ls 9 [(5, .int v5_6), (4, .int v4_5), (3, .int v3_3), (2, .int v2_2), (1, .int r2_1), (0, .ref (a.1 0))] → W p l e (headSpec wsL_pictures ({ frames := 7, cells := 0, slots := 0, locals := 153 })).room s m ([.ref (a.1 0)] : List Value).toArray below meth c H locs 0 0 (MQ below (va_Qi (fun (r : Int32) (u : va_W) => ∃ V' : VS, AW g a V' u ∧ k r V') (fun u t => PostB g A u t) A) ([.ref (a.1 0)] : List Value).toArray s 0 0 A) (F0 m 62 ls [.int (0 : Int32)]) := by
                  intro  ws H locs ls h hAW hP hD hS hl
                  unfold PL_pictures_J4 at h
                  refine lv_istore (lv' := [(4, .int (0 : Int32)), (5, .int v5_6), (3, .int v3_3), (2, .int v2_2), (1, .int r2_1), (0, .ref (a.1 0))]) hx hb dL_pictures_62 hl (by decide) rfl (fun ls hl => ?_)
                  obtain ⟨v5_11, e_v5_11⟩ : ∃ y : Int32, y = v5_6 + (1 : Int32) := ⟨_, rfl⟩
                  replace h := h v5_11 e_v5_11
                  refine lv_iinc (v := v5_11) (lv' := [(5, .int v5_11), (4, .int (0 : Int32)), (3, .int v3_3), (2, .int v2_2), (1, .int r2_1), (0, .ref (a.1 0))]) hx hb dL_pictures_64 hl (k := 1) rfl (by rw [e_v5_11]; rfl) (by decide) rfl (fun ls hl => ?_)
                  refine lv_goto (tgt := 23) hx hb dL_pictures_67 (by decide) ?_
                  exact ih_2 (0 : Int32) v5_11 ws H locs ls h hAW hP hD hS (lv_sub hl [0, 1, 2, 3, 4, 5] rfl)
                refine lv_icmp_eq (tgt := 61) hx hb dL_pictures_42 (by decide) (fun c_42_11 => ?_) (fun c_42_11 => ?_)
                · replace h := h.1 c_42_11
                  refine lv_iconst (v := (0 : Int32)) hx hb dL_pictures_61 (by decide) ?_
                  exact tail_4  ws H locs ls h hAW hP hD hS (lv_sub hl [0, 1, 2, 3, 4, 5] rfl)
                · replace h := h.2 c_42_11
                  refine lv_aload_n hx hb dL_pictures_45 rfl (lv_at hl 5 rfl) ?_
                  refine lv_iload hx hb dL_pictures_46 (lv_at hl 0 rfl) ?_
                  refine lv_iload_n hx hb dL_pictures_48 rfl (lv_at hl 2 rfl) ?_
                  obtain ⟨fs9, heA⟩ := hAW.recv
                  refine vp_callSi (W.runV (As := [.int v5_6, .int v3_3]) (rest := []) ⟨hx, hb, hml, hown, hts⟩ (a_columnAt l g a V ws hAW v5_6 v3_3 _ h) (cwV 2 hts gL_pictures_X4_columnAt rfl rfl rfl hdX4_columnAt ⟨(Nat.le_of_ble_eq_true rfl), (Nat.le_of_ble_eq_true rfl)⟩) (preV_R (r := (RX4, TX4, 9)) hK hP (ci := 4) (q0 := 0) rfl heA) rfl rfl hl.1 rfl (lv_room (Nat.le_of_ble_eq_true rfl)) dL_pictures_49 ⟨(Nat.le_of_ble_eq_true rfl), (Nat.le_of_ble_eq_true rfl)⟩) (fun r49_13 h => ?_)
                  clear heA fs9
                  refine lv_bipush (v := (-109 : Int32)) hx hb dL_pictures_52 (by decide) ?_
                  refine lv_icmp_eq (tgt := 61) hx hb dL_pictures_54 (by decide) (fun c_54_13 => ?_) (fun c_54_13 => ?_)
                  · replace h := h.1 c_54_13
                    refine lv_iconst (v := (0 : Int32)) hx hb dL_pictures_61 (by decide) ?_
                    exact tail_4  ws H locs ls h hAW hP hD hS (lv_sub hl [0, 1, 2, 3, 4, 5] rfl)
                  · replace h := h.2 c_54_13
                    exact tail_3  ws H locs ls h hAW hP hD hS (lv_sub hl [0, 1, 2, 3, 4, 5] rfl)
        obtain ⟨n_2, h⟩ := h
        refine loop_2 _ ?_ n_2 (0 : Int32) (0 : Int32) _ _ _ ls h hAW hP hD hS (lv_sub hl [0, 1, 2, 3, 4, 5] rfl)
        intro v4_5 v5_6 ws H locs ls h hAW hP hD hS hl
        refine lv_iload_n hx hb dL_pictures_70 rfl (lv_at hl 3 rfl) ?_
        refine lv_iload hx hb dL_pictures_71 (lv_at hl 1 rfl) ?_
        have tail_5 : ∀ (t_15 : Int32) (ws : va_W) (H : Heap) (locs : List Loc) (ls : Array Slot), PL_pictures_J5 (PL_pictures_L1 V r2_1 kx_1 n_1) v2_2 v3_3 t_15 → AW g a V ws → va_P g.1 vwCl ws H → va_D A ws → va_S A s.heap H locs → lv_has ls 9 [(5, .int v5_6), (4, .int v4_5), (3, .int v3_3), (2, .int v2_2), (1, .int r2_1), (0, .ref (a.1 0))] → W p l e (headSpec wsL_pictures ({ frames := 7, cells := 0, slots := 0, locals := 153 })).room s m ([.ref (a.1 0)] : List Value).toArray below meth c H locs 0 0 (MQ below (va_Qi (fun (r : Int32) (u : va_W) => ∃ V' : VS, AW g a V' u ∧ k r V') (fun u t => PostB g A u t) A) ([.ref (a.1 0)] : List Value).toArray s 0 0 A) (F0 m 81 ls [.int t_15, .int v2_2]) := by
          intro t_15 ws H locs ls h hAW hP hD hS hl
          unfold PL_pictures_J5 at h
          refine lv_iadd hx hb dL_pictures_81 ?_
          refine lv_topi (fun v2_16 e_v2_16 => ?_)
          replace h := h v2_16 e_v2_16
          refine lv_istore_n (lv' := [(2, .int v2_16), (5, .int v5_6), (4, .int v4_5), (3, .int v3_3), (1, .int r2_1), (0, .ref (a.1 0))]) hx hb dL_pictures_82 rfl hl (by decide) rfl (fun ls hl => ?_)
          obtain ⟨v3_17, e_v3_17⟩ : ∃ y : Int32, y = v3_3 + (1 : Int32) := ⟨_, rfl⟩
          replace h := h v3_17 e_v3_17
          refine lv_iinc (v := v3_17) (lv' := [(3, .int v3_17), (2, .int v2_16), (5, .int v5_6), (4, .int v4_5), (1, .int r2_1), (0, .ref (a.1 0))]) hx hb dL_pictures_83 hl (k := 3) rfl (by rw [e_v3_17]; rfl) (by decide) rfl (fun ls hl => ?_)
          refine lv_goto (tgt := 10) hx hb dL_pictures_86 (by decide) ?_
          exact ih_1 v2_16 v3_17 ws H locs ls h hAW hP hD hS (lv_sub hl [0, 1, 4, 5] rfl)
        refine lv_if_eq (tgt := 80) hx hb dL_pictures_73 (by decide) (fun c_73_17 => ?_) (fun c_73_17 => ?_)
        · replace h := h.1 c_73_17
          refine lv_iconst (v := (0 : Int32)) hx hb dL_pictures_80 (by decide) ?_
          exact tail_5 (0 : Int32) ws H locs ls h hAW hP hD hS (lv_sub hl [0, 1, 2, 3, 4, 5] rfl)
        · replace h := h.2 c_73_17
          refine lv_iconst (v := (1 : Int32)) hx hb dL_pictures_76 (by decide) ?_
          refine lv_goto (tgt := 81) hx hb dL_pictures_77 (by decide) ?_
          exact tail_5 (1 : Int32) ws H locs ls h hAW hP hD hS (lv_sub hl [0, 1, 2, 3, 4, 5] rfl)
  obtain ⟨n_1, h⟩ := h
  refine loop_1 _ ?_ n_1 (0 : Int32) (0 : Int32) _ _ _ ls h hAW hP hD hS (lv_sub hl [0, 1, 2, 3] rfl)
  intro v2_2 v3_3 ws H locs ls h hAW hP hD hS hl
  refine lv_iconst (v := (0 : Int32)) hx hb dL_pictures_89 (by decide) ?_
  refine lv_istore_n (lv' := [(3, .int (0 : Int32)), (2, .int v2_2), (1, .int r2_1), (0, .ref (a.1 0))]) hx hb dL_pictures_90 rfl hl (by decide) rfl (fun ls hl => ?_)
  have loop_6 : ∀ (kx_6 : Int32 → Prop), (∀ (v3_19 : Int32) (ws : va_W) (H : Heap) (locs : List Loc) (ls : Array Slot), kx_6 v3_19 → AW g a V ws → va_P g.1 vwCl ws H → va_D A ws → va_S A s.heap H locs → lv_has ls 9 [(3, .int v3_19), (2, .int v2_2), (1, .int r2_1), (0, .ref (a.1 0))] → W p l e (headSpec wsL_pictures ({ frames := 7, cells := 0, slots := 0, locals := 153 })).room s m ([.ref (a.1 0)] : List Value).toArray below meth c H locs 0 0 (MQ below (va_Qi (fun (r : Int32) (u : va_W) => ∃ V' : VS, AW g a V' u ∧ k r V') (fun u t => PostB g A u t) A) ([.ref (a.1 0)] : List Value).toArray s 0 0 A) (F0 m 342 ls [])) → ∀ (n_6 : Nat) (v3_19 : Int32) (ws : va_W) (H : Heap) (locs : List Loc) (ls : Array Slot), PL_pictures_L6 V k r2_1 kx_6 n_6 v3_19 → AW g a V ws → va_P g.1 vwCl ws H → va_D A ws → va_S A s.heap H locs → lv_has ls 9 [(3, .int v3_19), (2, .int v2_2), (1, .int r2_1), (0, .ref (a.1 0))] → W p l e (headSpec wsL_pictures ({ frames := 7, cells := 0, slots := 0, locals := 153 })).room s m ([.ref (a.1 0)] : List Value).toArray below meth c H locs 0 0 (MQ below (va_Qi (fun (r : Int32) (u : va_W) => ∃ V' : VS, AW g a V' u ∧ k r V') (fun u t => PostB g A u t) A) ([.ref (a.1 0)] : List Value).toArray s 0 0 A) (F0 m 91 ls []) := by
    intro kx_6 hexit_6 n_6
    induction n_6 with
    | zero => exact fun _ _ _ _ _ h _ _ _ _ _ => (h : False).elim
    | succ n_6 ih_6 =>
      intro v3_19 ws H locs ls h hAW hP hD hS hl
      unfold PL_pictures_L6 at h
      refine lv_iload_n hx hb dL_pictures_91 rfl (lv_at hl 0 rfl) ?_
      refine lv_iload_n hx hb dL_pictures_92 rfl (lv_at hl 2 rfl) ?_
      refine lv_icmp_ge (tgt := 342) hx hb dL_pictures_93 (by decide) (fun c_93_19 => ?_) (fun c_93_19 => ?_)
      · replace h := h.1 c_93_19
        exact hexit_6 v3_19 ws H locs ls h hAW hP hD hS (lv_sub hl [0, 1, 2, 3] rfl)
      · replace h := h.2 c_93_19
        refine lv_iconst (v := (0 : Int32)) hx hb dL_pictures_96 (by decide) ?_
        refine lv_istore (lv' := [(4, .int (0 : Int32)), (3, .int v3_19), (2, .int v2_2), (1, .int r2_1), (0, .ref (a.1 0))]) hx hb dL_pictures_97 hl (by decide) rfl (fun ls hl => ?_)
        refine lv_aload_n hx hb dL_pictures_99 rfl (lv_at hl 4 rfl) ?_
        refine lv_iload_n hx hb dL_pictures_100 rfl (lv_at hl 1 rfl) ?_
        refine lv_iconst (v := (0 : Int32)) hx hb dL_pictures_101 (by decide) ?_
        obtain ⟨fs9, heA⟩ := hAW.recv
        refine vp_callSi (W.runV (As := [.int v3_19, .int (0 : Int32)]) (rest := []) ⟨hx, hb, hml, hown, hts⟩ (a_picture l g a V ws hAW v3_19 (0 : Int32) _ h) (cwV 2 hts gL_pictures_X4_picture rfl rfl rfl hdX4_picture ⟨(Nat.le_of_ble_eq_true rfl), (Nat.le_of_ble_eq_true rfl)⟩) (preV_R (r := (RX4, TX4, 9)) hK hP (ci := 4) (q0 := 0) rfl heA) rfl rfl hl.1 rfl (lv_room (Nat.le_of_ble_eq_true rfl)) dL_pictures_102 ⟨(Nat.le_of_ble_eq_true rfl), (Nat.le_of_ble_eq_true rfl)⟩) (fun r102_21 h => ?_)
        clear heA fs9
        refine lv_istore (lv' := [(5, .int r102_21), (4, .int (0 : Int32)), (3, .int v3_19), (2, .int v2_2), (1, .int r2_1), (0, .ref (a.1 0))]) hx hb dL_pictures_105 hl (by decide) rfl (fun ls hl => ?_)
        refine lv_iconst (v := (0 : Int32)) hx hb dL_pictures_107 (by decide) ?_
        refine lv_istore (lv' := [(6, .int (0 : Int32)), (5, .int r102_21), (4, .int (0 : Int32)), (3, .int v3_19), (2, .int v2_2), (1, .int r2_1), (0, .ref (a.1 0))]) hx hb dL_pictures_108 hl (by decide) rfl (fun ls hl => ?_)
        have loop_7 : ∀ (kx_7 : Int32 → Int32 → Prop), (∀ (v4_22 : Int32) (v6_23 : Int32) (ws : va_W) (H : Heap) (locs : List Loc) (ls : Array Slot), kx_7 v4_22 v6_23 → AW g a V ws → va_P g.1 vwCl ws H → va_D A ws → va_S A s.heap H locs → lv_has ls 9 [(6, .int v6_23), (5, .int r102_21), (4, .int v4_22), (3, .int v3_19), (2, .int v2_2), (1, .int r2_1), (0, .ref (a.1 0))] → W p l e (headSpec wsL_pictures ({ frames := 7, cells := 0, slots := 0, locals := 153 })).room s m ([.ref (a.1 0)] : List Value).toArray below meth c H locs 0 0 (MQ below (va_Qi (fun (r : Int32) (u : va_W) => ∃ V' : VS, AW g a V' u ∧ k r V') (fun u t => PostB g A u t) A) ([.ref (a.1 0)] : List Value).toArray s 0 0 A) (F0 m 171 ls [])) → ∀ (n_7 : Nat) (v4_22 : Int32) (v6_23 : Int32) (ws : va_W) (H : Heap) (locs : List Loc) (ls : Array Slot), PL_pictures_L7 V k v3_19 r102_21 kx_7 n_7 v4_22 v6_23 → AW g a V ws → va_P g.1 vwCl ws H → va_D A ws → va_S A s.heap H locs → lv_has ls 9 [(6, .int v6_23), (5, .int r102_21), (4, .int v4_22), (3, .int v3_19), (2, .int v2_2), (1, .int r2_1), (0, .ref (a.1 0))] → W p l e (headSpec wsL_pictures ({ frames := 7, cells := 0, slots := 0, locals := 153 })).room s m ([.ref (a.1 0)] : List Value).toArray below meth c H locs 0 0 (MQ below (va_Qi (fun (r : Int32) (u : va_W) => ∃ V' : VS, AW g a V' u ∧ k r V') (fun u t => PostB g A u t) A) ([.ref (a.1 0)] : List Value).toArray s 0 0 A) (F0 m 110 ls []) := by
          intro kx_7 hexit_7 n_7
          induction n_7 with
          | zero => exact fun _ _ _ _ _ _ h _ _ _ _ _ => (h : False).elim
          | succ n_7 ih_7 =>
            intro v4_22 v6_23 ws H locs ls h hAW hP hD hS hl
            unfold PL_pictures_L7 at h
            refine lv_iload hx hb dL_pictures_110 (lv_at hl 0 rfl) ?_
            refine lv_sipush (v := (720 : Int32)) hx hb dL_pictures_112 (by decide) ?_
            refine lv_icmp_ge (tgt := 171) hx hb dL_pictures_115 (by decide) (fun c_115_23 => ?_) (fun c_115_23 => ?_)
            · replace h := h.1 c_115_23
              exact hexit_7 v4_22 v6_23 ws H locs ls h hAW hP hD hS (lv_sub hl [0, 1, 2, 3, 4, 5, 6] rfl)
            · replace h := h.2 c_115_23
              refine lv_aload_n hx hb dL_pictures_118 rfl (lv_at hl 6 rfl) ?_
              refine lv_iload_n hx hb dL_pictures_119 rfl (lv_at hl 3 rfl) ?_
              refine lv_iload hx hb dL_pictures_120 (lv_at hl 0 rfl) ?_
              obtain ⟨fs9, heA⟩ := hAW.recv
              refine vp_callSi (W.runV (As := [.int v3_19, .int v6_23]) (rest := []) ⟨hx, hb, hml, hown, hts⟩ (a_columnAt l g a V ws hAW v3_19 v6_23 _ h) (cwV 2 hts gL_pictures_X4_columnAt rfl rfl rfl hdX4_columnAt ⟨(Nat.le_of_ble_eq_true rfl), (Nat.le_of_ble_eq_true rfl)⟩) (preV_R (r := (RX4, TX4, 9)) hK hP (ci := 4) (q0 := 0) rfl heA) rfl rfl hl.1 rfl (lv_room (Nat.le_of_ble_eq_true rfl)) dL_pictures_122 ⟨(Nat.le_of_ble_eq_true rfl), (Nat.le_of_ble_eq_true rfl)⟩) (fun r122_25 h => ?_)
              clear heA fs9
              refine lv_istore (lv' := [(7, .int r122_25), (6, .int v6_23), (5, .int r102_21), (4, .int v4_22), (3, .int v3_19), (2, .int v2_2), (1, .int r2_1), (0, .ref (a.1 0))]) hx hb dL_pictures_125 hl (by decide) rfl (fun ls hl => ?_)
              refine lv_iload hx hb dL_pictures_127 (lv_at hl 3 rfl) ?_
              refine lv_iload hx hb dL_pictures_129 (lv_at hl 0 rfl) ?_
              refine lv_bipush (v := (-109 : Int32)) hx hb dL_pictures_131 (by decide) ?_
              have tail_8 : ∀ (t_26 : Int32) (ws : va_W) (H : Heap) (locs : List Loc) (ls : Array Slot), PL_pictures_J8 V k r102_21 (PL_pictures_L7 V k v3_19 r102_21 kx_7 n_7) v4_22 v6_23 r122_25 t_26 → AW g a V ws → va_P g.1 vwCl ws H → va_D A ws → va_S A s.heap H locs → lv_has ls 9 [(7, .int r122_25), (6, .int v6_23), (5, .int r102_21), (4, .int v4_22), (3, .int v3_19), (2, .int v2_2), (1, .int r2_1), (0, .ref (a.1 0))] → W p l e (headSpec wsL_pictures ({ frames := 7, cells := 0, slots := 0, locals := 153 })).room s m ([.ref (a.1 0)] : List Value).toArray below meth c H locs 0 0 (MQ below (va_Qi (fun (r : Int32) (u : va_W) => ∃ V' : VS, AW g a V' u ∧ k r V') (fun u t => PostB g A u t) A) ([.ref (a.1 0)] : List Value).toArray s 0 0 A) (F0 m 141 ls [.int t_26, .int v4_22]) := by
                intro t_26 ws H locs ls h hAW hP hD hS hl
                unfold PL_pictures_J8 at h
                refine lv_iadd hx hb dL_pictures_141 ?_
                refine lv_topi (fun v4_27 e_v4_27 => ?_)
                replace h := h v4_27 e_v4_27
                refine lv_istore (lv' := [(4, .int v4_27), (7, .int r122_25), (6, .int v6_23), (5, .int r102_21), (3, .int v3_19), (2, .int v2_2), (1, .int r2_1), (0, .ref (a.1 0))]) hx hb dL_pictures_142 hl (by decide) rfl (fun ls hl => ?_)
                refine lv_iload hx hb dL_pictures_144 (lv_at hl 1 rfl) ?_
                refine lv_bipush (v := (-109 : Int32)) hx hb dL_pictures_146 (by decide) ?_
                refine lv_icmp_eq (tgt := 165) hx hb dL_pictures_148 (by decide) (fun c_148_27 => ?_) (fun c_148_27 => ?_)
                · replace h := h.1 c_148_27
                  obtain ⟨v6_29, e_v6_29⟩ : ∃ y : Int32, y = v6_23 + (1 : Int32) := ⟨_, rfl⟩
                  replace h := h v6_29 e_v6_29
                  refine lv_iinc (v := v6_29) (lv' := [(6, .int v6_29), (4, .int v4_27), (7, .int r122_25), (5, .int r102_21), (3, .int v3_19), (2, .int v2_2), (1, .int r2_1), (0, .ref (a.1 0))]) hx hb dL_pictures_165 hl (k := 2) rfl (by rw [e_v6_29]; rfl) (by decide) rfl (fun ls hl => ?_)
                  refine lv_goto (tgt := 110) hx hb dL_pictures_168 (by decide) ?_
                  exact ih_7 v4_27 v6_29 ws H locs ls h hAW hP hD hS (lv_sub hl [0, 3, 1, 4, 5, 6, 7] rfl)
                · replace h := h.2 c_148_27
                  refine lv_iload hx hb dL_pictures_151 (lv_at hl 1 rfl) ?_
                  refine lv_if_lt (tgt := 163) hx hb dL_pictures_153 (by decide) (fun c_153_29 => ?_) (fun c_153_29 => ?_)
                  · replace h := h.1 c_153_29
                    refine lv_iconst (v := (0 : Int32)) hx hb dL_pictures_163 (by decide) ?_
                    exact W.zret (v := (0 : Int32)) hx hb hr rfl (fun t ht hW => ⟨⟨(0 : Int32), ws, rfl, ⟨V, hAW, h⟩, by rw [ht]; exact hP, hD⟩, hS.F ht⟩) hS.2.2 dL_pictures_164
                  · replace h := h.2 c_153_29
                    refine lv_iload hx hb dL_pictures_156 (lv_at hl 1 rfl) ?_
                    refine lv_iload hx hb dL_pictures_158 (lv_at hl 3 rfl) ?_
                    refine lv_icmp_lt (tgt := 165) hx hb dL_pictures_160 (by decide) (fun c_160_30 => ?_) (fun c_160_30 => ?_)
                    · replace h := h.1 c_160_30
                      obtain ⟨v6_32, e_v6_32⟩ : ∃ y : Int32, y = v6_23 + (1 : Int32) := ⟨_, rfl⟩
                      replace h := h v6_32 e_v6_32
                      refine lv_iinc (v := v6_32) (lv' := [(6, .int v6_32), (4, .int v4_27), (7, .int r122_25), (5, .int r102_21), (3, .int v3_19), (2, .int v2_2), (1, .int r2_1), (0, .ref (a.1 0))]) hx hb dL_pictures_165 hl (k := 2) rfl (by rw [e_v6_32]; rfl) (by decide) rfl (fun ls hl => ?_)
                      refine lv_goto (tgt := 110) hx hb dL_pictures_168 (by decide) ?_
                      exact ih_7 v4_27 v6_32 ws H locs ls h hAW hP hD hS (lv_sub hl [0, 3, 1, 4, 5, 6, 7] rfl)
                    · replace h := h.2 c_160_30
                      refine lv_iconst (v := (0 : Int32)) hx hb dL_pictures_163 (by decide) ?_
                      exact W.zret (v := (0 : Int32)) hx hb hr rfl (fun t ht hW => ⟨⟨(0 : Int32), ws, rfl, ⟨V, hAW, h⟩, by rw [ht]; exact hP, hD⟩, hS.F ht⟩) hS.2.2 dL_pictures_164
              refine lv_icmp_ne (tgt := 140) hx hb dL_pictures_133 (by decide) (fun c_133_32 => ?_) (fun c_133_32 => ?_)
              · replace h := h.1 c_133_32
                refine lv_iconst (v := (1 : Int32)) hx hb dL_pictures_140 (by decide) ?_
                exact tail_8 (1 : Int32) ws H locs ls h hAW hP hD hS (lv_sub hl [0, 1, 2, 3, 4, 5, 6, 7] rfl)
              · replace h := h.2 c_133_32
                refine lv_iconst (v := (0 : Int32)) hx hb dL_pictures_136 (by decide) ?_
                refine lv_goto (tgt := 141) hx hb dL_pictures_137 (by decide) ?_
                exact tail_8 (0 : Int32) ws H locs ls h hAW hP hD hS (lv_sub hl [0, 1, 2, 3, 4, 5, 6, 7] rfl)
        obtain ⟨n_7, h⟩ := h
        refine loop_7 _ ?_ n_7 (0 : Int32) (0 : Int32) _ _ _ ls h hAW hP hD hS (lv_sub hl [0, 1, 2, 3, 4, 5, 6] rfl)
        intro v4_22 v6_23 ws H locs ls h hAW hP hD hS hl
        refine lv_aload_n hx hb dL_pictures_171 rfl (lv_at hl 6 rfl) ?_
        refine lv_iload_n hx hb dL_pictures_172 rfl (lv_at hl 3 rfl) ?_
        refine lv_aload_n hx hb dL_pictures_173 rfl (lv_at hl 6 rfl) ?_
        refine lv_iload_n hx hb dL_pictures_174 rfl (lv_at hl 3 rfl) ?_
        refine lv_iconst (v := (1 : Int32)) hx hb dL_pictures_175 (by decide) ?_
        obtain ⟨fs9, heA⟩ := hAW.recv
        refine vp_callSi (W.runV (As := [.int v3_19, .int (1 : Int32)]) (rest := [.int v3_19, .ref (a.1 0)]) ⟨hx, hb, hml, hown, hts⟩ (a_picture l g a V ws hAW v3_19 (1 : Int32) _ h) (cwV 2 hts gL_pictures_X4_picture rfl rfl rfl hdX4_picture ⟨(Nat.le_of_ble_eq_true rfl), (Nat.le_of_ble_eq_true rfl)⟩) (preV_R (r := (RX4, TX4, 9)) hK hP (ci := 4) (q0 := 0) rfl heA) rfl rfl hl.1 rfl (lv_room (Nat.le_of_ble_eq_true rfl)) dL_pictures_176 ⟨(Nat.le_of_ble_eq_true rfl), (Nat.le_of_ble_eq_true rfl)⟩) (fun r176_34 h => ?_)
        clear heA fs9
        obtain ⟨fs9, heA⟩ := hAW.recv
        refine vp_callSi (W.runV (As := [.int v3_19, .int r176_34]) (rest := []) ⟨hx, hb, hml, hown, hts⟩ (a_columnAt l g a V ws hAW v3_19 r176_34 _ h) (cwV 2 hts gL_pictures_X4_columnAt rfl rfl rfl hdX4_columnAt ⟨(Nat.le_of_ble_eq_true rfl), (Nat.le_of_ble_eq_true rfl)⟩) (preV_R (r := (RX4, TX4, 9)) hK hP (ci := 4) (q0 := 0) rfl heA) rfl rfl hl.1 rfl (lv_room (Nat.le_of_ble_eq_true rfl)) dL_pictures_179 ⟨(Nat.le_of_ble_eq_true rfl), (Nat.le_of_ble_eq_true rfl)⟩) (fun r179_35 h => ?_)
        clear heA fs9
        refine lv_istore (lv' := [(6, .int r179_35), (5, .int r102_21), (4, .int v4_22), (3, .int v3_19), (2, .int v2_2), (1, .int r2_1), (0, .ref (a.1 0))]) hx hb dL_pictures_182 hl (by decide) rfl (fun ls hl => ?_)
        refine lv_iload hx hb dL_pictures_184 (lv_at hl 2 rfl) ?_
        refine lv_aload_n hx hb dL_pictures_186 rfl (lv_at hl 6 rfl) ?_
        refine lv_iload_n hx hb dL_pictures_187 rfl (lv_at hl 3 rfl) ?_
        refine lv_iconst (v := (5 : Int32)) hx hb dL_pictures_188 (by decide) ?_
        obtain ⟨fs9, heA⟩ := hAW.recv
        refine vp_callSi (W.runV (As := [.int v3_19, .int (5 : Int32)]) (rest := [.int v4_22]) ⟨hx, hb, hml, hown, hts⟩ (a_picture l g a V ws hAW v3_19 (5 : Int32) _ h) (cwV 2 hts gL_pictures_X4_picture rfl rfl rfl hdX4_picture ⟨(Nat.le_of_ble_eq_true rfl), (Nat.le_of_ble_eq_true rfl)⟩) (preV_R (r := (RX4, TX4, 9)) hK hP (ci := 4) (q0 := 0) rfl heA) rfl rfl hl.1 rfl (lv_room (Nat.le_of_ble_eq_true rfl)) dL_pictures_189 ⟨(Nat.le_of_ble_eq_true rfl), (Nat.le_of_ble_eq_true rfl)⟩) (fun r189_36 h => ?_)
        clear heA fs9
        refine lv_icmp_ne (tgt := 241) hx hb dL_pictures_192 (by decide) (fun c_192_36 => ?_) (fun c_192_36 => ?_)
        · replace h := h.1 c_192_36
          refine lv_iconst (v := (0 : Int32)) hx hb dL_pictures_241 (by decide) ?_
          exact W.zret (v := (0 : Int32)) hx hb hr rfl (fun t ht hW => ⟨⟨(0 : Int32), ws, rfl, ⟨V, hAW, h⟩, by rw [ht]; exact hP, hD⟩, hS.F ht⟩) hS.2.2 dL_pictures_242
        · replace h := h.2 c_192_36
          refine lv_iload hx hb dL_pictures_195 (lv_at hl 0 rfl) ?_
          refine lv_aload_n hx hb dL_pictures_197 rfl (lv_at hl 6 rfl) ?_
          refine lv_iload_n hx hb dL_pictures_198 rfl (lv_at hl 3 rfl) ?_
          refine lv_iconst (v := (3 : Int32)) hx hb dL_pictures_199 (by decide) ?_
          obtain ⟨fs9, heA⟩ := hAW.recv
          refine vp_callSi (W.runV (As := [.int v3_19, .int (3 : Int32)]) (rest := [.int r179_35]) ⟨hx, hb, hml, hown, hts⟩ (a_picture l g a V ws hAW v3_19 (3 : Int32) _ h) (cwV 2 hts gL_pictures_X4_picture rfl rfl rfl hdX4_picture ⟨(Nat.le_of_ble_eq_true rfl), (Nat.le_of_ble_eq_true rfl)⟩) (preV_R (r := (RX4, TX4, 9)) hK hP (ci := 4) (q0 := 0) rfl heA) rfl rfl hl.1 rfl (lv_room (Nat.le_of_ble_eq_true rfl)) dL_pictures_200 ⟨(Nat.le_of_ble_eq_true rfl), (Nat.le_of_ble_eq_true rfl)⟩) (fun r200_38 h => ?_)
          clear heA fs9
          refine lv_iconst (v := (1 : Int32)) hx hb dL_pictures_203 (by decide) ?_
          have tail_9 : ∀ (t_39 : Int32) (ws : va_W) (H : Heap) (locs : List Loc) (ls : Array Slot), PL_pictures_J9 V k r2_1 (PL_pictures_L6 V k r2_1 kx_6 n_6) v3_19 r102_21 v4_22 r179_35 t_39 → AW g a V ws → va_P g.1 vwCl ws H → va_D A ws → va_S A s.heap H locs → lv_has ls 9 [(6, .int r179_35), (5, .int r102_21), (4, .int v4_22), (3, .int v3_19), (2, .int v2_2), (1, .int r2_1), (0, .ref (a.1 0))] → W p l e (headSpec wsL_pictures ({ frames := 7, cells := 0, slots := 0, locals := 153 })).room s m ([.ref (a.1 0)] : List Value).toArray below meth c H locs 0 0 (MQ below (va_Qi (fun (r : Int32) (u : va_W) => ∃ V' : VS, AW g a V' u ∧ k r V') (fun u t => PostB g A u t) A) ([.ref (a.1 0)] : List Value).toArray s 0 0 A) (F0 m 215 ls [.int t_39, .int r179_35]) := by
            intro t_39 ws H locs ls h hAW hP hD hS hl
            unfold PL_pictures_J9 at h
            refine lv_icmp_ne (tgt := 241) hx hb dL_pictures_215 (by decide) (fun c_215_39 => ?_) (fun c_215_39 => ?_)
            · replace h := h.1 c_215_39
              refine lv_iconst (v := (0 : Int32)) hx hb dL_pictures_241 (by decide) ?_
              exact W.zret (v := (0 : Int32)) hx hb hr rfl (fun t ht hW => ⟨⟨(0 : Int32), ws, rfl, ⟨V, hAW, h⟩, by rw [ht]; exact hP, hD⟩, hS.F ht⟩) hS.2.2 dL_pictures_242
            · replace h := h.2 c_215_39
              refine lv_aload_n hx hb dL_pictures_218 rfl (lv_at hl 6 rfl) ?_
              refine lv_iload_n hx hb dL_pictures_219 rfl (lv_at hl 3 rfl) ?_
              refine lv_iconst (v := (4 : Int32)) hx hb dL_pictures_220 (by decide) ?_
              obtain ⟨fs9, heA⟩ := hAW.recv
              refine vp_callSi (W.runV (As := [.int v3_19, .int (4 : Int32)]) (rest := []) ⟨hx, hb, hml, hown, hts⟩ (a_picture l g a V ws hAW v3_19 (4 : Int32) _ h) (cwV 2 hts gL_pictures_X4_picture rfl rfl rfl hdX4_picture ⟨(Nat.le_of_ble_eq_true rfl), (Nat.le_of_ble_eq_true rfl)⟩) (preV_R (r := (RX4, TX4, 9)) hK hP (ci := 4) (q0 := 0) rfl heA) rfl rfl hl.1 rfl (lv_room (Nat.le_of_ble_eq_true rfl)) dL_pictures_221 ⟨(Nat.le_of_ble_eq_true rfl), (Nat.le_of_ble_eq_true rfl)⟩) (fun r221_41 h => ?_)
              clear heA fs9
              refine lv_if_lt (tgt := 241) hx hb dL_pictures_224 (by decide) (fun c_224_41 => ?_) (fun c_224_41 => ?_)
              · replace h := h.1 c_224_41
                refine lv_iconst (v := (0 : Int32)) hx hb dL_pictures_241 (by decide) ?_
                exact W.zret (v := (0 : Int32)) hx hb hr rfl (fun t ht hW => ⟨⟨(0 : Int32), ws, rfl, ⟨V, hAW, h⟩, by rw [ht]; exact hP, hD⟩, hS.F ht⟩) hS.2.2 dL_pictures_242
              · replace h := h.2 c_224_41
                refine lv_aload_n hx hb dL_pictures_227 rfl (lv_at hl 6 rfl) ?_
                refine lv_iload_n hx hb dL_pictures_228 rfl (lv_at hl 3 rfl) ?_
                refine lv_iconst (v := (4 : Int32)) hx hb dL_pictures_229 (by decide) ?_
                obtain ⟨fs9, heA⟩ := hAW.recv
                refine vp_callSi (W.runV (As := [.int v3_19, .int (4 : Int32)]) (rest := []) ⟨hx, hb, hml, hown, hts⟩ (a_picture l g a V ws hAW v3_19 (4 : Int32) _ h) (cwV 2 hts gL_pictures_X4_picture rfl rfl rfl hdX4_picture ⟨(Nat.le_of_ble_eq_true rfl), (Nat.le_of_ble_eq_true rfl)⟩) (preV_R (r := (RX4, TX4, 9)) hK hP (ci := 4) (q0 := 0) rfl heA) rfl rfl hl.1 rfl (lv_room (Nat.le_of_ble_eq_true rfl)) dL_pictures_230 ⟨(Nat.le_of_ble_eq_true rfl), (Nat.le_of_ble_eq_true rfl)⟩) (fun r230_43 h => ?_)
                clear heA fs9
                refine lv_bipush (v := (12 : Int32)) hx hb dL_pictures_233 (by decide) ?_
                refine lv_iload hx hb dL_pictures_235 (lv_at hl 1 rfl) ?_
                refine lv_imul hx hb dL_pictures_237 ?_
                refine lv_icmp_le (tgt := 243) hx hb dL_pictures_238 (by decide) (fun c_238_43 => ?_) (fun c_238_43 => ?_)
                · replace h := h.1 c_238_43
                  refine lv_iconst (v := (0 : Int32)) hx hb dL_pictures_243 (by decide) ?_
                  refine lv_istore (lv' := [(7, .int (0 : Int32)), (6, .int r179_35), (5, .int r102_21), (4, .int v4_22), (3, .int v3_19), (2, .int v2_2), (1, .int r2_1), (0, .ref (a.1 0))]) hx hb dL_pictures_244 hl (by decide) rfl (fun ls hl => ?_)
                  have loop_10 : ∀ (kx_10 : Int32 → Prop), (∀ (v7_45 : Int32) (ws : va_W) (H : Heap) (locs : List Loc) (ls : Array Slot), kx_10 v7_45 → AW g a V ws → va_P g.1 vwCl ws H → va_D A ws → va_S A s.heap H locs → lv_has ls 9 [(7, .int v7_45), (6, .int r179_35), (5, .int r102_21), (4, .int v4_22), (3, .int v3_19), (2, .int v2_2), (1, .int r2_1), (0, .ref (a.1 0))] → W p l e (headSpec wsL_pictures ({ frames := 7, cells := 0, slots := 0, locals := 153 })).room s m ([.ref (a.1 0)] : List Value).toArray below meth c H locs 0 0 (MQ below (va_Qi (fun (r : Int32) (u : va_W) => ∃ V' : VS, AW g a V' u ∧ k r V') (fun u t => PostB g A u t) A) ([.ref (a.1 0)] : List Value).toArray s 0 0 A) (F0 m 336 ls [])) → ∀ (n_10 : Nat) (v7_45 : Int32) (ws : va_W) (H : Heap) (locs : List Loc) (ls : Array Slot), PL_pictures_L10 V k r2_1 v3_19 v4_22 kx_10 n_10 v7_45 → AW g a V ws → va_P g.1 vwCl ws H → va_D A ws → va_S A s.heap H locs → lv_has ls 9 [(7, .int v7_45), (6, .int r179_35), (5, .int r102_21), (4, .int v4_22), (3, .int v3_19), (2, .int v2_2), (1, .int r2_1), (0, .ref (a.1 0))] → W p l e (headSpec wsL_pictures ({ frames := 7, cells := 0, slots := 0, locals := 153 })).room s m ([.ref (a.1 0)] : List Value).toArray below meth c H locs 0 0 (MQ below (va_Qi (fun (r : Int32) (u : va_W) => ∃ V' : VS, AW g a V' u ∧ k r V') (fun u t => PostB g A u t) A) ([.ref (a.1 0)] : List Value).toArray s 0 0 A) (F0 m 246 ls []) := by
                    intro kx_10 hexit_10 n_10
                    induction n_10 with
                    | zero => exact fun _ _ _ _ _ h _ _ _ _ _ => (h : False).elim
                    | succ n_10 ih_10 =>
                      intro v7_45 ws H locs ls h hAW hP hD hS hl
                      unfold PL_pictures_L10 at h
                      refine lv_iload hx hb dL_pictures_246 (lv_at hl 0 rfl) ?_
                      refine lv_iload_n hx hb dL_pictures_248 rfl (lv_at hl 6 rfl) ?_
                      refine lv_icmp_ge (tgt := 336) hx hb dL_pictures_249 (by decide) (fun c_249_45 => ?_) (fun c_249_45 => ?_)
                      · replace h := h.1 c_249_45
                        exact hexit_10 v7_45 ws H locs ls h hAW hP hD hS (lv_sub hl [0, 1, 2, 3, 4, 5, 6, 7] rfl)
                      · replace h := h.2 c_249_45
                        refine lv_iload hx hb dL_pictures_252 (lv_at hl 0 rfl) ?_
                        refine lv_iload_n hx hb dL_pictures_254 rfl (lv_at hl 4 rfl) ?_
                        have tail_11 : ∀ (t_47 : Int32) (ws : va_W) (H : Heap) (locs : List Loc) (ls : Array Slot), PL_pictures_J11 V k v3_19 v4_22 (PL_pictures_L10 V k r2_1 v3_19 v4_22 kx_10 n_10) v7_45 t_47 → AW g a V ws → va_P g.1 vwCl ws H → va_D A ws → va_S A s.heap H locs → lv_has ls 9 [(7, .int v7_45), (6, .int r179_35), (5, .int r102_21), (4, .int v4_22), (3, .int v3_19), (2, .int v2_2), (1, .int r2_1), (0, .ref (a.1 0))] → W p l e (headSpec wsL_pictures ({ frames := 7, cells := 0, slots := 0, locals := 153 })).room s m ([.ref (a.1 0)] : List Value).toArray below meth c H locs 0 0 (MQ below (va_Qi (fun (r : Int32) (u : va_W) => ∃ V' : VS, AW g a V' u ∧ k r V') (fun u t => PostB g A u t) A) ([.ref (a.1 0)] : List Value).toArray s 0 0 A) (F0 m 269 ls [.int t_47]) := by
                          intro t_47 ws H locs ls h hAW hP hD hS hl
                          unfold PL_pictures_J11 at h
                          refine lv_istore (lv' := [(8, .int t_47), (7, .int v7_45), (6, .int r179_35), (5, .int r102_21), (4, .int v4_22), (3, .int v3_19), (2, .int v2_2), (1, .int r2_1), (0, .ref (a.1 0))]) hx hb dL_pictures_269 hl (by decide) rfl (fun ls hl => ?_)
                          refine lv_iload hx hb dL_pictures_271 (lv_at hl 1 rfl) ?_
                          refine lv_iload_n hx hb dL_pictures_273 rfl (lv_at hl 5 rfl) ?_
                          refine lv_icmp_eq (tgt := 330) hx hb dL_pictures_274 (by decide) (fun c_274_47 => ?_) (fun c_274_47 => ?_)
                          · replace h := h.1 c_274_47
                            obtain ⟨v7_49, e_v7_49⟩ : ∃ y : Int32, y = v7_45 + (1 : Int32) := ⟨_, rfl⟩
                            replace h := h v7_49 e_v7_49
                            refine lv_iinc (v := v7_49) (lv' := [(7, .int v7_49), (8, .int t_47), (6, .int r179_35), (5, .int r102_21), (4, .int v4_22), (3, .int v3_19), (2, .int v2_2), (1, .int r2_1), (0, .ref (a.1 0))]) hx hb dL_pictures_330 hl (k := 1) rfl (by rw [e_v7_49]; rfl) (by decide) rfl (fun ls hl => ?_)
                            refine lv_goto (tgt := 246) hx hb dL_pictures_333 (by decide) ?_
                            exact ih_10 v7_49 ws H locs ls h hAW hP hD hS (lv_sub hl [0, 2, 3, 4, 5, 6, 7, 8] rfl)
                          · replace h := h.2 c_274_47
                            refine lv_iload hx hb dL_pictures_277 (lv_at hl 0 rfl) ?_
                            refine lv_aload_n hx hb dL_pictures_279 rfl (lv_at hl 8 rfl) ?_
                            refine lv_iload hx hb dL_pictures_280 (lv_at hl 1 rfl) ?_
                            refine lv_iload_n hx hb dL_pictures_282 rfl (lv_at hl 5 rfl) ?_
                            obtain ⟨fs9, heA⟩ := hAW.recv
                            refine vp_callSi (W.runV (As := [.int v7_45, .int v3_19]) (rest := [.int t_47]) ⟨hx, hb, hml, hown, hts⟩ (a_meetings l g a V ws hAW v7_45 v3_19 _ h) (cwV 2 hts gL_pictures_X4_meetings rfl rfl rfl hdX4_meetings ⟨(Nat.le_of_ble_eq_true rfl), (Nat.le_of_ble_eq_true rfl)⟩) (preV_R (r := (RX4, TX4, 9)) hK hP (ci := 4) (q0 := 0) rfl heA) rfl rfl hl.1 rfl (lv_room (Nat.le_of_ble_eq_true rfl)) dL_pictures_283 ⟨(Nat.le_of_ble_eq_true rfl), (Nat.le_of_ble_eq_true rfl)⟩) (fun r283_50 h => ?_)
                            clear heA fs9
                            refine lv_icmp_ne (tgt := 328) hx hb dL_pictures_286 (by decide) (fun c_286_50 => ?_) (fun c_286_50 => ?_)
                            · replace h := h.1 c_286_50
                              refine lv_iconst (v := (0 : Int32)) hx hb dL_pictures_328 (by decide) ?_
                              exact W.zret (v := (0 : Int32)) hx hb hr rfl (fun t ht hW => ⟨⟨(0 : Int32), ws, rfl, ⟨V, hAW, h⟩, by rw [ht]; exact hP, hD⟩, hS.F ht⟩) hS.2.2 dL_pictures_329
                            · replace h := h.2 c_286_50
                              refine lv_iload hx hb dL_pictures_289 (lv_at hl 0 rfl) ?_
                              refine lv_if_lt (tgt := 328) hx hb dL_pictures_291 (by decide) (fun c_291_51 => ?_) (fun c_291_51 => ?_)
                              · replace h := h.1 c_291_51
                                refine lv_iconst (v := (0 : Int32)) hx hb dL_pictures_328 (by decide) ?_
                                exact W.zret (v := (0 : Int32)) hx hb hr rfl (fun t ht hW => ⟨⟨(0 : Int32), ws, rfl, ⟨V, hAW, h⟩, by rw [ht]; exact hP, hD⟩, hS.F ht⟩) hS.2.2 dL_pictures_329
                              · replace h := h.2 c_291_51
                                refine lv_iload hx hb dL_pictures_294 (lv_at hl 0 rfl) ?_
                                refine lv_bipush (v := (12 : Int32)) hx hb dL_pictures_296 (by decide) ?_
                                refine lv_iload hx hb dL_pictures_298 (lv_at hl 4 rfl) ?_
                                refine lv_imul hx hb dL_pictures_300 ?_
                                refine lv_icmp_gt (tgt := 328) hx hb dL_pictures_301 (by decide) (fun c_301_52 => ?_) (fun c_301_52 => ?_)
                                · replace h := h.1 c_301_52
                                  refine lv_iconst (v := (0 : Int32)) hx hb dL_pictures_328 (by decide) ?_
                                  exact W.zret (v := (0 : Int32)) hx hb hr rfl (fun t ht hW => ⟨⟨(0 : Int32), ws, rfl, ⟨V, hAW, h⟩, by rw [ht]; exact hP, hD⟩, hS.F ht⟩) hS.2.2 dL_pictures_329
                                · replace h := h.2 c_301_52
                                  refine lv_aload_n hx hb dL_pictures_304 rfl (lv_at hl 8 rfl) ?_
                                  refine lv_iload_n hx hb dL_pictures_305 rfl (lv_at hl 5 rfl) ?_
                                  refine lv_iconst (v := (3 : Int32)) hx hb dL_pictures_306 (by decide) ?_
                                  obtain ⟨fs9, heA⟩ := hAW.recv
                                  refine vp_callSi (W.runV (As := [.int v3_19, .int (3 : Int32)]) (rest := []) ⟨hx, hb, hml, hown, hts⟩ (a_picture l g a V ws hAW v3_19 (3 : Int32) _ h) (cwV 2 hts gL_pictures_X4_picture rfl rfl rfl hdX4_picture ⟨(Nat.le_of_ble_eq_true rfl), (Nat.le_of_ble_eq_true rfl)⟩) (preV_R (r := (RX4, TX4, 9)) hK hP (ci := 4) (q0 := 0) rfl heA) rfl rfl hl.1 rfl (lv_room (Nat.le_of_ble_eq_true rfl)) dL_pictures_307 ⟨(Nat.le_of_ble_eq_true rfl), (Nat.le_of_ble_eq_true rfl)⟩) (fun r307_54 h => ?_)
                                  clear heA fs9
                                  refine lv_iconst (v := (2 : Int32)) hx hb dL_pictures_310 (by decide) ?_
                                  have tail_12 : ∀ (ws : va_W) (H : Heap) (locs : List Loc) (ls : Array Slot), PL_pictures_J12 V k (PL_pictures_L10 V k r2_1 v3_19 v4_22 kx_10 n_10) v7_45 t_47  → AW g a V ws → va_P g.1 vwCl ws H → va_D A ws → va_S A s.heap H locs → lv_has ls 9 [(8, .int t_47), (7, .int v7_45), (6, .int r179_35), (5, .int r102_21), (4, .int v4_22), (3, .int v3_19), (2, .int v2_2), (1, .int r2_1), (0, .ref (a.1 0))] → W p l e (headSpec wsL_pictures ({ frames := 7, cells := 0, slots := 0, locals := 153 })).room s m ([.ref (a.1 0)] : List Value).toArray below meth c H locs 0 0 (MQ below (va_Qi (fun (r : Int32) (u : va_W) => ∃ V' : VS, AW g a V' u ∧ k r V') (fun u t => PostB g A u t) A) ([.ref (a.1 0)] : List Value).toArray s 0 0 A) (F0 m 323 ls []) := by
                                    intro  ws H locs ls h hAW hP hD hS hl
                                    unfold PL_pictures_J12 at h
                                    refine lv_iload hx hb dL_pictures_323 (lv_at hl 0 rfl) ?_
                                    refine lv_if_eq (tgt := 330) hx hb dL_pictures_325 (by decide) (fun c_325_54 => ?_) (fun c_325_54 => ?_)
                                    · replace h := h.1 c_325_54
                                      obtain ⟨v7_56, e_v7_56⟩ : ∃ y : Int32, y = v7_45 + (1 : Int32) := ⟨_, rfl⟩
                                      replace h := h v7_56 e_v7_56
                                      refine lv_iinc (v := v7_56) (lv' := [(7, .int v7_56), (8, .int t_47), (6, .int r179_35), (5, .int r102_21), (4, .int v4_22), (3, .int v3_19), (2, .int v2_2), (1, .int r2_1), (0, .ref (a.1 0))]) hx hb dL_pictures_330 hl (k := 1) rfl (by rw [e_v7_56]; rfl) (by decide) rfl (fun ls hl => ?_)
                                      refine lv_goto (tgt := 246) hx hb dL_pictures_333 (by decide) ?_
                                      exact ih_10 v7_56 ws H locs ls h hAW hP hD hS (lv_sub hl [0, 2, 3, 4, 5, 6, 7, 8] rfl)
                                    · replace h := h.2 c_325_54
                                      refine lv_iconst (v := (0 : Int32)) hx hb dL_pictures_328 (by decide) ?_
                                      exact W.zret (v := (0 : Int32)) hx hb hr rfl (fun t ht hW => ⟨⟨(0 : Int32), ws, rfl, ⟨V, hAW, h⟩, by rw [ht]; exact hP, hD⟩, hS.F ht⟩) hS.2.2 dL_pictures_329
                                  refine lv_icmp_eq (tgt := 323) hx hb dL_pictures_311 (by decide) (fun c_311_56 => ?_) (fun c_311_56 => ?_)
                                  · replace h := h.1 c_311_56
                                    exact tail_12  ws H locs ls h hAW hP hD hS (lv_sub hl [0, 1, 2, 3, 4, 5, 6, 7, 8] rfl)
                                  · replace h := h.2 c_311_56
                                    refine lv_aload_n hx hb dL_pictures_314 rfl (lv_at hl 8 rfl) ?_
                                    refine lv_iload_n hx hb dL_pictures_315 rfl (lv_at hl 5 rfl) ?_
                                    refine lv_iconst (v := (4 : Int32)) hx hb dL_pictures_316 (by decide) ?_
                                    obtain ⟨fs9, heA⟩ := hAW.recv
                                    refine vp_callSi (W.runV (As := [.int v3_19, .int (4 : Int32)]) (rest := []) ⟨hx, hb, hml, hown, hts⟩ (a_picture l g a V ws hAW v3_19 (4 : Int32) _ h) (cwV 2 hts gL_pictures_X4_picture rfl rfl rfl hdX4_picture ⟨(Nat.le_of_ble_eq_true rfl), (Nat.le_of_ble_eq_true rfl)⟩) (preV_R (r := (RX4, TX4, 9)) hK hP (ci := 4) (q0 := 0) rfl heA) rfl rfl hl.1 rfl (lv_room (Nat.le_of_ble_eq_true rfl)) dL_pictures_317 ⟨(Nat.le_of_ble_eq_true rfl), (Nat.le_of_ble_eq_true rfl)⟩) (fun r317_58 h => ?_)
                                    clear heA fs9
                                    refine lv_if_ne (tgt := 330) hx hb dL_pictures_320 (by decide) (fun c_320_58 => ?_) (fun c_320_58 => ?_)
                                    · replace h := h.1 c_320_58
                                      obtain ⟨v7_60, e_v7_60⟩ : ∃ y : Int32, y = v7_45 + (1 : Int32) := ⟨_, rfl⟩
                                      replace h := h v7_60 e_v7_60
                                      refine lv_iinc (v := v7_60) (lv' := [(7, .int v7_60), (8, .int t_47), (6, .int r179_35), (5, .int r102_21), (4, .int v4_22), (3, .int v3_19), (2, .int v2_2), (1, .int r2_1), (0, .ref (a.1 0))]) hx hb dL_pictures_330 hl (k := 1) rfl (by rw [e_v7_60]; rfl) (by decide) rfl (fun ls hl => ?_)
                                      refine lv_goto (tgt := 246) hx hb dL_pictures_333 (by decide) ?_
                                      exact ih_10 v7_60 ws H locs ls h hAW hP hD hS (lv_sub hl [0, 2, 3, 4, 5, 6, 7, 8] rfl)
                                    · replace h := h.2 c_320_58
                                      exact tail_12  ws H locs ls h hAW hP hD hS (lv_sub hl [0, 1, 2, 3, 4, 5, 6, 7, 8] rfl)
                        refine lv_icmp_ne (tgt := 262) hx hb dL_pictures_255 (by decide) (fun c_255_60 => ?_) (fun c_255_60 => ?_)
                        · replace h := h.1 c_255_60
                          refine lv_aload_n hx hb dL_pictures_262 rfl (lv_at hl 7 rfl) ?_
                          refine lv_iload_n hx hb dL_pictures_263 rfl (lv_at hl 4 rfl) ?_
                          refine lv_iload hx hb dL_pictures_264 (lv_at hl 0 rfl) ?_
                          obtain ⟨fs9, heA⟩ := hAW.recv
                          refine vp_callSi (W.runV (As := [.int v3_19, .int v7_45]) (rest := []) ⟨hx, hb, hml, hown, hts⟩ (a_meetings l g a V ws hAW v3_19 v7_45 _ h) (cwV 2 hts gL_pictures_X4_meetings rfl rfl rfl hdX4_meetings ⟨(Nat.le_of_ble_eq_true rfl), (Nat.le_of_ble_eq_true rfl)⟩) (preV_R (r := (RX4, TX4, 9)) hK hP (ci := 4) (q0 := 0) rfl heA) rfl rfl hl.1 rfl (lv_room (Nat.le_of_ble_eq_true rfl)) dL_pictures_266 ⟨(Nat.le_of_ble_eq_true rfl), (Nat.le_of_ble_eq_true rfl)⟩) (fun r266_62 h => ?_)
                          clear heA fs9
                          exact tail_11 r266_62 ws H locs ls h hAW hP hD hS (lv_sub hl [0, 1, 2, 3, 4, 5, 6, 7] rfl)
                        · replace h := h.2 c_255_60
                          refine lv_iconst (v := (0 : Int32)) hx hb dL_pictures_258 (by decide) ?_
                          refine lv_goto (tgt := 269) hx hb dL_pictures_259 (by decide) ?_
                          exact tail_11 (0 : Int32) ws H locs ls h hAW hP hD hS (lv_sub hl [0, 1, 2, 3, 4, 5, 6, 7] rfl)
                  obtain ⟨n_10, h⟩ := h
                  refine loop_10 _ ?_ n_10 (0 : Int32) _ _ _ ls h hAW hP hD hS (lv_sub hl [0, 1, 2, 3, 4, 5, 6, 7] rfl)
                  intro v7_45 ws H locs ls h hAW hP hD hS hl
                  obtain ⟨v3_63, e_v3_63⟩ : ∃ y : Int32, y = v3_19 + (1 : Int32) := ⟨_, rfl⟩
                  replace h := h v3_63 e_v3_63
                  refine lv_iinc (v := v3_63) (lv' := [(3, .int v3_63), (7, .int v7_45), (6, .int r179_35), (5, .int r102_21), (4, .int v4_22), (2, .int v2_2), (1, .int r2_1), (0, .ref (a.1 0))]) hx hb dL_pictures_336 hl (k := 4) rfl (by rw [e_v3_63]; rfl) (by decide) rfl (fun ls hl => ?_)
                  refine lv_goto (tgt := 91) hx hb dL_pictures_339 (by decide) ?_
                  exact ih_6 v3_63 ws H locs ls h hAW hP hD hS (lv_sub hl [0, 5, 6, 7] rfl)
                · replace h := h.2 c_238_43
                  refine lv_iconst (v := (0 : Int32)) hx hb dL_pictures_241 (by decide) ?_
                  exact W.zret (v := (0 : Int32)) hx hb hr rfl (fun t ht hW => ⟨⟨(0 : Int32), ws, rfl, ⟨V, hAW, h⟩, by rw [ht]; exact hP, hD⟩, hS.F ht⟩) hS.2.2 dL_pictures_242
          refine lv_icmp_ne (tgt := 214) hx hb dL_pictures_204 (by decide) (fun c_204_63 => ?_) (fun c_204_63 => ?_)
          · replace h := h.1 c_204_63
            refine lv_iconst (v := (0 : Int32)) hx hb dL_pictures_214 (by decide) ?_
            exact tail_9 (0 : Int32) ws H locs ls h hAW hP hD hS (lv_sub hl [0, 1, 2, 3, 4, 5, 6] rfl)
          · replace h := h.2 c_204_63
            refine lv_iload hx hb dL_pictures_207 (lv_at hl 1 rfl) ?_
            refine lv_iconst (v := (1 : Int32)) hx hb dL_pictures_209 (by decide) ?_
            refine lv_isub hx hb dL_pictures_210 ?_
            refine lv_goto (tgt := 215) hx hb dL_pictures_211 (by decide) ?_
            exact tail_9 (r102_21 - (1 : Int32)) ws H locs ls h hAW hP hD hS (lv_sub hl [0, 1, 2, 3, 4, 5, 6] rfl)
  obtain ⟨n_6, h⟩ := h
  refine loop_6 _ ?_ n_6 (0 : Int32) _ _ _ ls h hAW hP hD hS (lv_sub hl [0, 1, 2, 3] rfl)
  intro v3_19 ws H locs ls h hAW hP hD hS hl
  refine lv_aload_n hx hb dL_pictures_342 rfl (lv_at hl 3 rfl) ?_
  refine lv_iconst (v := (3 : Int32)) hx hb dL_pictures_343 (by decide) ?_
  obtain ⟨fs9, heA⟩ := hAW.recv
  refine vl_calli (V := V) (va_runV (As := [.int (3 : Int32)]) (rest := []) ⟨hx, hb, hml, hown, hts⟩ (a_gaps l g a V ws H.size hAW (3 : Int32) _ h) (cwV 1 hts gL_pictures_X4_gaps rfl rfl rfl hdX4_gaps ⟨(Nat.le_of_ble_eq_true rfl), (Nat.le_of_ble_eq_true rfl)⟩) (preV_M (r := (RX4, TX4, 9)) hK hP hD (ci := 4) (q0 := 0) rfl heA) rfl rfl hl.1 rfl (lv_room (Nat.le_of_ble_eq_true rfl)) dL_pictures_344 ⟨(Nat.le_of_ble_eq_true rfl), (Nat.le_of_ble_eq_true rfl)⟩) hS (va_freeA hD hS hA) ?_
  clear heA fs9
  clear h hAW hP hD hS
  clear ws H locs
  intro r344_65 V_66 ws H locs hAW hP hD hS h
  refine lv_istore_n (lv' := [(3, .int r344_65), (2, .int v2_2), (1, .int r2_1), (0, .ref (a.1 0))]) hx hb dL_pictures_347 rfl hl (by decide) rfl (fun ls hl => ?_)
  refine lv_aload_n hx hb dL_pictures_348 rfl (lv_at hl 3 rfl) ?_
  refine lv_iconst (v := (0 : Int32)) hx hb dL_pictures_349 (by decide) ?_
  obtain ⟨fs9, heA⟩ := hAW.recv
  refine vl_calli (V := V_66) (va_runV (As := [.int (0 : Int32)]) (rest := []) ⟨hx, hb, hml, hown, hts⟩ (a_gaps l g a V_66 ws H.size hAW (0 : Int32) _ h) (cwV 1 hts gL_pictures_X4_gaps rfl rfl rfl hdX4_gaps ⟨(Nat.le_of_ble_eq_true rfl), (Nat.le_of_ble_eq_true rfl)⟩) (preV_M (r := (RX4, TX4, 9)) hK hP hD (ci := 4) (q0 := 0) rfl heA) rfl rfl hl.1 rfl (lv_room (Nat.le_of_ble_eq_true rfl)) dL_pictures_350 ⟨(Nat.le_of_ble_eq_true rfl), (Nat.le_of_ble_eq_true rfl)⟩) hS (va_freeA hD hS hA) ?_
  clear heA fs9
  clear h hAW hP hD hS
  clear ws H locs
  intro r350_67 V_68 ws H locs hAW hP hD hS h
  refine lv_iload_n hx hb dL_pictures_353 rfl (lv_at hl 1 rfl) ?_
  refine lv_icmp_ne (tgt := 399) hx hb dL_pictures_354 (by decide) (fun c_354_68 => ?_) (fun c_354_68 => ?_)
  · replace h := h.1 c_354_68
    refine lv_iconst (v := (0 : Int32)) hx hb dL_pictures_399 (by decide) ?_
    exact W.zret (v := (0 : Int32)) hx hb hr rfl (fun t ht hW => ⟨⟨(0 : Int32), ws, rfl, ⟨V_68, hAW, h⟩, by rw [ht]; exact hP, hD⟩, hS.F ht⟩) hS.2.2 dL_pictures_400
  · replace h := h.2 c_354_68
    refine lv_iload_n hx hb dL_pictures_357 rfl (lv_at hl 0 rfl) ?_
    refine lv_iload_n hx hb dL_pictures_358 rfl (lv_at hl 1 rfl) ?_
    refine lv_icmp_gt (tgt := 399) hx hb dL_pictures_359 (by decide) (fun c_359_69 => ?_) (fun c_359_69 => ?_)
    · replace h := h.1 c_359_69
      refine lv_iconst (v := (0 : Int32)) hx hb dL_pictures_399 (by decide) ?_
      exact W.zret (v := (0 : Int32)) hx hb hr rfl (fun t ht hW => ⟨⟨(0 : Int32), ws, rfl, ⟨V_68, hAW, h⟩, by rw [ht]; exact hP, hD⟩, hS.F ht⟩) hS.2.2 dL_pictures_400
    · replace h := h.2 c_359_69
      refine lv_aload_n hx hb dL_pictures_362 rfl (lv_at hl 3 rfl) ?_
      refine lv_bipush (v := (40 : Int32)) hx hb dL_pictures_363 (by decide) ?_
      obtain ⟨fs9, heA⟩ := hAW.recv
      refine vl_calli (V := V_68) (va_runV (As := [.int (40 : Int32)]) (rest := []) ⟨hx, hb, hml, hown, hts⟩ (a_gaps l g a V_68 ws H.size hAW (40 : Int32) _ h) (cwV 1 hts gL_pictures_X4_gaps rfl rfl rfl hdX4_gaps ⟨(Nat.le_of_ble_eq_true rfl), (Nat.le_of_ble_eq_true rfl)⟩) (preV_M (r := (RX4, TX4, 9)) hK hP hD (ci := 4) (q0 := 0) rfl heA) rfl rfl hl.1 rfl (lv_room (Nat.le_of_ble_eq_true rfl)) dL_pictures_365 ⟨(Nat.le_of_ble_eq_true rfl), (Nat.le_of_ble_eq_true rfl)⟩) hS (va_freeA hD hS hA) ?_
      clear heA fs9
      clear h hAW hP hD hS
      clear ws H locs
      intro r365_71 V_72 ws H locs hAW hP hD hS h
      refine lv_iload_n hx hb dL_pictures_368 rfl (lv_at hl 0 rfl) ?_
      refine lv_icmp_gt (tgt := 399) hx hb dL_pictures_369 (by decide) (fun c_369_72 => ?_) (fun c_369_72 => ?_)
      · replace h := h.1 c_369_72
        refine lv_iconst (v := (0 : Int32)) hx hb dL_pictures_399 (by decide) ?_
        exact W.zret (v := (0 : Int32)) hx hb hr rfl (fun t ht hW => ⟨⟨(0 : Int32), ws, rfl, ⟨V_72, hAW, h⟩, by rw [ht]; exact hP, hD⟩, hS.F ht⟩) hS.2.2 dL_pictures_400
      · replace h := h.2 c_369_72
        refine lv_aload_n hx hb dL_pictures_372 rfl (lv_at hl 3 rfl) ?_
        refine lv_iconst (v := (5 : Int32)) hx hb dL_pictures_373 (by decide) ?_
        obtain ⟨fs9, heA⟩ := hAW.recv
        refine vp_callSi (W.runV (As := [.int (5 : Int32)]) (rest := []) ⟨hx, hb, hml, hown, hts⟩ (a_count l g a V_72 ws hAW (5 : Int32) _ h) (cwV 1 hts gL_pictures_X4_count rfl rfl rfl hdX4_count ⟨(Nat.le_of_ble_eq_true rfl), (Nat.le_of_ble_eq_true rfl)⟩) (preV_R (r := (RX4, TX4, 9)) hK hP (ci := 4) (q0 := 0) rfl heA) rfl rfl hl.1 rfl (lv_room (Nat.le_of_ble_eq_true rfl)) dL_pictures_374 ⟨(Nat.le_of_ble_eq_true rfl), (Nat.le_of_ble_eq_true rfl)⟩) (fun r374_74 h => ?_)
        clear heA fs9
        refine lv_sipush (v := (8640 : Int32)) hx hb dL_pictures_377 (by decide) ?_
        refine lv_icmp_gt (tgt := 399) hx hb dL_pictures_380 (by decide) (fun c_380_74 => ?_) (fun c_380_74 => ?_)
        · replace h := h.1 c_380_74
          refine lv_iconst (v := (0 : Int32)) hx hb dL_pictures_399 (by decide) ?_
          exact W.zret (v := (0 : Int32)) hx hb hr rfl (fun t ht hW => ⟨⟨(0 : Int32), ws, rfl, ⟨V_72, hAW, h⟩, by rw [ht]; exact hP, hD⟩, hS.F ht⟩) hS.2.2 dL_pictures_400
        · replace h := h.2 c_380_74
          refine lv_aload_n hx hb dL_pictures_383 rfl (lv_at hl 3 rfl) ?_
          refine lv_bipush (v := (6 : Int32)) hx hb dL_pictures_384 (by decide) ?_
          obtain ⟨fs9, heA⟩ := hAW.recv
          refine vp_callSi (W.runV (As := [.int (6 : Int32)]) (rest := []) ⟨hx, hb, hml, hown, hts⟩ (a_count l g a V_72 ws hAW (6 : Int32) _ h) (cwV 1 hts gL_pictures_X4_count rfl rfl rfl hdX4_count ⟨(Nat.le_of_ble_eq_true rfl), (Nat.le_of_ble_eq_true rfl)⟩) (preV_R (r := (RX4, TX4, 9)) hK hP (ci := 4) (q0 := 0) rfl heA) rfl rfl hl.1 rfl (lv_room (Nat.le_of_ble_eq_true rfl)) dL_pictures_386 ⟨(Nat.le_of_ble_eq_true rfl), (Nat.le_of_ble_eq_true rfl)⟩) (fun r386_76 h => ?_)
          clear heA fs9
          refine lv_sipush (v := (8640 : Int32)) hx hb dL_pictures_389 (by decide) ?_
          refine lv_icmp_gt (tgt := 399) hx hb dL_pictures_392 (by decide) (fun c_392_76 => ?_) (fun c_392_76 => ?_)
          · replace h := h.1 c_392_76
            refine lv_iconst (v := (0 : Int32)) hx hb dL_pictures_399 (by decide) ?_
            exact W.zret (v := (0 : Int32)) hx hb hr rfl (fun t ht hW => ⟨⟨(0 : Int32), ws, rfl, ⟨V_72, hAW, h⟩, by rw [ht]; exact hP, hD⟩, hS.F ht⟩) hS.2.2 dL_pictures_400
          · replace h := h.2 c_392_76
            refine lv_iconst (v := (1 : Int32)) hx hb dL_pictures_395 (by decide) ?_
            refine lv_goto (tgt := 400) hx hb dL_pictures_396 (by decide) ?_
            exact W.zret (v := (1 : Int32)) hx hb hr rfl (fun t ht hW => ⟨⟨(1 : Int32), ws, rfl, ⟨V_72, hAW, h⟩, by rw [ht]; exact hP, hD⟩, hS.F ht⟩) hS.2.2 dL_pictures_400
