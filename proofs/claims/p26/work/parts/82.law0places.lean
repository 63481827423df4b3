def PL_places_J4 (lb_3 : Int32 → Int32 → Prop) (v5_5 : Int32) (v6_6 : Int32)  : Prop := (∀ v5_11 : Int32, v5_11 = (v5_5 ||| (0 : Int32)) → (∀ v6_12 : Int32, v6_12 = v6_6 + (1 : Int32) → lb_3 v5_11 v6_12))
def PL_places_L3 (V : VS) (t_3 : Int32) (r62_4 : Int32) (kx_3 : Int32 → Int32 → Prop) : Nat → Int32 → Int32 → Prop
  | 0, _, _ => False
  | n_3 + 1, v5_5, v6_6 => PA_count V (0 : Int32) (fun r77_7 => ((r77_7 ≤ v6_6 → kx_3 v5_5 v6_6) ∧ (¬ r77_7 ≤ v6_6 → PA_columnAt V v6_6 t_3 (fun r87_9 => PA_picture V v6_6 (3 : Int32) (fun r98_10 => ((r98_10 = (2 : Int32) → (PL_places_J4 (PL_places_L3 V t_3 r62_4 kx_3 n_3) v5_5 v6_6)) ∧ (¬ r98_10 = (2 : Int32) → ((¬ r87_9 = (-109 : Int32) → PA_color V v6_6 r87_9 r62_4 (fun r123_15 => (∀ v5_16 : Int32, v5_16 = (v5_5 ||| r123_15) → (∀ v6_17 : Int32, v6_17 = v6_6 + (1 : Int32) → (PL_places_L3 V t_3 r62_4 kx_3 n_3) v5_16 v6_17)))) ∧ (r87_9 = (-109 : Int32) → (PL_places_J4 (PL_places_L3 V t_3 r62_4 kx_3 n_3) v5_5 v6_6))))))))))
def PL_places_J5 (V : VS) (k : Int32 → Prop) (lb_1 : Int32 → Prop) (v2_1 : Int32) (r140_18 : Int32) (r150_19 : Int32)  : Prop := ((r140_18 ≤ 0 → (∀ v2_25 : Int32, v2_25 = v2_1 + (1 : Int32) → lb_1 v2_25)) ∧ (¬ r140_18 ≤ 0 → ((r150_19 = (-109 : Int32) → (k (0 : Int32))) ∧ (¬ r150_19 = (-109 : Int32) → PA_setting V (3 : Int32) (fun r218_27 => ((r150_19 < r218_27 → (∀ v2_29 : Int32, v2_29 = v2_1 + (1 : Int32) → lb_1 v2_29)) ∧ (¬ r150_19 < r218_27 → (k (0 : Int32)))))))))
def PL_places_J2 (V : VS) (a_2 : Int32) (k : Int32 → Prop) (lb_1 : Int32 → Prop) (v2_1 : Int32) (t_3 : Int32) : Prop := PL_low (a_2 >>> ((v2_1 / (2 : Int32)) &&& 31)) (12 : Int32) (fun r62_4 => (∃ n_3, PL_places_L3 V t_3 r62_4 (fun v5_5 v6_6 => PA_place V t_3 r62_4 (1 : Int32) (fun r140_18 => PA_place V t_3 r62_4 (2 : Int32) (fun r150_19 => PA_place V t_3 r62_4 (0 : Int32) (fun r160_20 => ((¬ r160_20 = v5_5 → (k (0 : Int32))) ∧ (r160_20 = v5_5 → ((r140_18 < 0 → (k (0 : Int32))) ∧ (¬ r140_18 < 0 → (((7 : Int32) < r140_18 → (k (0 : Int32))) ∧ (¬ (7 : Int32) < r140_18 → ((r150_19 = (-109 : Int32) → (PL_places_J5 V k lb_1 v2_1 r140_18 r150_19)) ∧ (¬ r150_19 = (-109 : Int32) → ((r150_19 < 0 → (k (0 : Int32))) ∧ (¬ r150_19 < 0 → PA_count V (3 : Int32) (fun r196_32 => ((r196_32 ≤ r150_19 → (k (0 : Int32))) ∧ (¬ r196_32 ≤ r150_19 → (PL_places_J5 V k lb_1 v2_1 r140_18 r150_19)))))))))))))))))) n_3 (0 : Int32) (0 : Int32)))
def PL_places_L1 (V : VS) (a_2 : Int32) (k : Int32 → Prop) (kx_1 : Int32 → Prop) : Nat → Int32 → Prop
  | 0, _ => False
  | n_1 + 1, v2_1 => (((24 : Int32) ≤ v2_1 → kx_1 v2_1) ∧ (¬ (24 : Int32) ≤ v2_1 → (((12 : Int32) ≤ v2_1 → PA_count V (1 : Int32) (fun r28_35 => PL_low (a_2 >>> ((v2_1 - (9 : Int32)) &&& 31)) (61 : Int32) (fun r39_36 => (PL_places_J2 V a_2 k (PL_places_L1 V a_2 k kx_1 n_1) v2_1) ((((r28_35 + r39_36) - (30 : Int32)) + (720 : Int32)) - (((r28_35 + r39_36) - (30 : Int32)) + (720 : Int32)) / (720 : Int32) * (720 : Int32))))) ∧ (¬ (12 : Int32) ≤ v2_1 → PL_low (a_2 >>> (v2_1 &&& 31)) (720 : Int32) (fun r20_37 => (PL_places_J2 V a_2 k (PL_places_L1 V a_2 k kx_1 n_1) v2_1) r20_37)))))
def PL_places (V : VS) (a_2 : Int32) (k : Int32 → Prop) : Prop := (∃ n_1, PL_places_L1 V a_2 k (fun v2_1 => (k (1 : Int32))) n_1 (0 : Int32))
theorem hdL_places : yL_places.cls = RL ∧ yL_places.cls ≠ "java/lang/invoke/MethodHandle" ∧ yL_places.cls ≠ "java/lang/invoke/VarHandle" ∧ (parseMethodDescriptor yL_places.desc).map (fun d => d.parameters.length) = some 2 := by decide +kernel
set_option maxHeartbeats 8000000 in
set_option maxRecDepth 100000 in
theorem kL_places (l : Launch) (g : GG) (a : QS) (V : VS) (ws : va_W) (hAW : AW g a V ws) (a_2 : Int32) (k : Int32 → Prop) (h : PL_places V a_2 k) : Met l yL_places wsL_places ({ frames := 7, cells := 0, slots := 0, locals := 150 }) (PreR g [.ref (a.1 0), .int a_2] ws) (vp_Si k) 0 0 (fun _ => False) := by
  refine Met_ofWF (cc := cL_places) (maxL := 8) (ret := (some .boolean)) (by decide +kernel) rfl ?_
  intro p e s m args below meth c s₁ B hml hv
  obtain ⟨rfl, hP, hK⟩ := hv
  have hx := B.exec
  have hb := B.bytes
  have hr := B.returns
  have hts := atoms_spec (ws := wsL_places) B.pre
  have hown : s.vm.findClass RL = some m.cls := findClass_of_methodNamed B.named
  have hlocks := B.notSynchronized
  have hl := lv_entry ([.ref (a.1 0), .int a_2]) (n := 8) (Nat.le_of_ble_eq_true rfl)
  rw [lg_entry_eq]
  generalize (lg_sl ([.ref (a.1 0), .int a_2]) ++ List.replicate (8 - (lg_sl ([.ref (a.1 0), .int a_2])).length) Slot.unset).toArray = ls at hl ⊢
  have hl : lv_has ls 8 [(0, .ref (a.1 0)), (1, .int a_2)] := hl
  unfold PL_places at h
  refine lv_iconst (v := (0 : Int32)) hx hb dL_places_0 (by decide) ?_
  refine lv_istore_n (lv' := [(2, .int (0 : Int32)), (0, .ref (a.1 0)), (1, .int a_2)]) hx hb dL_places_1 rfl hl (by decide) rfl (fun ls hl => ?_)
  have loop_1 : ∀ (kx_1 : Int32 → Prop), (∀ (v2_1 : Int32) (ls : Array Slot), kx_1 v2_1 → lv_has ls 8 [(2, .int v2_1), (0, .ref (a.1 0)), (1, .int a_2)] → W p l e (headSpec wsL_places ({ frames := 7, cells := 0, slots := 0, locals := 150 })).room s m ([.ref (a.1 0), .int a_2] : List Value).toArray below meth c s.heap [] 0 0 (MQ below (vp_Si k) ([.ref (a.1 0), .int a_2] : List Value).toArray s 0 0 (fun _ => False)) (F0 m 232 ls [])) → ∀ (n_1 : Nat) (v2_1 : Int32) (ls : Array Slot), PL_places_L1 V a_2 k kx_1 n_1 v2_1 → lv_has ls 8 [(2, .int v2_1), (0, .ref (a.1 0)), (1, .int a_2)] → W p l e (headSpec wsL_places ({ frames := 7, cells := 0, slots := 0, locals := 150 })).room s m ([.ref (a.1 0), .int a_2] : List Value).toArray below meth c s.heap [] 0 0 (MQ below (vp_Si k) ([.ref (a.1 0), .int a_2] : List Value).toArray s 0 0 (fun _ => False)) (F0 m 2 ls []) := by
    intro kx_1 hexit_1 n_1
    induction n_1 with
    | zero => exact fun _ _ h _ => (h : False).elim
    | succ n_1 ih_1 =>
      intro v2_1 ls h hl
      unfold PL_places_L1 at h
      refine lv_iload_n hx hb dL_places_2 rfl (lv_at hl 0 rfl) ?_
      refine lv_bipush (v := (24 : Int32)) hx hb dL_places_3 (by decide) ?_
      refine lv_icmp_ge (tgt := 232) hx hb dL_places_5 (by decide) (fun c_5_1 => ?_) (fun c_5_1 => ?_)
      · replace h := h.1 c_5_1
        exact hexit_1 v2_1 ls h (lv_sub hl [0, 1, 2] rfl)
      · replace h := h.2 c_5_1
        refine lv_iload_n hx hb dL_places_8 rfl (lv_at hl 0 rfl) ?_
        refine lv_bipush (v := (12 : Int32)) hx hb dL_places_9 (by decide) ?_
        have tail_2 : ∀ (t_3 : Int32) (ls : Array Slot), PL_places_J2 V a_2 k (PL_places_L1 V a_2 k kx_1 n_1) v2_1 t_3 → lv_has ls 8 [(2, .int v2_1), (0, .ref (a.1 0)), (1, .int a_2)] → W p l e (headSpec wsL_places ({ frames := 7, cells := 0, slots := 0, locals := 150 })).room s m ([.ref (a.1 0), .int a_2] : List Value).toArray below meth c s.heap [] 0 0 (MQ below (vp_Si k) ([.ref (a.1 0), .int a_2] : List Value).toArray s 0 0 (fun _ => False)) (F0 m 54 ls [.int t_3]) := by
          intro t_3 ls h hl
          unfold PL_places_J2 at h
          refine lv_istore_n (lv' := [(3, .int t_3), (2, .int v2_1), (0, .ref (a.1 0)), (1, .int a_2)]) hx hb dL_places_54 rfl hl (by decide) rfl (fun ls hl => ?_)
          refine lv_iload_n hx hb dL_places_55 rfl (lv_at hl 3 rfl) ?_
          refine lv_iload_n hx hb dL_places_56 rfl (lv_at hl 1 rfl) ?_
          refine lv_iconst (v := (2 : Int32)) hx hb dL_places_57 (by decide) ?_
          refine lv_idiv hx hb dL_places_58 (by decide) ?_
          refine lv_ishr hx hb dL_places_59 ?_
          refine lv_bipush (v := (12 : Int32)) hx hb dL_places_60 (by decide) ?_
          refine vp_callSi (W.runS (As := [.int (a_2 >>> ((v2_1 / (2 : Int32)) &&& 31)), .int (12 : Int32)]) (rest := []) ⟨hx, hb, hml, hown, hts⟩ (kL_low l g  (a_2 >>> ((v2_1 / (2 : Int32)) &&& 31)) (12 : Int32) _ h) (va_cwS 2 hts gL_places_L_low rfl rfl rfl hdL_low.2 ⟨(Nat.le_of_ble_eq_true rfl), (Nat.le_of_ble_eq_true rfl)⟩) (preS_R hK (va_P_nil (D := g.1) (cl := vwCl))) rfl rfl hl.1 rfl (lv_room (Nat.le_of_ble_eq_true rfl)) dL_places_62 ⟨(Nat.le_of_ble_eq_true rfl), (Nat.le_of_ble_eq_true rfl)⟩) (fun r62_4 h => ?_)
          refine lv_istore (lv' := [(4, .int r62_4), (3, .int t_3), (2, .int v2_1), (0, .ref (a.1 0)), (1, .int a_2)]) hx hb dL_places_65 hl (by decide) rfl (fun ls hl => ?_)
          refine lv_iconst (v := (0 : Int32)) hx hb dL_places_67 (by decide) ?_
          refine lv_istore (lv' := [(5, .int (0 : Int32)), (4, .int r62_4), (3, .int t_3), (2, .int v2_1), (0, .ref (a.1 0)), (1, .int a_2)]) hx hb dL_places_68 hl (by decide) rfl (fun ls hl => ?_)
          refine lv_iconst (v := (0 : Int32)) hx hb dL_places_70 (by decide) ?_
          refine lv_istore (lv' := [(6, .int (0 : Int32)), (5, .int (0 : Int32)), (4, .int r62_4), (3, .int t_3), (2, .int v2_1), (0, .ref (a.1 0)), (1, .int a_2)]) hx hb dL_places_71 hl (by decide) rfl (fun ls hl => ?_)
          have loop_3 : ∀ (kx_3 : Int32 → Int32 → Prop), (∀ (v5_5 : Int32) (v6_6 : Int32) (ls : Array Slot), kx_3 v5_5 v6_6 → lv_has ls 8 [(6, .int v6_6), (5, .int v5_5), (4, .int r62_4), (3, .int t_3), (2, .int v2_1), (0, .ref (a.1 0)), (1, .int a_2)] → W p l e (headSpec wsL_places ({ frames := 7, cells := 0, slots := 0, locals := 150 })).room s m ([.ref (a.1 0), .int a_2] : List Value).toArray below meth c s.heap [] 0 0 (MQ below (vp_Si k) ([.ref (a.1 0), .int a_2] : List Value).toArray s 0 0 (fun _ => False)) (F0 m 135 ls [])) → ∀ (n_3 : Nat) (v5_5 : Int32) (v6_6 : Int32) (ls : Array Slot), PL_places_L3 V t_3 r62_4 kx_3 n_3 v5_5 v6_6 → lv_has ls 8 [(6, .int v6_6), (5, .int v5_5), (4, .int r62_4), (3, .int t_3), (2, .int v2_1), (0, .ref (a.1 0)), (1, .int a_2)] → W p l e (headSpec wsL_places ({ frames := 7, cells := 0, slots := 0, locals := 150 })).room s m ([.ref (a.1 0), .int a_2] : List Value).toArray below meth c s.heap [] 0 0 (MQ below (vp_Si k) ([.ref (a.1 0), .int a_2] : List Value).toArray s 0 0 (fun _ => False)) (F0 m 73 ls []) := by
            intro kx_3 hexit_3 n_3
            induction n_3 with
            | zero => exact fun _ _ _ h _ => (h : False).elim
            | succ n_3 ih_3 =>
              intro v5_5 v6_6 ls h hl
              unfold PL_places_L3 at h
              refine lv_iload hx hb dL_places_73 (lv_at hl 0 rfl) ?_
              refine lv_aload_n hx hb dL_places_75 rfl (lv_at hl 5 rfl) ?_
              refine lv_iconst (v := (0 : Int32)) hx hb dL_places_76 (by decide) ?_
              obtain ⟨fs9, heA⟩ := hAW.recv
              refine vp_callSi (W.runV (As := [.int (0 : Int32)]) (rest := [.int v6_6]) ⟨hx, hb, hml, hown, hts⟩ (a_count l g a V ws hAW (0 : Int32) _ h) (cwV 1 hts gL_places_X4_count rfl rfl rfl hdX4_count ⟨(Nat.le_of_ble_eq_true rfl), (Nat.le_of_ble_eq_true rfl)⟩) (preV_R (r := (RX4, TX4, 9)) hK hP (ci := 4) (q0 := 0) rfl heA) rfl rfl hl.1 rfl (lv_room (Nat.le_of_ble_eq_true rfl)) dL_places_77 ⟨(Nat.le_of_ble_eq_true rfl), (Nat.le_of_ble_eq_true rfl)⟩) (fun r77_7 h => ?_)
              clear heA fs9
              refine lv_icmp_ge (tgt := 135) hx hb dL_places_80 (by decide) (fun c_80_7 => ?_) (fun c_80_7 => ?_)
              · replace h := h.1 c_80_7
                exact hexit_3 v5_5 v6_6 ls h (lv_sub hl [0, 1, 2, 3, 4, 5, 6] rfl)
              · replace h := h.2 c_80_7
                refine lv_aload_n hx hb dL_places_83 rfl (lv_at hl 5 rfl) ?_
                refine lv_iload hx hb dL_places_84 (lv_at hl 0 rfl) ?_
                refine lv_iload_n hx hb dL_places_86 rfl (lv_at hl 3 rfl) ?_
                obtain ⟨fs9, heA⟩ := hAW.recv
                refine vp_callSi (W.runV (As := [.int v6_6, .int t_3]) (rest := []) ⟨hx, hb, hml, hown, hts⟩ (a_columnAt l g a V ws hAW v6_6 t_3 _ h) (cwV 2 hts gL_places_X4_columnAt rfl rfl rfl hdX4_columnAt ⟨(Nat.le_of_ble_eq_true rfl), (Nat.le_of_ble_eq_true rfl)⟩) (preV_R (r := (RX4, TX4, 9)) hK hP (ci := 4) (q0 := 0) rfl heA) rfl rfl hl.1 rfl (lv_room (Nat.le_of_ble_eq_true rfl)) dL_places_87 ⟨(Nat.le_of_ble_eq_true rfl), (Nat.le_of_ble_eq_true rfl)⟩) (fun r87_9 h => ?_)
                clear heA fs9
                refine lv_istore (lv' := [(7, .int r87_9), (6, .int v6_6), (5, .int v5_5), (4, .int r62_4), (3, .int t_3), (2, .int v2_1), (0, .ref (a.1 0)), (1, .int a_2)]) hx hb dL_places_90 hl (by decide) rfl (fun ls hl => ?_)
                refine lv_iload hx hb dL_places_92 (lv_at hl 2 rfl) ?_
                refine lv_aload_n hx hb dL_places_94 rfl (lv_at hl 6 rfl) ?_
                refine lv_iload hx hb dL_places_95 (lv_at hl 1 rfl) ?_
                refine lv_iconst (v := (3 : Int32)) hx hb dL_places_97 (by decide) ?_
                obtain ⟨fs9, heA⟩ := hAW.recv
                refine vp_callSi (W.runV (As := [.int v6_6, .int (3 : Int32)]) (rest := [.int v5_5]) ⟨hx, hb, hml, hown, hts⟩ (a_picture l g a V ws hAW v6_6 (3 : Int32) _ h) (cwV 2 hts gL_places_X4_picture rfl rfl rfl hdX4_picture ⟨(Nat.le_of_ble_eq_true rfl), (Nat.le_of_ble_eq_true rfl)⟩) (preV_R (r := (RX4, TX4, 9)) hK hP (ci := 4) (q0 := 0) rfl heA) rfl rfl hl.1 rfl (lv_room (Nat.le_of_ble_eq_true rfl)) dL_places_98 ⟨(Nat.le_of_ble_eq_true rfl), (Nat.le_of_ble_eq_true rfl)⟩) (fun r98_10 h => ?_)
                clear heA fs9
                refine lv_iconst (v := (2 : Int32)) hx hb dL_places_101 (by decide) ?_
                have tail_4 : ∀ (ls : Array Slot), PL_places_J4 (PL_places_L3 V t_3 r62_4 kx_3 n_3) v5_5 v6_6  → lv_has ls 8 [(7, .int r87_9), (6, .int v6_6), (5, .int v5_5), (4, .int r62_4), (3, .int t_3), (2, .int v2_1), (0, .ref (a.1 0)), (1, .int a_2)] → W p l e (headSpec wsL_places ({ frames := 7, cells := 0, slots := 0, locals := 150 })).room s m ([.ref (a.1 0), .int a_2] : List Value).toArray below meth c s.heap [] 0 0 (MQ below (vp_Si k) ([.ref (a.1 0), .int a_2] : List Value).toArray s 0 0 (fun _ => False)) (F0 m 112 ls [.int v5_5]) := by
                  intro  ls h hl
                  unfold PL_places_J4 at h
                  refine lv_iconst (v := (0 : Int32)) hx hb dL_places_112 (by decide) ?_
                  refine lv_goto (tgt := 126) hx hb dL_places_113 (by decide) ?_
                  refine lv_ior hx hb dL_places_126 ?_
                  refine lv_topi (fun v5_11 e_v5_11 => ?_)
                  replace h := h v5_11 e_v5_11
                  refine lv_istore (lv' := [(5, .int v5_11), (7, .int r87_9), (6, .int v6_6), (4, .int r62_4), (3, .int t_3), (2, .int v2_1), (0, .ref (a.1 0)), (1, .int a_2)]) hx hb dL_places_127 hl (by decide) rfl (fun ls hl => ?_)
                  obtain ⟨v6_12, e_v6_12⟩ : ∃ y : Int32, y = v6_6 + (1 : Int32) := ⟨_, rfl⟩
                  replace h := h v6_12 e_v6_12
                  refine lv_iinc (v := v6_12) (lv' := [(6, .int v6_12), (5, .int v5_11), (7, .int r87_9), (4, .int r62_4), (3, .int t_3), (2, .int v2_1), (0, .ref (a.1 0)), (1, .int a_2)]) hx hb dL_places_129 hl (k := 2) rfl (by rw [e_v6_12]; rfl) (by decide) rfl (fun ls hl => ?_)
                  refine lv_goto (tgt := 73) hx hb dL_places_132 (by decide) ?_
                  exact ih_3 v5_11 v6_12 ls h (lv_sub hl [0, 1, 3, 4, 5, 6, 7] rfl)
                refine lv_icmp_eq (tgt := 112) hx hb dL_places_102 (by decide) (fun c_102_12 => ?_) (fun c_102_12 => ?_)
                · replace h := h.1 c_102_12
                  exact tail_4  ls h (lv_sub hl [0, 1, 2, 3, 4, 5, 6, 7] rfl)
                · replace h := h.2 c_102_12
                  refine lv_iload hx hb dL_places_105 (lv_at hl 0 rfl) ?_
                  refine lv_bipush (v := (-109 : Int32)) hx hb dL_places_107 (by decide) ?_
                  refine lv_icmp_ne (tgt := 116) hx hb dL_places_109 (by decide) (fun c_109_13 => ?_) (fun c_109_13 => ?_)
                  · replace h := h.1 c_109_13
                    refine lv_aload_n hx hb dL_places_116 rfl (lv_at hl 6 rfl) ?_
                    refine lv_iload hx hb dL_places_117 (lv_at hl 1 rfl) ?_
                    refine lv_iload hx hb dL_places_119 (lv_at hl 0 rfl) ?_
                    refine lv_iload hx hb dL_places_121 (lv_at hl 3 rfl) ?_
                    obtain ⟨fs9, heA⟩ := hAW.recv
                    refine vp_callSi (W.runV (As := [.int v6_6, .int r87_9, .int r62_4]) (rest := [.int v5_5]) ⟨hx, hb, hml, hown, hts⟩ (a_color l g a V ws hAW v6_6 r87_9 r62_4 _ h) (cwV 3 hts gL_places_X4_color rfl rfl rfl hdX4_color ⟨(Nat.le_of_ble_eq_true rfl), (Nat.le_of_ble_eq_true rfl)⟩) (preV_R (r := (RX4, TX4, 9)) hK hP (ci := 4) (q0 := 0) rfl heA) rfl rfl hl.1 rfl (lv_room (Nat.le_of_ble_eq_true rfl)) dL_places_123 ⟨(Nat.le_of_ble_eq_true rfl), (Nat.le_of_ble_eq_true rfl)⟩) (fun r123_15 h => ?_)
                    clear heA fs9
                    refine lv_ior hx hb dL_places_126 ?_
                    refine lv_topi (fun v5_16 e_v5_16 => ?_)
                    replace h := h v5_16 e_v5_16
                    refine lv_istore (lv' := [(5, .int v5_16), (7, .int r87_9), (6, .int v6_6), (4, .int r62_4), (3, .int t_3), (2, .int v2_1), (0, .ref (a.1 0)), (1, .int a_2)]) hx hb dL_places_127 hl (by decide) rfl (fun ls hl => ?_)
                    obtain ⟨v6_17, e_v6_17⟩ : ∃ y : Int32, y = v6_6 + (1 : Int32) := ⟨_, rfl⟩
                    replace h := h v6_17 e_v6_17
                    refine lv_iinc (v := v6_17) (lv' := [(6, .int v6_17), (5, .int v5_16), (7, .int r87_9), (4, .int r62_4), (3, .int t_3), (2, .int v2_1), (0, .ref (a.1 0)), (1, .int a_2)]) hx hb dL_places_129 hl (k := 2) rfl (by rw [e_v6_17]; rfl) (by decide) rfl (fun ls hl => ?_)
                    refine lv_goto (tgt := 73) hx hb dL_places_132 (by decide) ?_
                    exact ih_3 v5_16 v6_17 ls h (lv_sub hl [0, 1, 3, 4, 5, 6, 7] rfl)
                  · replace h := h.2 c_109_13
                    exact tail_4  ls h (lv_sub hl [0, 1, 2, 3, 4, 5, 6, 7] rfl)
          obtain ⟨n_3, h⟩ := h
          refine loop_3 _ ?_ n_3 (0 : Int32) (0 : Int32) ls h (lv_sub hl [0, 1, 2, 3, 4, 5, 6] rfl)
          intro v5_5 v6_6 ls h hl
          refine lv_aload_n hx hb dL_places_135 rfl (lv_at hl 5 rfl) ?_
          refine lv_iload_n hx hb dL_places_136 rfl (lv_at hl 3 rfl) ?_
          refine lv_iload hx hb dL_places_137 (lv_at hl 2 rfl) ?_
          refine lv_iconst (v := (1 : Int32)) hx hb dL_places_139 (by decide) ?_
          obtain ⟨fs9, heA⟩ := hAW.recv
          refine vp_callSi (W.runV (As := [.int t_3, .int r62_4, .int (1 : Int32)]) (rest := []) ⟨hx, hb, hml, hown, hts⟩ (a_place l g a V ws hAW t_3 r62_4 (1 : Int32) _ h) (cwV 3 hts gL_places_X4_place rfl rfl rfl hdX4_place ⟨(Nat.le_of_ble_eq_true rfl), (Nat.le_of_ble_eq_true rfl)⟩) (preV_R (r := (RX4, TX4, 9)) hK hP (ci := 4) (q0 := 0) rfl heA) rfl rfl hl.1 rfl (lv_room (Nat.le_of_ble_eq_true rfl)) dL_places_140 ⟨(Nat.le_of_ble_eq_true rfl), (Nat.le_of_ble_eq_true rfl)⟩) (fun r140_18 h => ?_)
          clear heA fs9
          refine lv_istore (lv' := [(6, .int r140_18), (5, .int v5_5), (4, .int r62_4), (3, .int t_3), (2, .int v2_1), (0, .ref (a.1 0)), (1, .int a_2)]) hx hb dL_places_143 hl (by decide) rfl (fun ls hl => ?_)
          refine lv_aload_n hx hb dL_places_145 rfl (lv_at hl 5 rfl) ?_
          refine lv_iload_n hx hb dL_places_146 rfl (lv_at hl 3 rfl) ?_
          refine lv_iload hx hb dL_places_147 (lv_at hl 2 rfl) ?_
          refine lv_iconst (v := (2 : Int32)) hx hb dL_places_149 (by decide) ?_
          obtain ⟨fs9, heA⟩ := hAW.recv
          refine vp_callSi (W.runV (As := [.int t_3, .int r62_4, .int (2 : Int32)]) (rest := []) ⟨hx, hb, hml, hown, hts⟩ (a_place l g a V ws hAW t_3 r62_4 (2 : Int32) _ h) (cwV 3 hts gL_places_X4_place rfl rfl rfl hdX4_place ⟨(Nat.le_of_ble_eq_true rfl), (Nat.le_of_ble_eq_true rfl)⟩) (preV_R (r := (RX4, TX4, 9)) hK hP (ci := 4) (q0 := 0) rfl heA) rfl rfl hl.1 rfl (lv_room (Nat.le_of_ble_eq_true rfl)) dL_places_150 ⟨(Nat.le_of_ble_eq_true rfl), (Nat.le_of_ble_eq_true rfl)⟩) (fun r150_19 h => ?_)
          clear heA fs9
          refine lv_istore (lv' := [(7, .int r150_19), (6, .int r140_18), (5, .int v5_5), (4, .int r62_4), (3, .int t_3), (2, .int v2_1), (0, .ref (a.1 0)), (1, .int a_2)]) hx hb dL_places_153 hl (by decide) rfl (fun ls hl => ?_)
          refine lv_aload_n hx hb dL_places_155 rfl (lv_at hl 6 rfl) ?_
          refine lv_iload_n hx hb dL_places_156 rfl (lv_at hl 4 rfl) ?_
          refine lv_iload hx hb dL_places_157 (lv_at hl 3 rfl) ?_
          refine lv_iconst (v := (0 : Int32)) hx hb dL_places_159 (by decide) ?_
          obtain ⟨fs9, heA⟩ := hAW.recv
          refine vp_callSi (W.runV (As := [.int t_3, .int r62_4, .int (0 : Int32)]) (rest := []) ⟨hx, hb, hml, hown, hts⟩ (a_place l g a V ws hAW t_3 r62_4 (0 : Int32) _ h) (cwV 3 hts gL_places_X4_place rfl rfl rfl hdX4_place ⟨(Nat.le_of_ble_eq_true rfl), (Nat.le_of_ble_eq_true rfl)⟩) (preV_R (r := (RX4, TX4, 9)) hK hP (ci := 4) (q0 := 0) rfl heA) rfl rfl hl.1 rfl (lv_room (Nat.le_of_ble_eq_true rfl)) dL_places_160 ⟨(Nat.le_of_ble_eq_true rfl), (Nat.le_of_ble_eq_true rfl)⟩) (fun r160_20 h => ?_)
          clear heA fs9
          refine lv_iload hx hb dL_places_163 (lv_at hl 2 rfl) ?_
          refine lv_icmp_ne (tgt := 224) hx hb dL_places_165 (by decide) (fun c_165_20 => ?_) (fun c_165_20 => ?_)
          · replace h := h.1 c_165_20
            refine lv_iconst (v := (0 : Int32)) hx hb dL_places_224 (by decide) ?_
            exact W.zret (v := (0 : Int32)) hx hb hr rfl (fun t ht hW => ⟨(0 : Int32), rfl, h, ht⟩) (fun _ h9 => by cases h9) dL_places_225
          · replace h := h.2 c_165_20
            refine lv_iload hx hb dL_places_168 (lv_at hl 1 rfl) ?_
            refine lv_if_lt (tgt := 224) hx hb dL_places_170 (by decide) (fun c_170_21 => ?_) (fun c_170_21 => ?_)
            · replace h := h.1 c_170_21
              refine lv_iconst (v := (0 : Int32)) hx hb dL_places_224 (by decide) ?_
              exact W.zret (v := (0 : Int32)) hx hb hr rfl (fun t ht hW => ⟨(0 : Int32), rfl, h, ht⟩) (fun _ h9 => by cases h9) dL_places_225
            · replace h := h.2 c_170_21
              refine lv_iload hx hb dL_places_173 (lv_at hl 1 rfl) ?_
              refine lv_bipush (v := (7 : Int32)) hx hb dL_places_175 (by decide) ?_
              refine lv_icmp_gt (tgt := 224) hx hb dL_places_177 (by decide) (fun c_177_22 => ?_) (fun c_177_22 => ?_)
              · replace h := h.1 c_177_22
                refine lv_iconst (v := (0 : Int32)) hx hb dL_places_224 (by decide) ?_
                exact W.zret (v := (0 : Int32)) hx hb hr rfl (fun t ht hW => ⟨(0 : Int32), rfl, h, ht⟩) (fun _ h9 => by cases h9) dL_places_225
              · replace h := h.2 c_177_22
                refine lv_iload hx hb dL_places_180 (lv_at hl 0 rfl) ?_
                refine lv_bipush (v := (-109 : Int32)) hx hb dL_places_182 (by decide) ?_
                have tail_5 : ∀ (ls : Array Slot), PL_places_J5 V k (PL_places_L1 V a_2 k kx_1 n_1) v2_1 r140_18 r150_19  → lv_has ls 8 [(7, .int r150_19), (6, .int r140_18), (5, .int v5_5), (4, .int r62_4), (3, .int t_3), (2, .int v2_1), (0, .ref (a.1 0)), (1, .int a_2)] → W p l e (headSpec wsL_places ({ frames := 7, cells := 0, slots := 0, locals := 150 })).room s m ([.ref (a.1 0), .int a_2] : List Value).toArray below meth c s.heap [] 0 0 (MQ below (vp_Si k) ([.ref (a.1 0), .int a_2] : List Value).toArray s 0 0 (fun _ => False)) (F0 m 202 ls []) := by
                  intro  ls h hl
                  unfold PL_places_J5 at h
                  refine lv_iload hx hb dL_places_202 (lv_at hl 1 rfl) ?_
                  refine lv_if_le (tgt := 226) hx hb dL_places_204 (by decide) (fun c_204_23 => ?_) (fun c_204_23 => ?_)
                  · replace h := h.1 c_204_23
                    obtain ⟨v2_25, e_v2_25⟩ : ∃ y : Int32, y = v2_1 + (1 : Int32) := ⟨_, rfl⟩
                    replace h := h v2_25 e_v2_25
                    refine lv_iinc (v := v2_25) (lv' := [(2, .int v2_25), (7, .int r150_19), (6, .int r140_18), (5, .int v5_5), (4, .int r62_4), (3, .int t_3), (0, .ref (a.1 0)), (1, .int a_2)]) hx hb dL_places_226 hl (k := 5) rfl (by rw [e_v2_25]; rfl) (by decide) rfl (fun ls hl => ?_)
                    refine lv_goto (tgt := 2) hx hb dL_places_229 (by decide) ?_
                    exact ih_1 v2_25 ls h (lv_sub hl [0, 6, 7] rfl)
                  · replace h := h.2 c_204_23
                    refine lv_iload hx hb dL_places_207 (lv_at hl 0 rfl) ?_
                    refine lv_bipush (v := (-109 : Int32)) hx hb dL_places_209 (by decide) ?_
                    refine lv_icmp_eq (tgt := 224) hx hb dL_places_211 (by decide) (fun c_211_25 => ?_) (fun c_211_25 => ?_)
                    · replace h := h.1 c_211_25
                      refine lv_iconst (v := (0 : Int32)) hx hb dL_places_224 (by decide) ?_
                      exact W.zret (v := (0 : Int32)) hx hb hr rfl (fun t ht hW => ⟨(0 : Int32), rfl, h, ht⟩) (fun _ h9 => by cases h9) dL_places_225
                    · replace h := h.2 c_211_25
                      refine lv_iload hx hb dL_places_214 (lv_at hl 0 rfl) ?_
                      refine lv_aload_n hx hb dL_places_216 rfl (lv_at hl 6 rfl) ?_
                      refine lv_iconst (v := (3 : Int32)) hx hb dL_places_217 (by decide) ?_
                      obtain ⟨fs9, heA⟩ := hAW.recv
                      refine vp_callSi (W.runV (As := [.int (3 : Int32)]) (rest := [.int r150_19]) ⟨hx, hb, hml, hown, hts⟩ (a_setting l g a V ws hAW (3 : Int32) _ h) (cwV 1 hts gL_places_X4_setting rfl rfl rfl hdX4_setting ⟨(Nat.le_of_ble_eq_true rfl), (Nat.le_of_ble_eq_true rfl)⟩) (preV_R (r := (RX4, TX4, 9)) hK hP (ci := 4) (q0 := 0) rfl heA) rfl rfl hl.1 rfl (lv_room (Nat.le_of_ble_eq_true rfl)) dL_places_218 ⟨(Nat.le_of_ble_eq_true rfl), (Nat.le_of_ble_eq_true rfl)⟩) (fun r218_27 h => ?_)
                      clear heA fs9
                      refine lv_icmp_lt (tgt := 226) hx hb dL_places_221 (by decide) (fun c_221_27 => ?_) (fun c_221_27 => ?_)
                      · replace h := h.1 c_221_27
                        obtain ⟨v2_29, e_v2_29⟩ : ∃ y : Int32, y = v2_1 + (1 : Int32) := ⟨_, rfl⟩
                        replace h := h v2_29 e_v2_29
                        refine lv_iinc (v := v2_29) (lv' := [(2, .int v2_29), (7, .int r150_19), (6, .int r140_18), (5, .int v5_5), (4, .int r62_4), (3, .int t_3), (0, .ref (a.1 0)), (1, .int a_2)]) hx hb dL_places_226 hl (k := 5) rfl (by rw [e_v2_29]; rfl) (by decide) rfl (fun ls hl => ?_)
                        refine lv_goto (tgt := 2) hx hb dL_places_229 (by decide) ?_
                        exact ih_1 v2_29 ls h (lv_sub hl [0, 6, 7] rfl)
                      · replace h := h.2 c_221_27
                        refine lv_iconst (v := (0 : Int32)) hx hb dL_places_224 (by decide) ?_
                        exact W.zret (v := (0 : Int32)) hx hb hr rfl (fun t ht hW => ⟨(0 : Int32), rfl, h, ht⟩) (fun _ h9 => by cases h9) dL_places_225
                refine lv_icmp_eq (tgt := 202) hx hb dL_places_184 (by decide) (fun c_184_29 => ?_) (fun c_184_29 => ?_)
                · replace h := h.1 c_184_29
                  exact tail_5  ls h (lv_sub hl [0, 1, 2, 3, 4, 5, 6, 7] rfl)
                · replace h := h.2 c_184_29
                  refine lv_iload hx hb dL_places_187 (lv_at hl 0 rfl) ?_
                  refine lv_if_lt (tgt := 224) hx hb dL_places_189 (by decide) (fun c_189_30 => ?_) (fun c_189_30 => ?_)
                  · replace h := h.1 c_189_30
                    refine lv_iconst (v := (0 : Int32)) hx hb dL_places_224 (by decide) ?_
                    exact W.zret (v := (0 : Int32)) hx hb hr rfl (fun t ht hW => ⟨(0 : Int32), rfl, h, ht⟩) (fun _ h9 => by cases h9) dL_places_225
                  · replace h := h.2 c_189_30
                    refine lv_iload hx hb dL_places_192 (lv_at hl 0 rfl) ?_
                    refine lv_aload_n hx hb dL_places_194 rfl (lv_at hl 6 rfl) ?_
                    refine lv_iconst (v := (3 : Int32)) hx hb dL_places_195 (by decide) ?_
                    obtain ⟨fs9, heA⟩ := hAW.recv
                    refine vp_callSi (W.runV (As := [.int (3 : Int32)]) (rest := [.int r150_19]) ⟨hx, hb, hml, hown, hts⟩ (a_count l g a V ws hAW (3 : Int32) _ h) (cwV 1 hts gL_places_X4_count rfl rfl rfl hdX4_count ⟨(Nat.le_of_ble_eq_true rfl), (Nat.le_of_ble_eq_true rfl)⟩) (preV_R (r := (RX4, TX4, 9)) hK hP (ci := 4) (q0 := 0) rfl heA) rfl rfl hl.1 rfl (lv_room (Nat.le_of_ble_eq_true rfl)) dL_places_196 ⟨(Nat.le_of_ble_eq_true rfl), (Nat.le_of_ble_eq_true rfl)⟩) (fun r196_32 h => ?_)
                    clear heA fs9
                    refine lv_icmp_ge (tgt := 224) hx hb dL_places_199 (by decide) (fun c_199_32 => ?_) (fun c_199_32 => ?_)
                    · replace h := h.1 c_199_32
                      refine lv_iconst (v := (0 : Int32)) hx hb dL_places_224 (by decide) ?_
                      exact W.zret (v := (0 : Int32)) hx hb hr rfl (fun t ht hW => ⟨(0 : Int32), rfl, h, ht⟩) (fun _ h9 => by cases h9) dL_places_225
                    · replace h := h.2 c_199_32
                      exact tail_5  ls h (lv_sub hl [0, 1, 2, 3, 4, 5, 6, 7] rfl)
        refine lv_icmp_ge (tgt := 26) hx hb dL_places_11 (by decide) (fun c_11_33 => ?_) (fun c_11_33 => ?_)
        · replace h := h.1 c_11_33
          refine lv_aload_n hx hb dL_places_26 rfl (lv_at hl 1 rfl) ?_
          refine lv_iconst (v := (1 : Int32)) hx hb dL_places_27 (by decide) ?_
          obtain ⟨fs9, heA⟩ := hAW.recv
          refine vp_callSi (W.runV (As := [.int (1 : Int32)]) (rest := []) ⟨hx, hb, hml, hown, hts⟩ (a_count l g a V ws hAW (1 : Int32) _ h) (cwV 1 hts gL_places_X4_count rfl rfl rfl hdX4_count ⟨(Nat.le_of_ble_eq_true rfl), (Nat.le_of_ble_eq_true rfl)⟩) (preV_R (r := (RX4, TX4, 9)) hK hP (ci := 4) (q0 := 0) rfl heA) rfl rfl hl.1 rfl (lv_room (Nat.le_of_ble_eq_true rfl)) dL_places_28 ⟨(Nat.le_of_ble_eq_true rfl), (Nat.le_of_ble_eq_true rfl)⟩) (fun r28_35 h => ?_)
          clear heA fs9
          refine lv_iload_n hx hb dL_places_31 rfl (lv_at hl 2 rfl) ?_
          refine lv_iload_n hx hb dL_places_32 rfl (lv_at hl 0 rfl) ?_
          refine lv_bipush (v := (9 : Int32)) hx hb dL_places_33 (by decide) ?_
          refine lv_isub hx hb dL_places_35 ?_
          refine lv_ishr hx hb dL_places_36 ?_
          refine lv_bipush (v := (61 : Int32)) hx hb dL_places_37 (by decide) ?_
          refine vp_callSi (W.runS (As := [.int (a_2 >>> ((v2_1 - (9 : Int32)) &&& 31)), .int (61 : Int32)]) (rest := [.int r28_35]) ⟨hx, hb, hml, hown, hts⟩ (kL_low l g  (a_2 >>> ((v2_1 - (9 : Int32)) &&& 31)) (61 : Int32) _ h) (va_cwS 2 hts gL_places_L_low rfl rfl rfl hdL_low.2 ⟨(Nat.le_of_ble_eq_true rfl), (Nat.le_of_ble_eq_true rfl)⟩) (preS_R hK (va_P_nil (D := g.1) (cl := vwCl))) rfl rfl hl.1 rfl (lv_room (Nat.le_of_ble_eq_true rfl)) dL_places_39 ⟨(Nat.le_of_ble_eq_true rfl), (Nat.le_of_ble_eq_true rfl)⟩) (fun r39_36 h => ?_)
          refine lv_iadd hx hb dL_places_42 ?_
          refine lv_bipush (v := (30 : Int32)) hx hb dL_places_43 (by decide) ?_
          refine lv_isub hx hb dL_places_45 ?_
          refine lv_sipush (v := (720 : Int32)) hx hb dL_places_46 (by decide) ?_
          refine lv_iadd hx hb dL_places_49 ?_
          refine lv_sipush (v := (720 : Int32)) hx hb dL_places_50 (by decide) ?_
          refine lv_irem hx hb dL_places_53 (by decide) ?_
          exact tail_2 ((((r28_35 + r39_36) - (30 : Int32)) + (720 : Int32)) - (((r28_35 + r39_36) - (30 : Int32)) + (720 : Int32)) / (720 : Int32) * (720 : Int32)) ls h (lv_sub hl [0, 1, 2] rfl)
        · replace h := h.2 c_11_33
          refine lv_iload_n hx hb dL_places_14 rfl (lv_at hl 2 rfl) ?_
          refine lv_iload_n hx hb dL_places_15 rfl (lv_at hl 0 rfl) ?_
          refine lv_ishr hx hb dL_places_16 ?_
          refine lv_sipush (v := (720 : Int32)) hx hb dL_places_17 (by decide) ?_
          refine vp_callSi (W.runS (As := [.int (a_2 >>> (v2_1 &&& 31)), .int (720 : Int32)]) (rest := []) ⟨hx, hb, hml, hown, hts⟩ (kL_low l g  (a_2 >>> (v2_1 &&& 31)) (720 : Int32) _ h) (va_cwS 2 hts gL_places_L_low rfl rfl rfl hdL_low.2 ⟨(Nat.le_of_ble_eq_true rfl), (Nat.le_of_ble_eq_true rfl)⟩) (preS_R hK (va_P_nil (D := g.1) (cl := vwCl))) rfl rfl hl.1 rfl (lv_room (Nat.le_of_ble_eq_true rfl)) dL_places_20 ⟨(Nat.le_of_ble_eq_true rfl), (Nat.le_of_ble_eq_true rfl)⟩) (fun r20_37 h => ?_)
          refine lv_goto (tgt := 54) hx hb dL_places_23 (by decide) ?_
          exact tail_2 r20_37 ls h (lv_sub hl [0, 1, 2] rfl)
  obtain ⟨n_1, h⟩ := h
  refine loop_1 _ ?_ n_1 (0 : Int32) ls h (lv_sub hl [0, 1, 2] rfl)
  intro v2_1 ls h hl
  refine lv_iconst (v := (1 : Int32)) hx hb dL_places_232 (by decide) ?_
  exact W.zret (v := (1 : Int32)) hx hb hr rfl (fun t ht hW => ⟨(1 : Int32), rfl, h, ht⟩) (fun _ h9 => by cases h9) dL_places_233
