def PX5_setSecondArm (b_m : Nat → Int32) (b_written : Nat → Int32) (b_states : Nat → Int32) (b_fifth : Nat → Int32) (b_oldest : Int32) (b_stateCount : Int32) (a_1 : Int32) (k : Int32 → (Nat → Int32) → (Nat → Int32) → (Nat → Int32) → Int32 → Int32 → Prop) : Prop := PX5_in a_1 (0 : Int32) (1 : Int32) (fun r3_1 => ((r3_1 = 0 → (k (-101 : Int32) b_m b_states b_fifth b_oldest b_stateCount)) ∧ (¬ r3_1 = 0 → PX5_put b_m b_written b_states b_fifth b_oldest b_stateCount (8 : Int32) a_1 (fun r13_8 b_m_3 b_states_4 b_fifth_5 b_oldest_6 b_stateCount_7 => (k r13_8 b_m_3 b_states_4 b_fifth_5 b_oldest_6 b_stateCount_7)))))
def PX5_setBroken (b_m : Nat → Int32) (b_written : Nat → Int32) (b_states : Nat → Int32) (b_fifth : Nat → Int32) (b_oldest : Int32) (b_stateCount : Int32) (a_1 : Int32) (a_2 : Int32) (a_3 : Int32) (k : Int32 → (Nat → Int32) → (Nat → Int32) → (Nat → Int32) → Int32 → Int32 → Prop) : Prop := PX5_in a_1 (0 : Int32) (1 : Int32) (fun r3_1 => ((r3_1 = 0 → (k (-101 : Int32) b_m b_states b_fifth b_oldest b_stateCount)) ∧ (¬ r3_1 = 0 → PX5_isLight a_2 (fun r10_3 => ((r10_3 = 0 → (k (-101 : Int32) b_m b_states b_fifth b_oldest b_stateCount)) ∧ (¬ r10_3 = 0 → PX5_in a_3 (0 : Int32) (1 : Int32) (fun r19_5 => ((¬ r19_5 = 0 → PX5_record b_m b_written b_states b_fifth b_oldest b_stateCount  (fun b_states_7 b_fifth_8 b_oldest_9 b_stateCount_10 => PX5_isBroken b_m a_1 a_2 (fun r35_11 => ((r35_11 = 0 → (vp_in ((9 : Int32) + a_1) 348 ∧ (vp_in ((9 : Int32) + a_1) 348 ∧ (∀ b_m_15 : Nat → Int32, b_m_15 = upd b_m (Int32.toNatClampNeg ((9 : Int32) + a_1)) (((b_m (Int32.toNatClampNeg ((9 : Int32) + a_1))) &&& (((1 : Int32) <<< (a_2 &&& 31)) ^^^ (-1 : Int32))) ||| (a_3 <<< (a_2 &&& 31))) → (k (0 : Int32) b_m_15 b_states_7 b_fifth_8 b_oldest_9 b_stateCount_10))))) ∧ (¬ r35_11 = 0 → (vp_in ((9 : Int32) + a_1) 348 ∧ (vp_in ((9 : Int32) + a_1) 348 ∧ (∀ b_m_18 : Nat → Int32, b_m_18 = upd b_m (Int32.toNatClampNeg ((9 : Int32) + a_1)) (((b_m (Int32.toNatClampNeg ((9 : Int32) + a_1))) &&& (((1 : Int32) <<< (a_2 &&& 31)) ^^^ (-1 : Int32))) ||| (a_3 <<< (a_2 &&& 31))) → (k (1 : Int32) b_m_18 b_states_7 b_fifth_8 b_oldest_9 b_stateCount_10))))))))) ∧ (r19_5 = 0 → (k (-101 : Int32) b_m b_states b_fifth b_oldest b_stateCount))))))))))
def PX5_set (b_m : Nat → Int32) (b_written : Nat → Int32) (b_states : Nat → Int32) (b_fifth : Nat → Int32) (b_oldest : Int32) (b_stateCount : Int32) (a_1 : Int32) (a_2 : Int32) (k : Int32 → (Nat → Int32) → (Nat → Int32) → (Nat → Int32) → Int32 → Int32 → Prop) : Prop := PX5_isSetting a_1 a_2 (fun r2_1 => ((r2_1 = 0 → (k (-101 : Int32) b_m b_states b_fifth b_oldest b_stateCount)) ∧ (¬ r2_1 = 0 → PX5_put b_m b_written b_states b_fifth b_oldest b_stateCount a_1 a_2 (fun r11_8 b_m_3 b_states_4 b_fifth_5 b_oldest_6 b_stateCount_7 => (k r11_8 b_m_3 b_states_4 b_fifth_5 b_oldest_6 b_stateCount_7)))))
def PX5_layWants_L1 (b_m : Nat → Int32) (kx_1 : Int32 → (Nat → Int32) → Prop) : Nat → Int32 → (Nat → Int32) → Prop
  | 0, _, _ => False
  | n_1 + 1, v1_1, b_wants_2 => (((8640 : Int32) ≤ v1_1 → kx_1 v1_1 b_wants_2) ∧ (¬ (8640 : Int32) ≤ v1_1 → PX5_wanted b_m (v1_1 / (12 : Int32)) (v1_1 - v1_1 / (12 : Int32) * (12 : Int32)) (fun r23_4 => (vp_in v1_1 8640 ∧ (∀ b_wants_6 : Nat → Int32, b_wants_6 = upd b_wants_2 (Int32.toNatClampNeg v1_1) r23_4 → (∀ v1_7 : Int32, v1_7 = v1_1 + (1 : Int32) → PX5_layWants_L1 b_m kx_1 n_1 v1_7 b_wants_6))))))
def PX5_layWants (b_m : Nat → Int32) (b_wants : Nat → Int32)  (k : (Nat → Int32) → Prop) : Prop := (∃ n_1, PX5_layWants_L1 b_m (fun v1_1 b_wants_2 => (k b_wants_2)) n_1 (0 : Int32) b_wants)
def PX5_newSpeed (b_m : Nat → Int32)  (k : (Nat → Int32) → Prop) : Prop := (((b_m 7) ≤ (b_m 2) → (∀ v1_2 : Int32, v1_2 = (b_m 1) → (∀ v2_3 : Int32, v2_3 = ((b_m 0) - (b_m 5)) → ((v2_3 ≤ v1_2 → (((-v1_2) ≤ v2_3 → (∀ b_m_6 : Nat → Int32, b_m_6 = upd b_m 5 ((b_m 5) + v2_3) → (k b_m_6))) ∧ (¬ (-v1_2) ≤ v2_3 → (∀ b_m_7 : Nat → Int32, b_m_7 = upd b_m 5 ((b_m 5) + (-v1_2)) → (k b_m_7))))) ∧ (¬ v2_3 ≤ v1_2 → (∀ b_m_8 : Nat → Int32, b_m_8 = upd b_m 5 ((b_m 5) + v1_2) → (k b_m_8))))))) ∧ (¬ (b_m 7) ≤ (b_m 2) → (∀ v1_9 : Int32, v1_9 = ((b_m 1) / (2 : Int32)) → (∀ v2_10 : Int32, v2_10 = ((b_m 0) - (b_m 5)) → ((v2_10 ≤ v1_9 → (((-v1_9) ≤ v2_10 → (∀ b_m_13 : Nat → Int32, b_m_13 = upd b_m 5 ((b_m 5) + v2_10) → (k b_m_13))) ∧ (¬ (-v1_9) ≤ v2_10 → (∀ b_m_14 : Nat → Int32, b_m_14 = upd b_m 5 ((b_m 5) + (-v1_9)) → (k b_m_14))))) ∧ (¬ v2_10 ≤ v1_9 → (∀ b_m_15 : Nat → Int32, b_m_15 = upd b_m 5 ((b_m 5) + v1_9) → (k b_m_15))))))))
def PX5_writes_L1 (b_m : Nat → Int32) (b_wants : Nat → Int32) (a_1 : Int32) (a_2 : Int32) (kx_1 : Int32 → Int32 → (Nat → Int32) → Prop) : Nat → Int32 → Int32 → (Nat → Int32) → Prop
  | 0, _, _, _ => False
  | n_1 + 1, v3_1, v4_2, b_written_3 => (((12 : Int32) ≤ v4_2 → kx_1 v3_1 v4_2 b_written_3) ∧ (¬ (12 : Int32) ≤ v4_2 → PX5_isBroken b_m a_1 v4_2 (fun r16_5 => ((¬ r16_5 = 0 → (∀ v4_7 : Int32, v4_7 = v4_2 + (1 : Int32) → PX5_writes_L1 b_m b_wants a_1 a_2 kx_1 n_1 v3_1 v4_7 b_written_3)) ∧ (r16_5 = 0 → (vp_in (((12 : Int32) * a_2) + v4_2) 8640 ∧ (∀ v5_9 : Int32, v5_9 = (b_wants (Int32.toNatClampNeg (((12 : Int32) * a_2) + v4_2))) → (vp_in (((12 : Int32) * a_2) + v4_2) 8640 ∧ (∀ b_written_11 : Nat → Int32, b_written_11 = upd b_written_3 (Int32.toNatClampNeg (((12 : Int32) * a_2) + v4_2)) (((8 : Int32) * (b_m 6)) + v5_9) → ((¬ v5_9 = 0 → (∀ v3_13 : Int32, v3_13 = (v3_1 + (1 : Int32)) → (∀ v4_14 : Int32, v4_14 = v4_2 + (1 : Int32) → PX5_writes_L1 b_m b_wants a_1 a_2 kx_1 n_1 v3_13 v4_14 b_written_11))) ∧ (v5_9 = 0 → (∀ v3_15 : Int32, v3_15 = (v3_1 + (0 : Int32)) → (∀ v4_16 : Int32, v4_16 = v4_2 + (1 : Int32) → PX5_writes_L1 b_m b_wants a_1 a_2 kx_1 n_1 v3_15 v4_16 b_written_11)))))))))))))
def PX5_writes (b_m : Nat → Int32) (b_written : Nat → Int32) (b_wants : Nat → Int32) (a_1 : Int32) (a_2 : Int32) (k : Int32 → (Nat → Int32) → Prop) : Prop := (∃ n_1, PX5_writes_L1 b_m b_wants a_1 a_2 (fun v3_1 v4_2 b_written_3 => (k v3_1 b_written_3)) n_1 (0 : Int32) (0 : Int32) b_written)
def PX5_tick_L2 (b_wants : Nat → Int32) (t_4 : Int32) (kx_2 : Int32 → (Nat → Int32) → (Nat → Int32) → Prop) : Nat → Int32 → (Nat → Int32) → (Nat → Int32) → Prop
  | 0, _, _, _ => False
  | n_2 + 1, v2_6, b_m_7, b_written_8 => ((v2_6 ≤ 0 → kx_2 v2_6 b_m_7 b_written_8) ∧ (¬ v2_6 ≤ 0 → PX5_around ((b_m_7 4) + t_4) (fun r65_10 => (∀ b_m_11 : Nat → Int32, b_m_11 = upd b_m_7 4 r65_10 → PX5_writes b_m_11 b_written_8 b_wants (0 : Int32) (b_m_11 4) (fun r85_13 b_written_12 => (∀ b_m_14 : Nat → Int32, b_m_14 = upd b_m_11 7 ((b_m_11 7) + r85_13) → ((¬ (b_m_14 8) = 0 → PX5_writes b_m_14 b_written_12 b_wants (1 : Int32) (((b_m_14 4) + (360 : Int32)) - ((b_m_14 4) + (360 : Int32)) / (720 : Int32) * (720 : Int32)) (fun r128_17 b_written_16 => (∀ b_m_18 : Nat → Int32, b_m_18 = upd b_m_14 7 ((b_m_14 7) + r128_17) → (∀ v2_19 : Int32, v2_19 = v2_6 + (-1 : Int32) → PX5_tick_L2 b_wants t_4 kx_2 n_2 v2_19 b_m_18 b_written_16)))) ∧ ((b_m_14 8) = 0 → (∀ b_m_20 : Nat → Int32, b_m_20 = upd b_m_14 7 ((b_m_14 7) + (0 : Int32)) → (∀ v2_21 : Int32, v2_21 = v2_6 + (-1 : Int32) → PX5_tick_L2 b_wants t_4 kx_2 n_2 v2_21 b_m_20 b_written_12))))))))))
def PX5_tick_J1 (b_written : Nat → Int32) (b_wants : Nat → Int32) (k : (Nat → Int32) → (Nat → Int32) → Prop) (b_m_3 : Nat → Int32) (t_4 : Int32) : Prop := PX5_size (b_m_3 5) (fun r44_5 => (∃ n_2, PX5_tick_L2 b_wants t_4 (fun v2_6 b_m_7 b_written_8 => (k b_m_7 b_written_8)) n_2 r44_5 b_m_3 b_written))
def PX5_tick (b_m : Nat → Int32) (b_written : Nat → Int32) (b_wants : Nat → Int32)  (k : (Nat → Int32) → (Nat → Int32) → Prop) : Prop := PX5_newSpeed b_m  (fun b_m_1 => (∀ b_m_2 : Nat → Int32, b_m_2 = upd b_m_1 6 ((b_m_1 6) + (1 : Int32)) → (∀ b_m_3 : Nat → Int32, b_m_3 = upd b_m_2 7 (0 : Int32) → ((0 ≤ (b_m_3 5) → PX5_tick_J1 b_written b_wants k b_m_3 (1 : Int32)) ∧ (¬ 0 ≤ (b_m_3 5) → PX5_tick_J1 b_written b_wants k b_m_3 (-1 : Int32))))))
def PX5_goOn_L1 (b_wants : Nat → Int32) (a_1 : Int32) (kx_1 : Int32 → (Nat → Int32) → (Nat → Int32) → Prop) : Nat → Int32 → (Nat → Int32) → (Nat → Int32) → Prop
  | 0, _, _, _ => False
  | n_1 + 1, v2_1, b_m_2, b_written_3 => ((a_1 ≤ v2_1 → kx_1 v2_1 b_m_2 b_written_3) ∧ (¬ a_1 ≤ v2_1 → PX5_tick b_m_2 b_written_3 b_wants  (fun b_m_5 b_written_6 => (∀ v2_7 : Int32, v2_7 = v2_1 + (1 : Int32) → PX5_goOn_L1 b_wants a_1 kx_1 n_1 v2_7 b_m_5 b_written_6))))
def PX5_goOn (b_m : Nat → Int32) (b_written : Nat → Int32) (b_wants : Nat → Int32) (a_1 : Int32) (k : (Nat → Int32) → (Nat → Int32) → Prop) : Prop := (∃ n_1, PX5_goOn_L1 b_wants a_1 (fun v2_1 b_m_2 b_written_3 => (k b_m_2 b_written_3)) n_1 (0 : Int32) b_m b_written)
def PX5_run (b_m : Nat → Int32) (b_written : Nat → Int32) (b_states : Nat → Int32) (b_fifth : Nat → Int32) (b_oldest : Int32) (b_stateCount : Int32) (b_wants : Nat → Int32) (a_1 : Int32) (k : Int32 → (Nat → Int32) → (Nat → Int32) → (Nat → Int32) → (Nat → Int32) → Int32 → Int32 → (Nat → Int32) → Prop) : Prop := PX5_in a_1 (1 : Int32) (100 : Int32) (fun r4_1 => ((¬ r4_1 = 0 → ((((b_m 6) + a_1) ≤ (5000 : Int32) → PX5_record b_m b_written b_states b_fifth b_oldest b_stateCount  (fun b_states_4 b_fifth_5 b_oldest_6 b_stateCount_7 => PX5_layWants b_m b_wants  (fun b_wants_8 => PX5_goOn b_m b_written b_wants_8 a_1 (fun b_m_9 b_written_10 => (k (b_m_9 7) b_m_9 b_written_10 b_states_4 b_fifth_5 b_oldest_6 b_stateCount_7 b_wants_8))))) ∧ (¬ ((b_m 6) + a_1) ≤ (5000 : Int32) → (k (-103 : Int32) b_m b_written b_states b_fifth b_oldest b_stateCount b_wants)))) ∧ (r4_1 = 0 → (k (-101 : Int32) b_m b_written b_states b_fifth b_oldest b_stateCount b_wants))))
def PX5_wrongPlaces (b_m : Nat → Int32) (b_written : Nat → Int32) (b_wants : Nat → Int32)  (k : Int32 → (Nat → Int32) → Prop) : Prop := PX5_layWants b_m b_wants  (fun b_wants_1 => PX5_litPlaces b_m b_written b_wants_1 (1 : Int32) (fun r9_2 => (k ((8640 : Int32) - r9_2) b_wants_1)))
def PX5_count (b_m : Nat → Int32) (b_written : Nat → Int32) (b_stateCount : Int32) (b_textLength : Int32) (b_wants : Nat → Int32) (a_1 : Int32) (k : Int32 → (Nat → Int32) → Prop) : Prop := (((a_1.toInt < 0 ∨ 9 < a_1.toInt) → (k (-101 : Int32) b_wants)) ∧ (a_1 = (0 : Int32) → (k (b_m 11) b_wants)) ∧ (a_1 = (1 : Int32) → (k (b_m 4) b_wants)) ∧ (a_1 = (2 : Int32) → (k (b_m 5) b_wants)) ∧ (a_1 = (3 : Int32) → (k (b_m 6) b_wants)) ∧ (a_1 = (4 : Int32) → (k (b_m 7) b_wants)) ∧ (a_1 = (5 : Int32) → PX5_litPlaces b_m b_written b_wants (0 : Int32) (fun r96_2 => (k r96_2 b_wants))) ∧ (a_1 = (6 : Int32) → PX5_wrongPlaces b_m b_written b_wants  (fun r101_4 b_wants_3 => (k r101_4 b_wants_3))) ∧ (a_1 = (7 : Int32) → (k (b_m 8) b_wants)) ∧ (a_1 = (8 : Int32) → (k b_stateCount b_wants)) ∧ (a_1 = (9 : Int32) → (k b_textLength b_wants)))
theorem hdX5_setSecondArm : yX5_setSecondArm.cls = RX5 ∧ yX5_setSecondArm.cls ≠ "java/lang/invoke/MethodHandle" ∧ yX5_setSecondArm.cls ≠ "java/lang/invoke/VarHandle" ∧ (parseMethodDescriptor yX5_setSecondArm.desc).map (fun d => d.parameters.length) = some 1 := by decide +kernel
set_option maxHeartbeats 4000000 in
set_option maxRecDepth 100000 in
theorem kX5_setSecondArm (l : Launch) (g : GG) (q : Nat → Nat) (sz : Nat) (b_m : Nat → Int32) (b_written : Nat → Int32) (b_spare : Nat → Int32) (b_spareWritten : Nat → Int32) (b_states : Nat → Int32) (b_fifth : Nat → Int32) (b_oldest : Int32) (b_stateCount : Int32) (b_text : Nat → Int32) (b_textLength : Int32) (b_at : Int32) (b_read : Nat → Int32) (b_columns : Int32) (b_told : Int32) (b_wants : Nat → Int32) (b_comes : Nat → Int32) (a_1 : Int32) (k : Int32 → (Nat → Int32) → (Nat → Int32) → (Nat → Int32) → Int32 → Int32 → Prop) (h : PX5_setSecondArm b_m b_written b_states b_fifth b_oldest b_stateCount a_1 k) : Met l yX5_setSecondArm wsX5_setSecondArm ({ frames := 3, cells := 0, slots := 0, locals := 68 }) (PreM g [.ref (q 0), .int a_1] (wM g q b_m b_written b_spare b_spareWritten b_states b_fifth b_oldest b_stateCount b_text b_textLength b_at b_read b_columns b_told b_wants b_comes) sz) (va_Qi (fun (r : Int32) (u : (Nat → Int32) × (Nat → Int32) × (Nat → Int32) × Int32 × Int32) => k r u.1 u.2.1 u.2.2.1 u.2.2.2.1 u.2.2.2.2) (fun u t => PostB g (va_A (wM g q b_m b_written b_spare b_spareWritten b_states b_fifth b_oldest b_stateCount b_text b_textLength b_at b_read b_columns b_told b_wants b_comes) sz) (wM g q u.1 b_written b_spare b_spareWritten u.2.1 u.2.2.1 u.2.2.2.1 u.2.2.2.2 b_text b_textLength b_at b_read b_columns b_told b_wants b_comes) t) (va_A (wM g q b_m b_written b_spare b_spareWritten b_states b_fifth b_oldest b_stateCount b_text b_textLength b_at b_read b_columns b_told b_wants b_comes) sz)) 0 0 (va_A (wM g q b_m b_written b_spare b_spareWritten b_states b_fifth b_oldest b_stateCount b_text b_textLength b_at b_read b_columns b_told b_wants b_comes) sz) := by
  refine Met.ofW (cc := cX5_setSecondArm) (maxL := 2) (ret := (some .int)) (by decide) rfl ?_
  intro p e s m args below meth c s₁ B hml hv
  obtain ⟨rfl, hsz, hP, hK, hD0⟩ := hv
  have hx := B.exec
  have hb := B.bytes
  have hr := B.returns
  have hts := atoms_spec (ws := wsX5_setSecondArm) B.pre
  have hown : s.vm.findClass RX5 = some m.cls := findClass_of_methodNamed B.named
  have hlocks := B.notSynchronized
  subst hsz
  have hD := hD0.self (sz := s.heap.size)
  generalize hAe : va_A (wM g q b_m b_written b_spare b_spareWritten b_states b_fifth b_oldest b_stateCount b_text b_textLength b_at b_read b_columns b_told b_wants b_comes) s.heap.size = A at hD ⊢
  have hA : ∀ q : Nat, s.heap.size ≤ q → A q := fun q h => by rw [← hAe]; exact Or.inr h
  clear hAe hD0
  have hS : va_S A s.heap s.heap [] := va_S.rf
  have hl := lv_entry ([.ref (q 0), .int a_1]) (n := 2) (Nat.le_of_ble_eq_true rfl)
  rw [lg_entry_eq]
  generalize (lg_sl ([.ref (q 0), .int a_1]) ++ List.replicate (2 - (lg_sl ([.ref (q 0), .int a_1])).length) Slot.unset).toArray = ls at hl ⊢
  have hl : lv_has ls 2 [(0, .ref (q 0)), (1, .int a_1)] := hl
  unfold PX5_setSecondArm at h
  obtain ⟨H, hHe⟩ : ∃ y, y = s.heap := ⟨_, rfl⟩
  rw [← hHe] at hP
  have hS : va_S A s.heap H [] := by rw [hHe]; exact hS
  have hW0 : ∀ (Q : State → Prop), W p l e (headSpec wsX5_setSecondArm ({ frames := 3, cells := 0, slots := 0, locals := 68 })).room s m ([.ref (q 0), .int a_1] : List Value).toArray below meth c H [] 0 0 Q (F0 m 0 ls []) → W p l e (headSpec wsX5_setSecondArm ({ frames := 3, cells := 0, slots := 0, locals := 68 })).room s m ([.ref (q 0), .int a_1] : List Value).toArray below meth c s.heap [] 0 0 Q (F0 m 0 ls []) := by rw [hHe]; exact fun _ h9 => h9
  refine hW0 _ ?_
  clear hW0 hHe
  generalize ([] : List Loc) = locs at hS ⊢
  refine lv_iload_n hx hb dX5_setSecondArm_0 rfl (lv_at hl 1 rfl) ?_
  refine lv_iconst (v := (0 : Int32)) hx hb dX5_setSecondArm_1 (by decide) ?_
  refine lv_iconst (v := (1 : Int32)) hx hb dX5_setSecondArm_2 (by decide) ?_
  refine vp_callSi (W.runS (As := [.int a_1, .int (0 : Int32), .int (1 : Int32)]) (rest := []) ⟨hx, hb, hml, hown, hts⟩ (kX5_in l g  a_1 (0 : Int32) (1 : Int32) _ h) (va_cwS 3 hts gX5_setSecondArm_X5_in rfl rfl rfl hdX5_in.2 ⟨(Nat.le_of_ble_eq_true rfl), (Nat.le_of_ble_eq_true rfl)⟩) (preS_R hK (va_P_nil (D := g.1) (cl := vwCl))) rfl rfl hl.1 rfl (lv_room (Nat.le_of_ble_eq_true rfl)) dX5_setSecondArm_3 ⟨(Nat.le_of_ble_eq_true rfl), (Nat.le_of_ble_eq_true rfl)⟩) (fun r3_1 h => ?_)
  refine lv_if_eq (tgt := 19) hx hb dX5_setSecondArm_6 (by decide) (fun c_6_1 => ?_) (fun c_6_1 => ?_)
  · replace h := h.1 c_6_1
    refine lv_bipush (v := (-101 : Int32)) hx hb dX5_setSecondArm_19 (by decide) ?_
    exact W.iret hx hb hr (fun t ht hW => ⟨⟨(-101 : Int32), (b_m, b_states, b_fifth, b_oldest, b_stateCount), rfl, h, by rw [ht]; exact hP, hD⟩, hS.F ht⟩) hS.2.2 dX5_setSecondArm_21
  · replace h := h.2 c_6_1
    refine lv_aload_n hx hb dX5_setSecondArm_9 rfl (lv_at hl 0 rfl) ?_
    refine lv_bipush (v := (8 : Int32)) hx hb dX5_setSecondArm_10 (by decide) ?_
    refine lv_iload_n hx hb dX5_setSecondArm_12 rfl (lv_at hl 1 rfl) ?_
    have hFc := va_freeA hD hS hA
    refine va_calli (va_runV (As := [.int (8 : Int32), .int a_1]) (rest := []) ⟨hx, hb, hml, hown, hts⟩ (kX5_put l g q H.size b_m b_written b_spare b_spareWritten b_states b_fifth b_oldest b_stateCount b_text b_textLength b_at b_read b_columns b_told b_wants b_comes (8 : Int32) a_1 _ h) (cwV 2 hts gX5_setSecondArm_X5_put rfl rfl rfl hdX5_put ⟨(Nat.le_of_ble_eq_true rfl), (Nat.le_of_ble_eq_true rfl)⟩) (preV_M (r := (RX5, TX5, 16)) hK hP hD (ci := 5) (q0 := 0) rfl rfl) rfl rfl hl.1 rfl (lv_room (Nat.le_of_ble_eq_true rfl)) dX5_setSecondArm_13 ⟨(Nat.le_of_ble_eq_true rfl), (Nat.le_of_ble_eq_true rfl)⟩) hS (fun q _ h9 => hFc q h9) hFc (fun r13_8 u t H1 locs ht hvm hw hB hz1 hk1 hS => ?_)
    obtain ⟨b_m_3, b_states_4, b_fifth_5, b_oldest_6, b_stateCount_7⟩ := u
    replace h := hw
    try dsimp only at h
    obtain ⟨hP, hD⟩ := jn0 (wf := (wM g q b_m_3 b_written b_spare b_spareWritten b_states_4 b_fifth_5 b_oldest_6 b_stateCount_7 b_text b_textLength b_at b_read b_columns b_told b_wants b_comes)) hB ht hFc
    have hP : va_P g.1 vwCl (wM g q b_m_3 b_written b_spare b_spareWritten b_states_4 b_fifth_5 b_oldest_6 b_stateCount_7 b_text b_textLength b_at b_read b_columns b_told b_wants b_comes) H1 := hP
    have hD : va_D A (wM g q b_m_3 b_written b_spare b_spareWritten b_states_4 b_fifth_5 b_oldest_6 b_stateCount_7 b_text b_textLength b_at b_read b_columns b_told b_wants b_comes) := hD
    clear hk1 hz1 hB ht hw hFc
    generalize H1 = H at hP hS ⊢
    refine lv_goto (tgt := 21) hx hb dX5_setSecondArm_16 (by decide) ?_
    exact W.iret hx hb hr (fun t ht hW => ⟨⟨r13_8, (b_m_3, b_states_4, b_fifth_5, b_oldest_6, b_stateCount_7), rfl, h, by rw [ht]; exact hP, hD⟩, hS.F ht⟩) hS.2.2 dX5_setSecondArm_21
theorem hdX5_setBroken : yX5_setBroken.cls = RX5 ∧ yX5_setBroken.cls ≠ "java/lang/invoke/MethodHandle" ∧ yX5_setBroken.cls ≠ "java/lang/invoke/VarHandle" ∧ (parseMethodDescriptor yX5_setBroken.desc).map (fun d => d.parameters.length) = some 3 := by decide +kernel
set_option maxHeartbeats 4000000 in
set_option maxRecDepth 100000 in
theorem kX5_setBroken (l : Launch) (g : GG) (q : Nat → Nat) (sz : Nat) (b_m : Nat → Int32) (b_written : Nat → Int32) (b_spare : Nat → Int32) (b_spareWritten : Nat → Int32) (b_states : Nat → Int32) (b_fifth : Nat → Int32) (b_oldest : Int32) (b_stateCount : Int32) (b_text : Nat → Int32) (b_textLength : Int32) (b_at : Int32) (b_read : Nat → Int32) (b_columns : Int32) (b_told : Int32) (b_wants : Nat → Int32) (b_comes : Nat → Int32) (a_1 : Int32) (a_2 : Int32) (a_3 : Int32) (k : Int32 → (Nat → Int32) → (Nat → Int32) → (Nat → Int32) → Int32 → Int32 → Prop) (h : PX5_setBroken b_m b_written b_states b_fifth b_oldest b_stateCount a_1 a_2 a_3 k) : Met l yX5_setBroken wsX5_setBroken ({ frames := 2, cells := 0, slots := 0, locals := 45 }) (PreM g [.ref (q 0), .int a_1, .int a_2, .int a_3] (wM g q b_m b_written b_spare b_spareWritten b_states b_fifth b_oldest b_stateCount b_text b_textLength b_at b_read b_columns b_told b_wants b_comes) sz) (va_Qi (fun (r : Int32) (u : (Nat → Int32) × (Nat → Int32) × (Nat → Int32) × Int32 × Int32) => k r u.1 u.2.1 u.2.2.1 u.2.2.2.1 u.2.2.2.2) (fun u t => PostB g (va_A (wM g q b_m b_written b_spare b_spareWritten b_states b_fifth b_oldest b_stateCount b_text b_textLength b_at b_read b_columns b_told b_wants b_comes) sz) (wM g q u.1 b_written b_spare b_spareWritten u.2.1 u.2.2.1 u.2.2.2.1 u.2.2.2.2 b_text b_textLength b_at b_read b_columns b_told b_wants b_comes) t) (va_A (wM g q b_m b_written b_spare b_spareWritten b_states b_fifth b_oldest b_stateCount b_text b_textLength b_at b_read b_columns b_told b_wants b_comes) sz)) 0 0 (va_A (wM g q b_m b_written b_spare b_spareWritten b_states b_fifth b_oldest b_stateCount b_text b_textLength b_at b_read b_columns b_told b_wants b_comes) sz) := by
  refine Met.ofW (cc := cX5_setBroken) (maxL := 5) (ret := (some .int)) (by decide) rfl ?_
  intro p e s m args below meth c s₁ B hml hv
  obtain ⟨rfl, hsz, hP, hK, hD0⟩ := hv
  have hx := B.exec
  have hb := B.bytes
  have hr := B.returns
  have hts := atoms_spec (ws := wsX5_setBroken) B.pre
  have hown : s.vm.findClass RX5 = some m.cls := findClass_of_methodNamed B.named
  have hlocks := B.notSynchronized
  have iX5 : ∀ w ∈ wsX50, w ∈ wsX5_setBroken := by decide +kernel
  subst hsz
  have hD := hD0.self (sz := s.heap.size)
  generalize hAe : va_A (wM g q b_m b_written b_spare b_spareWritten b_states b_fifth b_oldest b_stateCount b_text b_textLength b_at b_read b_columns b_told b_wants b_comes) s.heap.size = A at hD ⊢
  have hA : ∀ q : Nat, s.heap.size ≤ q → A q := fun q h => by rw [← hAe]; exact Or.inr h
  clear hAe hD0
  have hS : va_S A s.heap s.heap [] := va_S.rf
  have hl := lv_entry ([.ref (q 0), .int a_1, .int a_2, .int a_3]) (n := 5) (Nat.le_of_ble_eq_true rfl)
  rw [lg_entry_eq]
  generalize (lg_sl ([.ref (q 0), .int a_1, .int a_2, .int a_3]) ++ List.replicate (5 - (lg_sl ([.ref (q 0), .int a_1, .int a_2, .int a_3])).length) Slot.unset).toArray = ls at hl ⊢
  have hl : lv_has ls 5 [(0, .ref (q 0)), (1, .int a_1), (2, .int a_2), (3, .int a_3)] := hl
  unfold PX5_setBroken at h
  obtain ⟨H, hHe⟩ : ∃ y, y = s.heap := ⟨_, rfl⟩
  rw [← hHe] at hP
  have hS : va_S A s.heap H [] := by rw [hHe]; exact hS
  have hW0 : ∀ (Q : State → Prop), W p l e (headSpec wsX5_setBroken ({ frames := 2, cells := 0, slots := 0, locals := 45 })).room s m ([.ref (q 0), .int a_1, .int a_2, .int a_3] : List Value).toArray below meth c H [] 0 0 Q (F0 m 0 ls []) → W p l e (headSpec wsX5_setBroken ({ frames := 2, cells := 0, slots := 0, locals := 45 })).room s m ([.ref (q 0), .int a_1, .int a_2, .int a_3] : List Value).toArray below meth c s.heap [] 0 0 Q (F0 m 0 ls []) := by rw [hHe]; exact fun _ h9 => h9
  refine hW0 _ ?_
  clear hW0 hHe
  generalize ([] : List Loc) = locs at hS ⊢
  refine lv_iload_n hx hb dX5_setBroken_0 rfl (lv_at hl 1 rfl) ?_
  refine lv_iconst (v := (0 : Int32)) hx hb dX5_setBroken_1 (by decide) ?_
  refine lv_iconst (v := (1 : Int32)) hx hb dX5_setBroken_2 (by decide) ?_
  refine vp_callSi (W.runS (As := [.int a_1, .int (0 : Int32), .int (1 : Int32)]) (rest := []) ⟨hx, hb, hml, hown, hts⟩ (kX5_in l g  a_1 (0 : Int32) (1 : Int32) _ h) (va_cwS 3 hts gX5_setBroken_X5_in rfl rfl rfl hdX5_in.2 ⟨(Nat.le_of_ble_eq_true rfl), (Nat.le_of_ble_eq_true rfl)⟩) (preS_R hK (va_P_nil (D := g.1) (cl := vwCl))) rfl rfl hl.1 rfl (lv_room (Nat.le_of_ble_eq_true rfl)) dX5_setBroken_3 ⟨(Nat.le_of_ble_eq_true rfl), (Nat.le_of_ble_eq_true rfl)⟩) (fun r3_1 h => ?_)
  refine lv_if_eq (tgt := 25) hx hb dX5_setBroken_6 (by decide) (fun c_6_1 => ?_) (fun c_6_1 => ?_)
  · replace h := h.1 c_6_1
    refine lv_bipush (v := (-101 : Int32)) hx hb dX5_setBroken_25 (by decide) ?_
    exact W.iret hx hb hr (fun t ht hW => ⟨⟨(-101 : Int32), (b_m, b_states, b_fifth, b_oldest, b_stateCount), rfl, h, by rw [ht]; exact hP, hD⟩, hS.F ht⟩) hS.2.2 dX5_setBroken_27
  · replace h := h.2 c_6_1
    refine lv_iload_n hx hb dX5_setBroken_9 rfl (lv_at hl 2 rfl) ?_
    refine vp_callSi (W.runS (As := [.int a_2]) (rest := []) ⟨hx, hb, hml, hown, hts⟩ (kX5_isLight l g  a_2 _ h) (va_cwS 1 hts gX5_setBroken_X5_isLight rfl rfl rfl hdX5_isLight.2 ⟨(Nat.le_of_ble_eq_true rfl), (Nat.le_of_ble_eq_true rfl)⟩) (preS_R hK (va_P_nil (D := g.1) (cl := vwCl))) rfl rfl hl.1 rfl (lv_room (Nat.le_of_ble_eq_true rfl)) dX5_setBroken_10 ⟨(Nat.le_of_ble_eq_true rfl), (Nat.le_of_ble_eq_true rfl)⟩) (fun r10_3 h => ?_)
    refine lv_if_eq (tgt := 25) hx hb dX5_setBroken_13 (by decide) (fun c_13_3 => ?_) (fun c_13_3 => ?_)
    · replace h := h.1 c_13_3
      refine lv_bipush (v := (-101 : Int32)) hx hb dX5_setBroken_25 (by decide) ?_
      exact W.iret hx hb hr (fun t ht hW => ⟨⟨(-101 : Int32), (b_m, b_states, b_fifth, b_oldest, b_stateCount), rfl, h, by rw [ht]; exact hP, hD⟩, hS.F ht⟩) hS.2.2 dX5_setBroken_27
    · replace h := h.2 c_13_3
      refine lv_iload_n hx hb dX5_setBroken_16 rfl (lv_at hl 3 rfl) ?_
      refine lv_iconst (v := (0 : Int32)) hx hb dX5_setBroken_17 (by decide) ?_
      refine lv_iconst (v := (1 : Int32)) hx hb dX5_setBroken_18 (by decide) ?_
      refine vp_callSi (W.runS (As := [.int a_3, .int (0 : Int32), .int (1 : Int32)]) (rest := []) ⟨hx, hb, hml, hown, hts⟩ (kX5_in l g  a_3 (0 : Int32) (1 : Int32) _ h) (va_cwS 3 hts gX5_setBroken_X5_in rfl rfl rfl hdX5_in.2 ⟨(Nat.le_of_ble_eq_true rfl), (Nat.le_of_ble_eq_true rfl)⟩) (preS_R hK (va_P_nil (D := g.1) (cl := vwCl))) rfl rfl hl.1 rfl (lv_room (Nat.le_of_ble_eq_true rfl)) dX5_setBroken_19 ⟨(Nat.le_of_ble_eq_true rfl), (Nat.le_of_ble_eq_true rfl)⟩) (fun r19_5 h => ?_)
      refine lv_if_ne (tgt := 28) hx hb dX5_setBroken_22 (by decide) (fun c_22_5 => ?_) (fun c_22_5 => ?_)
      · replace h := h.1 c_22_5
        refine lv_aload_n hx hb dX5_setBroken_28 rfl (lv_at hl 0 rfl) ?_
        have hFc := va_freeA hD hS hA
        refine va_callv (va_runV (As := []) (rest := []) ⟨hx, hb, hml, hown, hts⟩ (kX5_record l g q H.size b_m b_written b_spare b_spareWritten b_states b_fifth b_oldest b_stateCount b_text b_textLength b_at b_read b_columns b_told b_wants b_comes _ h) (cwV 0 hts gX5_setBroken_X5_record rfl rfl rfl hdX5_record ⟨(Nat.le_of_ble_eq_true rfl), (Nat.le_of_ble_eq_true rfl)⟩) (preV_M (r := (RX5, TX5, 16)) hK hP hD (ci := 5) (q0 := 0) rfl rfl) rfl rfl hl.1 rfl (lv_room (Nat.le_of_ble_eq_true rfl)) dX5_setBroken_29 ⟨(Nat.le_of_ble_eq_true rfl), (Nat.le_of_ble_eq_true rfl)⟩) hS (fun q _ h9 => hFc q h9) hFc (fun u t H1 locs ht hvm hw hB hz1 hk1 hS => ?_)
        obtain ⟨b_states_7, b_fifth_8, b_oldest_9, b_stateCount_10⟩ := u
        replace h := hw
        try dsimp only at h
        obtain ⟨hP, hD⟩ := jn0 (wf := (wM g q b_m b_written b_spare b_spareWritten b_states_7 b_fifth_8 b_oldest_9 b_stateCount_10 b_text b_textLength b_at b_read b_columns b_told b_wants b_comes)) hB ht hFc
        have hP : va_P g.1 vwCl (wM g q b_m b_written b_spare b_spareWritten b_states_7 b_fifth_8 b_oldest_9 b_stateCount_10 b_text b_textLength b_at b_read b_columns b_told b_wants b_comes) H1 := hP
        have hD : va_D A (wM g q b_m b_written b_spare b_spareWritten b_states_7 b_fifth_8 b_oldest_9 b_stateCount_10 b_text b_textLength b_at b_read b_columns b_told b_wants b_comes) := hD
        clear hk1 hz1 hB ht hw hFc
        generalize H1 = H at hP hS ⊢
        refine lv_aload_n hx hb dX5_setBroken_32 rfl (lv_at hl 0 rfl) ?_
        refine lv_iload_n hx hb dX5_setBroken_33 rfl (lv_at hl 1 rfl) ?_
        refine lv_iload_n hx hb dX5_setBroken_34 rfl (lv_at hl 2 rfl) ?_
        refine vp_callSi (W.runV (As := [.int a_1, .int a_2]) (rest := []) ⟨hx, hb, hml, hown, hts⟩ (kX5_isBroken l g q b_m b_written b_spare b_spareWritten b_states_7 b_fifth_8 b_oldest_9 b_stateCount_10 b_text b_textLength b_at b_read b_columns b_told b_wants b_comes a_1 a_2 _ h) (cwV 2 hts gX5_setBroken_X5_isBroken rfl rfl rfl hdX5_isBroken ⟨(Nat.le_of_ble_eq_true rfl), (Nat.le_of_ble_eq_true rfl)⟩) (preV_R (r := (RX5, TX5, 16)) hK hP (ci := 5) (q0 := 0) rfl rfl) rfl rfl hl.1 rfl (lv_room (Nat.le_of_ble_eq_true rfl)) dX5_setBroken_35 ⟨(Nat.le_of_ble_eq_true rfl), (Nat.le_of_ble_eq_true rfl)⟩) (fun r35_11 h => ?_)
        refine lv_if_eq (tgt := 45) hx hb dX5_setBroken_38 (by decide) (fun c_38_11 => ?_) (fun c_38_11 => ?_)
        · replace h := h.1 c_38_11
          refine lv_iconst (v := (0 : Int32)) hx hb dX5_setBroken_45 (by decide) ?_
          refine lv_istore (lv' := [(4, .int (0 : Int32)), (0, .ref (q 0)), (1, .int a_1), (2, .int a_2), (3, .int a_3)]) hx hb dX5_setBroken_46 hl (by decide) rfl (fun ls hl => ?_)
          refine lv_aload_n hx hb dX5_setBroken_48 rfl (lv_at hl 1 rfl) ?_
          refine va_get (D := g.1) (ci := 5) (v := .ref (q 1)) (C := RX5) (T := TX5) (N := 16) hx hb hts iX5 hown hK.1 hP 0 rfl rfl 0 (by decide) (hts (.fieldLink RX5 7 "LightWheelModel" "m" "[I") (by decide +kernel)) (fun _ h9 => h9) rfl dX5_setBroken_49 ?_
          refine lv_bipush (v := (9 : Int32)) hx hb dX5_setBroken_52 (by decide) ?_
          refine lv_iload_n hx hb dX5_setBroken_54 rfl (lv_at hl 2 rfl) ?_
          refine lv_iadd hx hb dX5_setBroken_55 ?_
          refine lv_aload_n hx hb dX5_setBroken_56 rfl (lv_at hl 1 rfl) ?_
          refine va_get (D := g.1) (ci := 5) (v := .ref (q 1)) (C := RX5) (T := TX5) (N := 16) hx hb hts iX5 hown hK.1 hP 0 rfl rfl 0 (by decide) (hts (.fieldLink RX5 7 "LightWheelModel" "m" "[I") (by decide +kernel)) (fun _ h9 => h9) rfl dX5_setBroken_57 ?_
          refine lv_bipush (v := (9 : Int32)) hx hb dX5_setBroken_60 (by decide) ?_
          refine lv_iload_n hx hb dX5_setBroken_62 rfl (lv_at hl 2 rfl) ?_
          refine lv_iadd hx hb dX5_setBroken_63 ?_
          have o_64_12 := h.1
          replace h := h.2
          refine va_iald hx hb hK.1 hP 1 0 rfl rfl o_64_12 dX5_setBroken_64 ?_
          refine lv_iconst (v := (1 : Int32)) hx hb dX5_setBroken_65 (by decide) ?_
          refine lv_iload_n hx hb dX5_setBroken_66 rfl (lv_at hl 3 rfl) ?_
          refine lv_ishl hx hb dX5_setBroken_67 ?_
          refine lv_iconst (v := (-1 : Int32)) hx hb dX5_setBroken_68 (by decide) ?_
          refine lv_ixor hx hb dX5_setBroken_69 ?_
          refine lv_iand hx hb dX5_setBroken_70 ?_
          refine lv_iload_n hx hb dX5_setBroken_71 rfl (lv_at hl 4 rfl) ?_
          refine lv_iload_n hx hb dX5_setBroken_72 rfl (lv_at hl 3 rfl) ?_
          refine lv_ishl hx hb dX5_setBroken_73 ?_
          refine lv_ior hx hb dX5_setBroken_74 ?_
          have o_75_13 := h.1
          replace h := h.2
          refine xs_iast hx hb hK.1 hP hD hS 1 0 rfl rfl o_75_13 dX5_setBroken_75 (fun b_m_15 e_b_m_15 H locs hP hD hS => ?_)
          replace h := h b_m_15 e_b_m_15
          have hP : va_P g.1 vwCl (wM g q b_m_15 b_written b_spare b_spareWritten b_states_7 b_fifth_8 b_oldest_9 b_stateCount_10 b_text b_textLength b_at b_read b_columns b_told b_wants b_comes) H := hP
          have hD : va_D A (wM g q b_m_15 b_written b_spare b_spareWritten b_states_7 b_fifth_8 b_oldest_9 b_stateCount_10 b_text b_textLength b_at b_read b_columns b_told b_wants b_comes) := hD
          refine lv_iload hx hb dX5_setBroken_76 (lv_at hl 0 rfl) ?_
          exact W.iret hx hb hr (fun t ht hW => ⟨⟨(0 : Int32), (b_m_15, b_states_7, b_fifth_8, b_oldest_9, b_stateCount_10), rfl, h, by rw [ht]; exact hP, hD⟩, hS.F ht⟩) hS.2.2 dX5_setBroken_78
        · replace h := h.2 c_38_11
          refine lv_iconst (v := (1 : Int32)) hx hb dX5_setBroken_41 (by decide) ?_
          refine lv_goto (tgt := 46) hx hb dX5_setBroken_42 (by decide) ?_
          refine lv_istore (lv' := [(4, .int (1 : Int32)), (0, .ref (q 0)), (1, .int a_1), (2, .int a_2), (3, .int a_3)]) hx hb dX5_setBroken_46 hl (by decide) rfl (fun ls hl => ?_)
          refine lv_aload_n hx hb dX5_setBroken_48 rfl (lv_at hl 1 rfl) ?_
          refine va_get (D := g.1) (ci := 5) (v := .ref (q 1)) (C := RX5) (T := TX5) (N := 16) hx hb hts iX5 hown hK.1 hP 0 rfl rfl 0 (by decide) (hts (.fieldLink RX5 7 "LightWheelModel" "m" "[I") (by decide +kernel)) (fun _ h9 => h9) rfl dX5_setBroken_49 ?_
          refine lv_bipush (v := (9 : Int32)) hx hb dX5_setBroken_52 (by decide) ?_
          refine lv_iload_n hx hb dX5_setBroken_54 rfl (lv_at hl 2 rfl) ?_
          refine lv_iadd hx hb dX5_setBroken_55 ?_
          refine lv_aload_n hx hb dX5_setBroken_56 rfl (lv_at hl 1 rfl) ?_
          refine va_get (D := g.1) (ci := 5) (v := .ref (q 1)) (C := RX5) (T := TX5) (N := 16) hx hb hts iX5 hown hK.1 hP 0 rfl rfl 0 (by decide) (hts (.fieldLink RX5 7 "LightWheelModel" "m" "[I") (by decide +kernel)) (fun _ h9 => h9) rfl dX5_setBroken_57 ?_
          refine lv_bipush (v := (9 : Int32)) hx hb dX5_setBroken_60 (by decide) ?_
          refine lv_iload_n hx hb dX5_setBroken_62 rfl (lv_at hl 2 rfl) ?_
          refine lv_iadd hx hb dX5_setBroken_63 ?_
          have o_64_15 := h.1
          replace h := h.2
          refine va_iald hx hb hK.1 hP 1 0 rfl rfl o_64_15 dX5_setBroken_64 ?_
          refine lv_iconst (v := (1 : Int32)) hx hb dX5_setBroken_65 (by decide) ?_
          refine lv_iload_n hx hb dX5_setBroken_66 rfl (lv_at hl 3 rfl) ?_
          refine lv_ishl hx hb dX5_setBroken_67 ?_
          refine lv_iconst (v := (-1 : Int32)) hx hb dX5_setBroken_68 (by decide) ?_
          refine lv_ixor hx hb dX5_setBroken_69 ?_
          refine lv_iand hx hb dX5_setBroken_70 ?_
          refine lv_iload_n hx hb dX5_setBroken_71 rfl (lv_at hl 4 rfl) ?_
          refine lv_iload_n hx hb dX5_setBroken_72 rfl (lv_at hl 3 rfl) ?_
          refine lv_ishl hx hb dX5_setBroken_73 ?_
          refine lv_ior hx hb dX5_setBroken_74 ?_
          have o_75_16 := h.1
          replace h := h.2
          refine xs_iast hx hb hK.1 hP hD hS 1 0 rfl rfl o_75_16 dX5_setBroken_75 (fun b_m_18 e_b_m_18 H locs hP hD hS => ?_)
          replace h := h b_m_18 e_b_m_18
          have hP : va_P g.1 vwCl (wM g q b_m_18 b_written b_spare b_spareWritten b_states_7 b_fifth_8 b_oldest_9 b_stateCount_10 b_text b_textLength b_at b_read b_columns b_told b_wants b_comes) H := hP
          have hD : va_D A (wM g q b_m_18 b_written b_spare b_spareWritten b_states_7 b_fifth_8 b_oldest_9 b_stateCount_10 b_text b_textLength b_at b_read b_columns b_told b_wants b_comes) := hD
          refine lv_iload hx hb dX5_setBroken_76 (lv_at hl 0 rfl) ?_
          exact W.iret hx hb hr (fun t ht hW => ⟨⟨(1 : Int32), (b_m_18, b_states_7, b_fifth_8, b_oldest_9, b_stateCount_10), rfl, h, by rw [ht]; exact hP, hD⟩, hS.F ht⟩) hS.2.2 dX5_setBroken_78
      · replace h := h.2 c_22_5
        refine lv_bipush (v := (-101 : Int32)) hx hb dX5_setBroken_25 (by decide) ?_
        exact W.iret hx hb hr (fun t ht hW => ⟨⟨(-101 : Int32), (b_m, b_states, b_fifth, b_oldest, b_stateCount), rfl, h, by rw [ht]; exact hP, hD⟩, hS.F ht⟩) hS.2.2 dX5_setBroken_27
theorem hdX5_set : yX5_set.cls = RX5 ∧ yX5_set.cls ≠ "java/lang/invoke/MethodHandle" ∧ yX5_set.cls ≠ "java/lang/invoke/VarHandle" ∧ (parseMethodDescriptor yX5_set.desc).map (fun d => d.parameters.length) = some 2 := by decide +kernel
set_option maxHeartbeats 4000000 in
set_option maxRecDepth 100000 in
theorem kX5_set (l : Launch) (g : GG) (q : Nat → Nat) (sz : Nat) (b_m : Nat → Int32) (b_written : Nat → Int32) (b_spare : Nat → Int32) (b_spareWritten : Nat → Int32) (b_states : Nat → Int32) (b_fifth : Nat → Int32) (b_oldest : Int32) (b_stateCount : Int32) (b_text : Nat → Int32) (b_textLength : Int32) (b_at : Int32) (b_read : Nat → Int32) (b_columns : Int32) (b_told : Int32) (b_wants : Nat → Int32) (b_comes : Nat → Int32) (a_1 : Int32) (a_2 : Int32) (k : Int32 → (Nat → Int32) → (Nat → Int32) → (Nat → Int32) → Int32 → Int32 → Prop) (h : PX5_set b_m b_written b_states b_fifth b_oldest b_stateCount a_1 a_2 k) : Met l yX5_set wsX5_set ({ frames := 3, cells := 0, slots := 0, locals := 68 }) (PreM g [.ref (q 0), .int a_1, .int a_2] (wM g q b_m b_written b_spare b_spareWritten b_states b_fifth b_oldest b_stateCount b_text b_textLength b_at b_read b_columns b_told b_wants b_comes) sz) (va_Qi (fun (r : Int32) (u : (Nat → Int32) × (Nat → Int32) × (Nat → Int32) × Int32 × Int32) => k r u.1 u.2.1 u.2.2.1 u.2.2.2.1 u.2.2.2.2) (fun u t => PostB g (va_A (wM g q b_m b_written b_spare b_spareWritten b_states b_fifth b_oldest b_stateCount b_text b_textLength b_at b_read b_columns b_told b_wants b_comes) sz) (wM g q u.1 b_written b_spare b_spareWritten u.2.1 u.2.2.1 u.2.2.2.1 u.2.2.2.2 b_text b_textLength b_at b_read b_columns b_told b_wants b_comes) t) (va_A (wM g q b_m b_written b_spare b_spareWritten b_states b_fifth b_oldest b_stateCount b_text b_textLength b_at b_read b_columns b_told b_wants b_comes) sz)) 0 0 (va_A (wM g q b_m b_written b_spare b_spareWritten b_states b_fifth b_oldest b_stateCount b_text b_textLength b_at b_read b_columns b_told b_wants b_comes) sz) := by
  refine Met.ofW (cc := cX5_set) (maxL := 3) (ret := (some .int)) (by decide) rfl ?_
  intro p e s m args below meth c s₁ B hml hv
  obtain ⟨rfl, hsz, hP, hK, hD0⟩ := hv
  have hx := B.exec
  have hb := B.bytes
  have hr := B.returns
  have hts := atoms_spec (ws := wsX5_set) B.pre
  have hown : s.vm.findClass RX5 = some m.cls := findClass_of_methodNamed B.named
  have hlocks := B.notSynchronized
  subst hsz
  have hD := hD0.self (sz := s.heap.size)
  generalize hAe : va_A (wM g q b_m b_written b_spare b_spareWritten b_states b_fifth b_oldest b_stateCount b_text b_textLength b_at b_read b_columns b_told b_wants b_comes) s.heap.size = A at hD ⊢
  have hA : ∀ q : Nat, s.heap.size ≤ q → A q := fun q h => by rw [← hAe]; exact Or.inr h
  clear hAe hD0
  have hS : va_S A s.heap s.heap [] := va_S.rf
  have hl := lv_entry ([.ref (q 0), .int a_1, .int a_2]) (n := 3) (Nat.le_of_ble_eq_true rfl)
  rw [lg_entry_eq]
  generalize (lg_sl ([.ref (q 0), .int a_1, .int a_2]) ++ List.replicate (3 - (lg_sl ([.ref (q 0), .int a_1, .int a_2])).length) Slot.unset).toArray = ls at hl ⊢
  have hl : lv_has ls 3 [(0, .ref (q 0)), (1, .int a_1), (2, .int a_2)] := hl
  unfold PX5_set at h
  obtain ⟨H, hHe⟩ : ∃ y, y = s.heap := ⟨_, rfl⟩
  rw [← hHe] at hP
  have hS : va_S A s.heap H [] := by rw [hHe]; exact hS
  have hW0 : ∀ (Q : State → Prop), W p l e (headSpec wsX5_set ({ frames := 3, cells := 0, slots := 0, locals := 68 })).room s m ([.ref (q 0), .int a_1, .int a_2] : List Value).toArray below meth c H [] 0 0 Q (F0 m 0 ls []) → W p l e (headSpec wsX5_set ({ frames := 3, cells := 0, slots := 0, locals := 68 })).room s m ([.ref (q 0), .int a_1, .int a_2] : List Value).toArray below meth c s.heap [] 0 0 Q (F0 m 0 ls []) := by rw [hHe]; exact fun _ h9 => h9
  refine hW0 _ ?_
  clear hW0 hHe
  generalize ([] : List Loc) = locs at hS ⊢
  refine lv_iload_n hx hb dX5_set_0 rfl (lv_at hl 1 rfl) ?_
  refine lv_iload_n hx hb dX5_set_1 rfl (lv_at hl 2 rfl) ?_
  refine vp_callSi (W.runS (As := [.int a_1, .int a_2]) (rest := []) ⟨hx, hb, hml, hown, hts⟩ (kX5_isSetting l g  a_1 a_2 _ h) (va_cwS 2 hts gX5_set_X5_isSetting rfl rfl rfl hdX5_isSetting.2 ⟨(Nat.le_of_ble_eq_true rfl), (Nat.le_of_ble_eq_true rfl)⟩) (preS_R hK (va_P_nil (D := g.1) (cl := vwCl))) rfl rfl hl.1 rfl (lv_room (Nat.le_of_ble_eq_true rfl)) dX5_set_2 ⟨(Nat.le_of_ble_eq_true rfl), (Nat.le_of_ble_eq_true rfl)⟩) (fun r2_1 h => ?_)
  refine lv_if_eq (tgt := 17) hx hb dX5_set_5 (by decide) (fun c_5_1 => ?_) (fun c_5_1 => ?_)
  · replace h := h.1 c_5_1
    refine lv_bipush (v := (-101 : Int32)) hx hb dX5_set_17 (by decide) ?_
    exact W.iret hx hb hr (fun t ht hW => ⟨⟨(-101 : Int32), (b_m, b_states, b_fifth, b_oldest, b_stateCount), rfl, h, by rw [ht]; exact hP, hD⟩, hS.F ht⟩) hS.2.2 dX5_set_19
  · replace h := h.2 c_5_1
    refine lv_aload_n hx hb dX5_set_8 rfl (lv_at hl 0 rfl) ?_
    refine lv_iload_n hx hb dX5_set_9 rfl (lv_at hl 1 rfl) ?_
    refine lv_iload_n hx hb dX5_set_10 rfl (lv_at hl 2 rfl) ?_
    have hFc := va_freeA hD hS hA
    refine va_calli (va_runV (As := [.int a_1, .int a_2]) (rest := []) ⟨hx, hb, hml, hown, hts⟩ (kX5_put l g q H.size b_m b_written b_spare b_spareWritten b_states b_fifth b_oldest b_stateCount b_text b_textLength b_at b_read b_columns b_told b_wants b_comes a_1 a_2 _ h) (cwV 2 hts gX5_set_X5_put rfl rfl rfl hdX5_put ⟨(Nat.le_of_ble_eq_true rfl), (Nat.le_of_ble_eq_true rfl)⟩) (preV_M (r := (RX5, TX5, 16)) hK hP hD (ci := 5) (q0 := 0) rfl rfl) rfl rfl hl.1 rfl (lv_room (Nat.le_of_ble_eq_true rfl)) dX5_set_11 ⟨(Nat.le_of_ble_eq_true rfl), (Nat.le_of_ble_eq_true rfl)⟩) hS (fun q _ h9 => hFc q h9) hFc (fun r11_8 u t H1 locs ht hvm hw hB hz1 hk1 hS => ?_)
    obtain ⟨b_m_3, b_states_4, b_fifth_5, b_oldest_6, b_stateCount_7⟩ := u
    replace h := hw
    try dsimp only at h
    obtain ⟨hP, hD⟩ := jn0 (wf := (wM g q b_m_3 b_written b_spare b_spareWritten b_states_4 b_fifth_5 b_oldest_6 b_stateCount_7 b_text b_textLength b_at b_read b_columns b_told b_wants b_comes)) hB ht hFc
    have hP : va_P g.1 vwCl (wM g q b_m_3 b_written b_spare b_spareWritten b_states_4 b_fifth_5 b_oldest_6 b_stateCount_7 b_text b_textLength b_at b_read b_columns b_told b_wants b_comes) H1 := hP
    have hD : va_D A (wM g q b_m_3 b_written b_spare b_spareWritten b_states_4 b_fifth_5 b_oldest_6 b_stateCount_7 b_text b_textLength b_at b_read b_columns b_told b_wants b_comes) := hD
    clear hk1 hz1 hB ht hw hFc
    generalize H1 = H at hP hS ⊢
    refine lv_goto (tgt := 19) hx hb dX5_set_14 (by decide) ?_
    exact W.iret hx hb hr (fun t ht hW => ⟨⟨r11_8, (b_m_3, b_states_4, b_fifth_5, b_oldest_6, b_stateCount_7), rfl, h, by rw [ht]; exact hP, hD⟩, hS.F ht⟩) hS.2.2 dX5_set_19
theorem hdX5_layWants : yX5_layWants.cls = RX5 ∧ yX5_layWants.cls ≠ "java/lang/invoke/MethodHandle" ∧ yX5_layWants.cls ≠ "java/lang/invoke/VarHandle" ∧ (parseMethodDescriptor yX5_layWants.desc).map (fun d => d.parameters.length) = some 0 := by decide +kernel
set_option maxHeartbeats 4000000 in
set_option maxRecDepth 100000 in
theorem kX5_layWants (l : Launch) (g : GG) (q : Nat → Nat) (sz : Nat) (b_m : Nat → Int32) (b_written : Nat → Int32) (b_spare : Nat → Int32) (b_spareWritten : Nat → Int32) (b_states : Nat → Int32) (b_fifth : Nat → Int32) (b_oldest : Int32) (b_stateCount : Int32) (b_text : Nat → Int32) (b_textLength : Int32) (b_at : Int32) (b_read : Nat → Int32) (b_columns : Int32) (b_told : Int32) (b_wants : Nat → Int32) (b_comes : Nat → Int32)  (k : (Nat → Int32) → Prop) (h : PX5_layWants b_m b_wants  k) : Met l yX5_layWants wsX5_layWants ({ frames := 4, cells := 0, slots := 0, locals := 92 }) (PreM g [.ref (q 0)] (wM g q b_m b_written b_spare b_spareWritten b_states b_fifth b_oldest b_stateCount b_text b_textLength b_at b_read b_columns b_told b_wants b_comes) sz) (va_Qv (fun u : (Nat → Int32) => k u) (fun u t => PostB g (va_A (wM g q b_m b_written b_spare b_spareWritten b_states b_fifth b_oldest b_stateCount b_text b_textLength b_at b_read b_columns b_told b_wants b_comes) sz) (wM g q b_m b_written b_spare b_spareWritten b_states b_fifth b_oldest b_stateCount b_text b_textLength b_at b_read b_columns b_told u b_comes) t) (va_A (wM g q b_m b_written b_spare b_spareWritten b_states b_fifth b_oldest b_stateCount b_text b_textLength b_at b_read b_columns b_told b_wants b_comes) sz)) 0 0 (va_A (wM g q b_m b_written b_spare b_spareWritten b_states b_fifth b_oldest b_stateCount b_text b_textLength b_at b_read b_columns b_told b_wants b_comes) sz) := by
  refine Met.ofW (cc := cX5_layWants) (maxL := 2) (ret := none) (by decide) rfl ?_
  intro p e s m args below meth c s₁ B hml hv
  obtain ⟨rfl, hsz, hP, hK, hD0⟩ := hv
  have hx := B.exec
  have hb := B.bytes
  have hr := B.returns
  have hts := atoms_spec (ws := wsX5_layWants) B.pre
  have hown : s.vm.findClass RX5 = some m.cls := findClass_of_methodNamed B.named
  have hlocks := B.notSynchronized
  have iX5 : ∀ w ∈ wsX50, w ∈ wsX5_layWants := by decide +kernel
  subst hsz
  have hD := hD0.self (sz := s.heap.size)
  generalize hAe : va_A (wM g q b_m b_written b_spare b_spareWritten b_states b_fifth b_oldest b_stateCount b_text b_textLength b_at b_read b_columns b_told b_wants b_comes) s.heap.size = A at hD ⊢
  have hA : ∀ q : Nat, s.heap.size ≤ q → A q := fun q h => by rw [← hAe]; exact Or.inr h
  clear hAe hD0
  have hS : va_S A s.heap s.heap [] := va_S.rf
  have hl := lv_entry ([.ref (q 0)]) (n := 2) (Nat.le_of_ble_eq_true rfl)
  rw [lg_entry_eq]
  generalize (lg_sl ([.ref (q 0)]) ++ List.replicate (2 - (lg_sl ([.ref (q 0)])).length) Slot.unset).toArray = ls at hl ⊢
  have hl : lv_has ls 2 [(0, .ref (q 0))] := hl
  unfold PX5_layWants at h
  obtain ⟨H, hHe⟩ : ∃ y, y = s.heap := ⟨_, rfl⟩
  rw [← hHe] at hP
  have hS : va_S A s.heap H [] := by rw [hHe]; exact hS
  have hW0 : ∀ (Q : State → Prop), W p l e (headSpec wsX5_layWants ({ frames := 4, cells := 0, slots := 0, locals := 92 })).room s m ([.ref (q 0)] : List Value).toArray below meth c H [] 0 0 Q (F0 m 0 ls []) → W p l e (headSpec wsX5_layWants ({ frames := 4, cells := 0, slots := 0, locals := 92 })).room s m ([.ref (q 0)] : List Value).toArray below meth c s.heap [] 0 0 Q (F0 m 0 ls []) := by rw [hHe]; exact fun _ h9 => h9
  refine hW0 _ ?_
  clear hW0 hHe
  generalize ([] : List Loc) = locs at hS ⊢
  refine lv_iconst (v := (0 : Int32)) hx hb dX5_layWants_0 (by decide) ?_
  refine lv_istore_n (lv' := [(1, .int (0 : Int32)), (0, .ref (q 0))]) hx hb dX5_layWants_1 rfl hl (by decide) rfl (fun ls hl => ?_)
  have loop_1 : ∀ (kx_1 : Int32 → (Nat → Int32) → Prop), (∀ (v1_1 : Int32) (b_wants_2 : Nat → Int32) (H : Heap) (locs : List Loc) (ls : Array Slot), kx_1 v1_1 b_wants_2 → va_P g.1 vwCl (wM g q b_m b_written b_spare b_spareWritten b_states b_fifth b_oldest b_stateCount b_text b_textLength b_at b_read b_columns b_told b_wants_2 b_comes) H → va_D A (wM g q b_m b_written b_spare b_spareWritten b_states b_fifth b_oldest b_stateCount b_text b_textLength b_at b_read b_columns b_told b_wants_2 b_comes) → va_S A s.heap H locs → lv_has ls 2 [(1, .int v1_1), (0, .ref (q 0))] → W p l e (headSpec wsX5_layWants ({ frames := 4, cells := 0, slots := 0, locals := 92 })).room s m ([.ref (q 0)] : List Value).toArray below meth c H locs 0 0 (MQ below (va_Qv (fun u : (Nat → Int32) => k u) (fun u t => PostB g A (wM g q b_m b_written b_spare b_spareWritten b_states b_fifth b_oldest b_stateCount b_text b_textLength b_at b_read b_columns b_told u b_comes) t) A) ([.ref (q 0)] : List Value).toArray s 0 0 A) (F0 m 33 ls [])) → ∀ (n_1 : Nat) (v1_1 : Int32) (b_wants_2 : Nat → Int32) (H : Heap) (locs : List Loc) (ls : Array Slot), PX5_layWants_L1 b_m kx_1 n_1 v1_1 b_wants_2 → va_P g.1 vwCl (wM g q b_m b_written b_spare b_spareWritten b_states b_fifth b_oldest b_stateCount b_text b_textLength b_at b_read b_columns b_told b_wants_2 b_comes) H → va_D A (wM g q b_m b_written b_spare b_spareWritten b_states b_fifth b_oldest b_stateCount b_text b_textLength b_at b_read b_columns b_told b_wants_2 b_comes) → va_S A s.heap H locs → lv_has ls 2 [(1, .int v1_1), (0, .ref (q 0))] → W p l e (headSpec wsX5_layWants ({ frames := 4, cells := 0, slots := 0, locals := 92 })).room s m ([.ref (q 0)] : List Value).toArray below meth c H locs 0 0 (MQ below (va_Qv (fun u : (Nat → Int32) => k u) (fun u t => PostB g A (wM g q b_m b_written b_spare b_spareWritten b_states b_fifth b_oldest b_stateCount b_text b_textLength b_at b_read b_columns b_told u b_comes) t) A) ([.ref (q 0)] : List Value).toArray s 0 0 A) (F0 m 2 ls []) := by
    intro kx_1 hexit_1 n_1
    induction n_1 with
    | zero => exact fun _ _ _ _ _ h _ _ _ _ => (h : False).elim
    | succ n_1 ih_1 =>
      intro v1_1 b_wants_2 H locs ls h hP hD hS hl
      unfold PX5_layWants_L1 at h
      refine lv_iload_n hx hb dX5_layWants_2 rfl (lv_at hl 0 rfl) ?_
      refine lv_sipush (v := (8640 : Int32)) hx hb dX5_layWants_3 (by decide) ?_
      refine lv_icmp_ge (tgt := 33) hx hb dX5_layWants_6 (by decide) (fun c_6_2 => ?_) (fun c_6_2 => ?_)
      · replace h := h.1 c_6_2
        exact hexit_1 v1_1 b_wants_2 H locs ls h hP hD hS (lv_sub hl [0, 1] rfl)
      · replace h := h.2 c_6_2
        refine lv_aload_n hx hb dX5_layWants_9 rfl (lv_at hl 1 rfl) ?_
        refine va_get (D := g.1) (ci := 5) (v := .ref (q 9)) (C := RX5) (T := TX5) (N := 16) hx hb hts iX5 hown hK.1 hP 0 rfl rfl 14 (by decide) (hts (.fieldLink RX5 34 "LightWheelModel" "wants" "[I") (by decide +kernel)) (fun _ h9 => h9) rfl dX5_layWants_10 ?_
        refine lv_iload_n hx hb dX5_layWants_13 rfl (lv_at hl 0 rfl) ?_
        refine lv_aload_n hx hb dX5_layWants_14 rfl (lv_at hl 1 rfl) ?_
        refine lv_iload_n hx hb dX5_layWants_15 rfl (lv_at hl 0 rfl) ?_
        refine lv_bipush (v := (12 : Int32)) hx hb dX5_layWants_16 (by decide) ?_
        refine lv_idiv hx hb dX5_layWants_18 (by decide) ?_
        refine lv_iload_n hx hb dX5_layWants_19 rfl (lv_at hl 0 rfl) ?_
        refine lv_bipush (v := (12 : Int32)) hx hb dX5_layWants_20 (by decide) ?_
        refine lv_irem hx hb dX5_layWants_22 (by decide) ?_
        refine vp_callSi (W.runV (As := [.int (v1_1 / (12 : Int32)), .int (v1_1 - v1_1 / (12 : Int32) * (12 : Int32))]) (rest := [.int v1_1, .ref (q 9)]) ⟨hx, hb, hml, hown, hts⟩ (kX5_wanted l g q b_m b_written b_spare b_spareWritten b_states b_fifth b_oldest b_stateCount b_text b_textLength b_at b_read b_columns b_told b_wants_2 b_comes (v1_1 / (12 : Int32)) (v1_1 - v1_1 / (12 : Int32) * (12 : Int32)) _ h) (cwV 2 hts gX5_layWants_X5_wanted rfl rfl rfl hdX5_wanted ⟨(Nat.le_of_ble_eq_true rfl), (Nat.le_of_ble_eq_true rfl)⟩) (preV_R (r := (RX5, TX5, 16)) hK hP (ci := 5) (q0 := 0) rfl rfl) rfl rfl hl.1 rfl (lv_room (Nat.le_of_ble_eq_true rfl)) dX5_layWants_23 ⟨(Nat.le_of_ble_eq_true rfl), (Nat.le_of_ble_eq_true rfl)⟩) (fun r23_4 h => ?_)
        have o_26_4 := h.1
        replace h := h.2
        refine xs_iast hx hb hK.1 hP hD hS 9 0 rfl rfl o_26_4 dX5_layWants_26 (fun b_wants_6 e_b_wants_6 H locs hP hD hS => ?_)
        replace h := h b_wants_6 e_b_wants_6
        have hP : va_P g.1 vwCl (wM g q b_m b_written b_spare b_spareWritten b_states b_fifth b_oldest b_stateCount b_text b_textLength b_at b_read b_columns b_told b_wants_6 b_comes) H := hP
        have hD : va_D A (wM g q b_m b_written b_spare b_spareWritten b_states b_fifth b_oldest b_stateCount b_text b_textLength b_at b_read b_columns b_told b_wants_6 b_comes) := hD
        obtain ⟨v1_7, e_v1_7⟩ : ∃ y : Int32, y = v1_1 + (1 : Int32) := ⟨_, rfl⟩
        replace h := h v1_7 e_v1_7
        refine lv_iinc (v := v1_7) (lv' := [(1, .int v1_7), (0, .ref (q 0))]) hx hb dX5_layWants_27 hl (k := 0) rfl (by rw [e_v1_7]; rfl) (by decide) rfl (fun ls hl => ?_)
        refine lv_goto (tgt := 2) hx hb dX5_layWants_30 (by decide) ?_
        exact ih_1 v1_7 b_wants_6 H locs ls h hP hD hS (lv_sub hl [0, 1] rfl)
  obtain ⟨n_1, h⟩ := h
  refine loop_1 _ ?_ n_1 (0 : Int32) b_wants _ _ ls h hP hD hS (lv_sub hl [0, 1] rfl)
  intro v1_1 b_wants_2 H locs ls h hP hD hS hl
  exact W.vret hx hb hr (fun t ht hW => ⟨⟨b_wants_2, rfl, h, by rw [ht]; exact hP, hD⟩, hS.F ht⟩) hS.2.2 dX5_layWants_33
theorem hdX5_newSpeed : yX5_newSpeed.cls = RX5 ∧ yX5_newSpeed.cls ≠ "java/lang/invoke/MethodHandle" ∧ yX5_newSpeed.cls ≠ "java/lang/invoke/VarHandle" ∧ (parseMethodDescriptor yX5_newSpeed.desc).map (fun d => d.parameters.length) = some 0 := by decide +kernel
set_option maxHeartbeats 4000000 in
set_option maxRecDepth 100000 in
theorem kX5_newSpeed (l : Launch) (g : GG) (q : Nat → Nat) (sz : Nat) (b_m : Nat → Int32) (b_written : Nat → Int32) (b_spare : Nat → Int32) (b_spareWritten : Nat → Int32) (b_states : Nat → Int32) (b_fifth : Nat → Int32) (b_oldest : Int32) (b_stateCount : Int32) (b_text : Nat → Int32) (b_textLength : Int32) (b_at : Int32) (b_read : Nat → Int32) (b_columns : Int32) (b_told : Int32) (b_wants : Nat → Int32) (b_comes : Nat → Int32)  (k : (Nat → Int32) → Prop) (h : PX5_newSpeed b_m  k) : Met l yX5_newSpeed wsX5_newSpeed ({ frames := 0, cells := 0, slots := 0, locals := 0 }) (PreM g [.ref (q 0)] (wM g q b_m b_written b_spare b_spareWritten b_states b_fifth b_oldest b_stateCount b_text b_textLength b_at b_read b_columns b_told b_wants b_comes) sz) (va_Qv (fun u : (Nat → Int32) => k u) (fun u t => PostB g (va_A (wM g q b_m b_written b_spare b_spareWritten b_states b_fifth b_oldest b_stateCount b_text b_textLength b_at b_read b_columns b_told b_wants b_comes) sz) (wM g q u b_written b_spare b_spareWritten b_states b_fifth b_oldest b_stateCount b_text b_textLength b_at b_read b_columns b_told b_wants b_comes) t) (va_A (wM g q b_m b_written b_spare b_spareWritten b_states b_fifth b_oldest b_stateCount b_text b_textLength b_at b_read b_columns b_told b_wants b_comes) sz)) 0 0 (va_A (wM g q b_m b_written b_spare b_spareWritten b_states b_fifth b_oldest b_stateCount b_text b_textLength b_at b_read b_columns b_told b_wants b_comes) sz) := by
  refine Met.ofW (cc := cX5_newSpeed) (maxL := 3) (ret := none) (by decide) rfl ?_
  intro p e s m args below meth c s₁ B hml hv
  obtain ⟨rfl, hsz, hP, hK, hD0⟩ := hv
  have hx := B.exec
  have hb := B.bytes
  have hr := B.returns
  have hts := atoms_spec (ws := wsX5_newSpeed) B.pre
  have hown : s.vm.findClass RX5 = some m.cls := findClass_of_methodNamed B.named
  have hlocks := B.notSynchronized
  have iX5 : ∀ w ∈ wsX50, w ∈ wsX5_newSpeed := by decide +kernel
  subst hsz
  have hD := hD0.self (sz := s.heap.size)
  generalize hAe : va_A (wM g q b_m b_written b_spare b_spareWritten b_states b_fifth b_oldest b_stateCount b_text b_textLength b_at b_read b_columns b_told b_wants b_comes) s.heap.size = A at hD ⊢
  have hA : ∀ q : Nat, s.heap.size ≤ q → A q := fun q h => by rw [← hAe]; exact Or.inr h
  clear hAe hD0
  have hS : va_S A s.heap s.heap [] := va_S.rf
  have hl := lv_entry ([.ref (q 0)]) (n := 3) (Nat.le_of_ble_eq_true rfl)
  rw [lg_entry_eq]
  generalize (lg_sl ([.ref (q 0)]) ++ List.replicate (3 - (lg_sl ([.ref (q 0)])).length) Slot.unset).toArray = ls at hl ⊢
  have hl : lv_has ls 3 [(0, .ref (q 0))] := hl
  unfold PX5_newSpeed at h
  obtain ⟨H, hHe⟩ : ∃ y, y = s.heap := ⟨_, rfl⟩
  rw [← hHe] at hP
  have hS : va_S A s.heap H [] := by rw [hHe]; exact hS
  have hW0 : ∀ (Q : State → Prop), W p l e (headSpec wsX5_newSpeed ({ frames := 0, cells := 0, slots := 0, locals := 0 })).room s m ([.ref (q 0)] : List Value).toArray below meth c H [] 0 0 Q (F0 m 0 ls []) → W p l e (headSpec wsX5_newSpeed ({ frames := 0, cells := 0, slots := 0, locals := 0 })).room s m ([.ref (q 0)] : List Value).toArray below meth c s.heap [] 0 0 Q (F0 m 0 ls []) := by rw [hHe]; exact fun _ h9 => h9
  refine hW0 _ ?_
  clear hW0 hHe
  generalize ([] : List Loc) = locs at hS ⊢
  refine lv_aload_n hx hb dX5_newSpeed_0 rfl (lv_at hl 0 rfl) ?_
  refine va_get (D := g.1) (ci := 5) (v := .ref (q 1)) (C := RX5) (T := TX5) (N := 16) hx hb hts iX5 hown hK.1 hP 0 rfl rfl 0 (by decide) (hts (.fieldLink RX5 7 "LightWheelModel" "m" "[I") (by decide +kernel)) (fun _ h9 => h9) rfl dX5_newSpeed_1 ?_
  refine lv_bipush (v := (7 : Int32)) hx hb dX5_newSpeed_4 (by decide) ?_
  refine xr_iald hx hb hK.1 hP 1 0 rfl rfl 7 rfl (Nat.le_of_ble_eq_true rfl) (Nat.le_of_ble_eq_true rfl) dX5_newSpeed_6 ?_
  refine lv_aload_n hx hb dX5_newSpeed_7 rfl (lv_at hl 0 rfl) ?_
  refine va_get (D := g.1) (ci := 5) (v := .ref (q 1)) (C := RX5) (T := TX5) (N := 16) hx hb hts iX5 hown hK.1 hP 0 rfl rfl 0 (by decide) (hts (.fieldLink RX5 7 "LightWheelModel" "m" "[I") (by decide +kernel)) (fun _ h9 => h9) rfl dX5_newSpeed_8 ?_
  refine lv_iconst (v := (2 : Int32)) hx hb dX5_newSpeed_11 (by decide) ?_
  refine xr_iald hx hb hK.1 hP 1 0 rfl rfl 2 rfl (Nat.le_of_ble_eq_true rfl) (Nat.le_of_ble_eq_true rfl) dX5_newSpeed_12 ?_
  refine lv_icmp_le (tgt := 27) hx hb dX5_newSpeed_13 (by decide) (fun c_13_0 => ?_) (fun c_13_0 => ?_)
  · replace h := h.1 c_13_0
    refine lv_aload_n hx hb dX5_newSpeed_27 rfl (lv_at hl 0 rfl) ?_
    refine va_get (D := g.1) (ci := 5) (v := .ref (q 1)) (C := RX5) (T := TX5) (N := 16) hx hb hts iX5 hown hK.1 hP 0 rfl rfl 0 (by decide) (hts (.fieldLink RX5 7 "LightWheelModel" "m" "[I") (by decide +kernel)) (fun _ h9 => h9) rfl dX5_newSpeed_28 ?_
    refine lv_iconst (v := (1 : Int32)) hx hb dX5_newSpeed_31 (by decide) ?_
    refine xr_iald hx hb hK.1 hP 1 0 rfl rfl 1 rfl (Nat.le_of_ble_eq_true rfl) (Nat.le_of_ble_eq_true rfl) dX5_newSpeed_32 ?_
    refine lv_topi (fun v1_2 e_v1_2 => ?_)
    replace h := h v1_2 e_v1_2
    refine lv_istore_n (lv' := [(1, .int v1_2), (0, .ref (q 0))]) hx hb dX5_newSpeed_33 rfl hl (by decide) rfl (fun ls hl => ?_)
    refine lv_aload_n hx hb dX5_newSpeed_34 rfl (lv_at hl 1 rfl) ?_
    refine va_get (D := g.1) (ci := 5) (v := .ref (q 1)) (C := RX5) (T := TX5) (N := 16) hx hb hts iX5 hown hK.1 hP 0 rfl rfl 0 (by decide) (hts (.fieldLink RX5 7 "LightWheelModel" "m" "[I") (by decide +kernel)) (fun _ h9 => h9) rfl dX5_newSpeed_35 ?_
    refine lv_iconst (v := (0 : Int32)) hx hb dX5_newSpeed_38 (by decide) ?_
    refine xr_iald hx hb hK.1 hP 1 0 rfl rfl 0 rfl (Nat.le_of_ble_eq_true rfl) (Nat.le_of_ble_eq_true rfl) dX5_newSpeed_39 ?_
    refine lv_aload_n hx hb dX5_newSpeed_40 rfl (lv_at hl 1 rfl) ?_
    refine va_get (D := g.1) (ci := 5) (v := .ref (q 1)) (C := RX5) (T := TX5) (N := 16) hx hb hts iX5 hown hK.1 hP 0 rfl rfl 0 (by decide) (hts (.fieldLink RX5 7 "LightWheelModel" "m" "[I") (by decide +kernel)) (fun _ h9 => h9) rfl dX5_newSpeed_41 ?_
    refine lv_iconst (v := (5 : Int32)) hx hb dX5_newSpeed_44 (by decide) ?_
    refine xr_iald hx hb hK.1 hP 1 0 rfl rfl 5 rfl (Nat.le_of_ble_eq_true rfl) (Nat.le_of_ble_eq_true rfl) dX5_newSpeed_45 ?_
    refine lv_isub hx hb dX5_newSpeed_46 ?_
    refine lv_topi (fun v2_3 e_v2_3 => ?_)
    replace h := h v2_3 e_v2_3
    refine lv_istore_n (lv' := [(2, .int v2_3), (1, .int v1_2), (0, .ref (q 0))]) hx hb dX5_newSpeed_47 rfl hl (by decide) rfl (fun ls hl => ?_)
    refine lv_aload_n hx hb dX5_newSpeed_48 rfl (lv_at hl 2 rfl) ?_
    refine va_get (D := g.1) (ci := 5) (v := .ref (q 1)) (C := RX5) (T := TX5) (N := 16) hx hb hts iX5 hown hK.1 hP 0 rfl rfl 0 (by decide) (hts (.fieldLink RX5 7 "LightWheelModel" "m" "[I") (by decide +kernel)) (fun _ h9 => h9) rfl dX5_newSpeed_49 ?_
    refine lv_iconst (v := (5 : Int32)) hx hb dX5_newSpeed_52 (by decide) ?_
    refine lv_dup2_11 hx hb dX5_newSpeed_53 rfl rfl ?_
    refine xr_iald hx hb hK.1 hP 1 0 rfl rfl 5 rfl (Nat.le_of_ble_eq_true rfl) (Nat.le_of_ble_eq_true rfl) dX5_newSpeed_54 ?_
    refine lv_iload_n hx hb dX5_newSpeed_55 rfl (lv_at hl 0 rfl) ?_
    refine lv_iload_n hx hb dX5_newSpeed_56 rfl (lv_at hl 1 rfl) ?_
    refine lv_icmp_le (tgt := 64) hx hb dX5_newSpeed_57 (by decide) (fun c_57_3 => ?_) (fun c_57_3 => ?_)
    · replace h := h.1 c_57_3
      refine lv_iload_n hx hb dX5_newSpeed_64 rfl (lv_at hl 0 rfl) ?_
      refine lv_iload_n hx hb dX5_newSpeed_65 rfl (lv_at hl 1 rfl) ?_
      refine lv_ineg hx hb dX5_newSpeed_66 ?_
      refine lv_icmp_ge (tgt := 75) hx hb dX5_newSpeed_67 (by decide) (fun c_67_4 => ?_) (fun c_67_4 => ?_)
      · replace h := h.1 c_67_4
        refine lv_iload_n hx hb dX5_newSpeed_75 rfl (lv_at hl 0 rfl) ?_
        refine lv_iadd hx hb dX5_newSpeed_76 ?_
        refine xr_iast hx hb hK.1 hP hD hS 1 0 rfl rfl 5 rfl (Nat.le_of_ble_eq_true rfl) (Nat.le_of_ble_eq_true rfl) dX5_newSpeed_77 (fun b_m_6 e_b_m_6 H locs hP hD hS => ?_)
        replace h := h b_m_6 e_b_m_6
        have hP : va_P g.1 vwCl (wM g q b_m_6 b_written b_spare b_spareWritten b_states b_fifth b_oldest b_stateCount b_text b_textLength b_at b_read b_columns b_told b_wants b_comes) H := hP
        have hD : va_D A (wM g q b_m_6 b_written b_spare b_spareWritten b_states b_fifth b_oldest b_stateCount b_text b_textLength b_at b_read b_columns b_told b_wants b_comes) := hD
        exact W.vret hx hb hr (fun t ht hW => ⟨⟨b_m_6, rfl, h, by rw [ht]; exact hP, hD⟩, hS.F ht⟩) hS.2.2 dX5_newSpeed_78
      · replace h := h.2 c_67_4
        refine lv_iload_n hx hb dX5_newSpeed_70 rfl (lv_at hl 1 rfl) ?_
        refine lv_ineg hx hb dX5_newSpeed_71 ?_
        refine lv_goto (tgt := 76) hx hb dX5_newSpeed_72 (by decide) ?_
        refine lv_iadd hx hb dX5_newSpeed_76 ?_
        refine xr_iast hx hb hK.1 hP hD hS 1 0 rfl rfl 5 rfl (Nat.le_of_ble_eq_true rfl) (Nat.le_of_ble_eq_true rfl) dX5_newSpeed_77 (fun b_m_7 e_b_m_7 H locs hP hD hS => ?_)
        replace h := h b_m_7 e_b_m_7
        have hP : va_P g.1 vwCl (wM g q b_m_7 b_written b_spare b_spareWritten b_states b_fifth b_oldest b_stateCount b_text b_textLength b_at b_read b_columns b_told b_wants b_comes) H := hP
        have hD : va_D A (wM g q b_m_7 b_written b_spare b_spareWritten b_states b_fifth b_oldest b_stateCount b_text b_textLength b_at b_read b_columns b_told b_wants b_comes) := hD
        exact W.vret hx hb hr (fun t ht hW => ⟨⟨b_m_7, rfl, h, by rw [ht]; exact hP, hD⟩, hS.F ht⟩) hS.2.2 dX5_newSpeed_78
    · replace h := h.2 c_57_3
      refine lv_iload_n hx hb dX5_newSpeed_60 rfl (lv_at hl 1 rfl) ?_
      refine lv_goto (tgt := 76) hx hb dX5_newSpeed_61 (by decide) ?_
      refine lv_iadd hx hb dX5_newSpeed_76 ?_
      refine xr_iast hx hb hK.1 hP hD hS 1 0 rfl rfl 5 rfl (Nat.le_of_ble_eq_true rfl) (Nat.le_of_ble_eq_true rfl) dX5_newSpeed_77 (fun b_m_8 e_b_m_8 H locs hP hD hS => ?_)
      replace h := h b_m_8 e_b_m_8
      have hP : va_P g.1 vwCl (wM g q b_m_8 b_written b_spare b_spareWritten b_states b_fifth b_oldest b_stateCount b_text b_textLength b_at b_read b_columns b_told b_wants b_comes) H := hP
      have hD : va_D A (wM g q b_m_8 b_written b_spare b_spareWritten b_states b_fifth b_oldest b_stateCount b_text b_textLength b_at b_read b_columns b_told b_wants b_comes) := hD
      exact W.vret hx hb hr (fun t ht hW => ⟨⟨b_m_8, rfl, h, by rw [ht]; exact hP, hD⟩, hS.F ht⟩) hS.2.2 dX5_newSpeed_78
  · replace h := h.2 c_13_0
    refine lv_aload_n hx hb dX5_newSpeed_16 rfl (lv_at hl 0 rfl) ?_
    refine va_get (D := g.1) (ci := 5) (v := .ref (q 1)) (C := RX5) (T := TX5) (N := 16) hx hb hts iX5 hown hK.1 hP 0 rfl rfl 0 (by decide) (hts (.fieldLink RX5 7 "LightWheelModel" "m" "[I") (by decide +kernel)) (fun _ h9 => h9) rfl dX5_newSpeed_17 ?_
    refine lv_iconst (v := (1 : Int32)) hx hb dX5_newSpeed_20 (by decide) ?_
    refine xr_iald hx hb hK.1 hP 1 0 rfl rfl 1 rfl (Nat.le_of_ble_eq_true rfl) (Nat.le_of_ble_eq_true rfl) dX5_newSpeed_21 ?_
    refine lv_iconst (v := (2 : Int32)) hx hb dX5_newSpeed_22 (by decide) ?_
    refine lv_idiv hx hb dX5_newSpeed_23 (by decide) ?_
    refine lv_goto (tgt := 33) hx hb dX5_newSpeed_24 (by decide) ?_
    refine lv_topi (fun v1_9 e_v1_9 => ?_)
    replace h := h v1_9 e_v1_9
    refine lv_istore_n (lv' := [(1, .int v1_9), (0, .ref (q 0))]) hx hb dX5_newSpeed_33 rfl hl (by decide) rfl (fun ls hl => ?_)
    refine lv_aload_n hx hb dX5_newSpeed_34 rfl (lv_at hl 1 rfl) ?_
    refine va_get (D := g.1) (ci := 5) (v := .ref (q 1)) (C := RX5) (T := TX5) (N := 16) hx hb hts iX5 hown hK.1 hP 0 rfl rfl 0 (by decide) (hts (.fieldLink RX5 7 "LightWheelModel" "m" "[I") (by decide +kernel)) (fun _ h9 => h9) rfl dX5_newSpeed_35 ?_
    refine lv_iconst (v := (0 : Int32)) hx hb dX5_newSpeed_38 (by decide) ?_
    refine xr_iald hx hb hK.1 hP 1 0 rfl rfl 0 rfl (Nat.le_of_ble_eq_true rfl) (Nat.le_of_ble_eq_true rfl) dX5_newSpeed_39 ?_
    refine lv_aload_n hx hb dX5_newSpeed_40 rfl (lv_at hl 1 rfl) ?_
    refine va_get (D := g.1) (ci := 5) (v := .ref (q 1)) (C := RX5) (T := TX5) (N := 16) hx hb hts iX5 hown hK.1 hP 0 rfl rfl 0 (by decide) (hts (.fieldLink RX5 7 "LightWheelModel" "m" "[I") (by decide +kernel)) (fun _ h9 => h9) rfl dX5_newSpeed_41 ?_
    refine lv_iconst (v := (5 : Int32)) hx hb dX5_newSpeed_44 (by decide) ?_
    refine xr_iald hx hb hK.1 hP 1 0 rfl rfl 5 rfl (Nat.le_of_ble_eq_true rfl) (Nat.le_of_ble_eq_true rfl) dX5_newSpeed_45 ?_
    refine lv_isub hx hb dX5_newSpeed_46 ?_
    refine lv_topi (fun v2_10 e_v2_10 => ?_)
    replace h := h v2_10 e_v2_10
    refine lv_istore_n (lv' := [(2, .int v2_10), (1, .int v1_9), (0, .ref (q 0))]) hx hb dX5_newSpeed_47 rfl hl (by decide) rfl (fun ls hl => ?_)
    refine lv_aload_n hx hb dX5_newSpeed_48 rfl (lv_at hl 2 rfl) ?_
    refine va_get (D := g.1) (ci := 5) (v := .ref (q 1)) (C := RX5) (T := TX5) (N := 16) hx hb hts iX5 hown hK.1 hP 0 rfl rfl 0 (by decide) (hts (.fieldLink RX5 7 "LightWheelModel" "m" "[I") (by decide +kernel)) (fun _ h9 => h9) rfl dX5_newSpeed_49 ?_
    refine lv_iconst (v := (5 : Int32)) hx hb dX5_newSpeed_52 (by decide) ?_
    refine lv_dup2_11 hx hb dX5_newSpeed_53 rfl rfl ?_
    refine xr_iald hx hb hK.1 hP 1 0 rfl rfl 5 rfl (Nat.le_of_ble_eq_true rfl) (Nat.le_of_ble_eq_true rfl) dX5_newSpeed_54 ?_
    refine lv_iload_n hx hb dX5_newSpeed_55 rfl (lv_at hl 0 rfl) ?_
    refine lv_iload_n hx hb dX5_newSpeed_56 rfl (lv_at hl 1 rfl) ?_
    refine lv_icmp_le (tgt := 64) hx hb dX5_newSpeed_57 (by decide) (fun c_57_10 => ?_) (fun c_57_10 => ?_)
    · replace h := h.1 c_57_10
      refine lv_iload_n hx hb dX5_newSpeed_64 rfl (lv_at hl 0 rfl) ?_
      refine lv_iload_n hx hb dX5_newSpeed_65 rfl (lv_at hl 1 rfl) ?_
      refine lv_ineg hx hb dX5_newSpeed_66 ?_
      refine lv_icmp_ge (tgt := 75) hx hb dX5_newSpeed_67 (by decide) (fun c_67_11 => ?_) (fun c_67_11 => ?_)
      · replace h := h.1 c_67_11
        refine lv_iload_n hx hb dX5_newSpeed_75 rfl (lv_at hl 0 rfl) ?_
        refine lv_iadd hx hb dX5_newSpeed_76 ?_
        refine xr_iast hx hb hK.1 hP hD hS 1 0 rfl rfl 5 rfl (Nat.le_of_ble_eq_true rfl) (Nat.le_of_ble_eq_true rfl) dX5_newSpeed_77 (fun b_m_13 e_b_m_13 H locs hP hD hS => ?_)
        replace h := h b_m_13 e_b_m_13
        have hP : va_P g.1 vwCl (wM g q b_m_13 b_written b_spare b_spareWritten b_states b_fifth b_oldest b_stateCount b_text b_textLength b_at b_read b_columns b_told b_wants b_comes) H := hP
        have hD : va_D A (wM g q b_m_13 b_written b_spare b_spareWritten b_states b_fifth b_oldest b_stateCount b_text b_textLength b_at b_read b_columns b_told b_wants b_comes) := hD
        exact W.vret hx hb hr (fun t ht hW => ⟨⟨b_m_13, rfl, h, by rw [ht]; exact hP, hD⟩, hS.F ht⟩) hS.2.2 dX5_newSpeed_78
      · replace h := h.2 c_67_11
        refine lv_iload_n hx hb dX5_newSpeed_70 rfl (lv_at hl 1 rfl) ?_
        refine lv_ineg hx hb dX5_newSpeed_71 ?_
        refine lv_goto (tgt := 76) hx hb dX5_newSpeed_72 (by decide) ?_
        refine lv_iadd hx hb dX5_newSpeed_76 ?_
        refine xr_iast hx hb hK.1 hP hD hS 1 0 rfl rfl 5 rfl (Nat.le_of_ble_eq_true rfl) (Nat.le_of_ble_eq_true rfl) dX5_newSpeed_77 (fun b_m_14 e_b_m_14 H locs hP hD hS => ?_)
        replace h := h b_m_14 e_b_m_14
        have hP : va_P g.1 vwCl (wM g q b_m_14 b_written b_spare b_spareWritten b_states b_fifth b_oldest b_stateCount b_text b_textLength b_at b_read b_columns b_told b_wants b_comes) H := hP
        have hD : va_D A (wM g q b_m_14 b_written b_spare b_spareWritten b_states b_fifth b_oldest b_stateCount b_text b_textLength b_at b_read b_columns b_told b_wants b_comes) := hD
        exact W.vret hx hb hr (fun t ht hW => ⟨⟨b_m_14, rfl, h, by rw [ht]; exact hP, hD⟩, hS.F ht⟩) hS.2.2 dX5_newSpeed_78
    · replace h := h.2 c_57_10
      refine lv_iload_n hx hb dX5_newSpeed_60 rfl (lv_at hl 1 rfl) ?_
      refine lv_goto (tgt := 76) hx hb dX5_newSpeed_61 (by decide) ?_
      refine lv_iadd hx hb dX5_newSpeed_76 ?_
      refine xr_iast hx hb hK.1 hP hD hS 1 0 rfl rfl 5 rfl (Nat.le_of_ble_eq_true rfl) (Nat.le_of_ble_eq_true rfl) dX5_newSpeed_77 (fun b_m_15 e_b_m_15 H locs hP hD hS => ?_)
      replace h := h b_m_15 e_b_m_15
      have hP : va_P g.1 vwCl (wM g q b_m_15 b_written b_spare b_spareWritten b_states b_fifth b_oldest b_stateCount b_text b_textLength b_at b_read b_columns b_told b_wants b_comes) H := hP
      have hD : va_D A (wM g q b_m_15 b_written b_spare b_spareWritten b_states b_fifth b_oldest b_stateCount b_text b_textLength b_at b_read b_columns b_told b_wants b_comes) := hD
      exact W.vret hx hb hr (fun t ht hW => ⟨⟨b_m_15, rfl, h, by rw [ht]; exact hP, hD⟩, hS.F ht⟩) hS.2.2 dX5_newSpeed_78
theorem hdX5_writes : yX5_writes.cls = RX5 ∧ yX5_writes.cls ≠ "java/lang/invoke/MethodHandle" ∧ yX5_writes.cls ≠ "java/lang/invoke/VarHandle" ∧ (parseMethodDescriptor yX5_writes.desc).map (fun d => d.parameters.length) = some 2 := by decide +kernel
set_option maxHeartbeats 4000000 in
set_option maxRecDepth 100000 in
theorem kX5_writes (l : Launch) (g : GG) (q : Nat → Nat) (sz : Nat) (b_m : Nat → Int32) (b_written : Nat → Int32) (b_spare : Nat → Int32) (b_spareWritten : Nat → Int32) (b_states : Nat → Int32) (b_fifth : Nat → Int32) (b_oldest : Int32) (b_stateCount : Int32) (b_text : Nat → Int32) (b_textLength : Int32) (b_at : Int32) (b_read : Nat → Int32) (b_columns : Int32) (b_told : Int32) (b_wants : Nat → Int32) (b_comes : Nat → Int32) (a_1 : Int32) (a_2 : Int32) (k : Int32 → (Nat → Int32) → Prop) (h : PX5_writes b_m b_written b_wants a_1 a_2 k) : Met l yX5_writes wsX5_writes ({ frames := 1, cells := 0, slots := 0, locals := 22 }) (PreM g [.ref (q 0), .int a_1, .int a_2] (wM g q b_m b_written b_spare b_spareWritten b_states b_fifth b_oldest b_stateCount b_text b_textLength b_at b_read b_columns b_told b_wants b_comes) sz) (va_Qi (fun (r : Int32) (u : (Nat → Int32)) => k r u) (fun u t => PostB g (va_A (wM g q b_m b_written b_spare b_spareWritten b_states b_fifth b_oldest b_stateCount b_text b_textLength b_at b_read b_columns b_told b_wants b_comes) sz) (wM g q b_m u b_spare b_spareWritten b_states b_fifth b_oldest b_stateCount b_text b_textLength b_at b_read b_columns b_told b_wants b_comes) t) (va_A (wM g q b_m b_written b_spare b_spareWritten b_states b_fifth b_oldest b_stateCount b_text b_textLength b_at b_read b_columns b_told b_wants b_comes) sz)) 0 0 (va_A (wM g q b_m b_written b_spare b_spareWritten b_states b_fifth b_oldest b_stateCount b_text b_textLength b_at b_read b_columns b_told b_wants b_comes) sz) := by
  refine Met.ofW (cc := cX5_writes) (maxL := 6) (ret := (some .int)) (by decide) rfl ?_
  intro p e s m args below meth c s₁ B hml hv
  obtain ⟨rfl, hsz, hP, hK, hD0⟩ := hv
  have hx := B.exec
  have hb := B.bytes
  have hr := B.returns
  have hts := atoms_spec (ws := wsX5_writes) B.pre
  have hown : s.vm.findClass RX5 = some m.cls := findClass_of_methodNamed B.named
  have hlocks := B.notSynchronized
  have iX5 : ∀ w ∈ wsX50, w ∈ wsX5_writes := by decide +kernel
  subst hsz
  have hD := hD0.self (sz := s.heap.size)
  generalize hAe : va_A (wM g q b_m b_written b_spare b_spareWritten b_states b_fifth b_oldest b_stateCount b_text b_textLength b_at b_read b_columns b_told b_wants b_comes) s.heap.size = A at hD ⊢
  have hA : ∀ q : Nat, s.heap.size ≤ q → A q := fun q h => by rw [← hAe]; exact Or.inr h
  clear hAe hD0
  have hS : va_S A s.heap s.heap [] := va_S.rf
  have hl := lv_entry ([.ref (q 0), .int a_1, .int a_2]) (n := 6) (Nat.le_of_ble_eq_true rfl)
  rw [lg_entry_eq]
  generalize (lg_sl ([.ref (q 0), .int a_1, .int a_2]) ++ List.replicate (6 - (lg_sl ([.ref (q 0), .int a_1, .int a_2])).length) Slot.unset).toArray = ls at hl ⊢
  have hl : lv_has ls 6 [(0, .ref (q 0)), (1, .int a_1), (2, .int a_2)] := hl
  unfold PX5_writes at h
  obtain ⟨H, hHe⟩ : ∃ y, y = s.heap := ⟨_, rfl⟩
  rw [← hHe] at hP
  have hS : va_S A s.heap H [] := by rw [hHe]; exact hS
  have hW0 : ∀ (Q : State → Prop), W p l e (headSpec wsX5_writes ({ frames := 1, cells := 0, slots := 0, locals := 22 })).room s m ([.ref (q 0), .int a_1, .int a_2] : List Value).toArray below meth c H [] 0 0 Q (F0 m 0 ls []) → W p l e (headSpec wsX5_writes ({ frames := 1, cells := 0, slots := 0, locals := 22 })).room s m ([.ref (q 0), .int a_1, .int a_2] : List Value).toArray below meth c s.heap [] 0 0 Q (F0 m 0 ls []) := by rw [hHe]; exact fun _ h9 => h9
  refine hW0 _ ?_
  clear hW0 hHe
  generalize ([] : List Loc) = locs at hS ⊢
  refine lv_iconst (v := (0 : Int32)) hx hb dX5_writes_0 (by decide) ?_
  refine lv_istore_n (lv' := [(3, .int (0 : Int32)), (0, .ref (q 0)), (1, .int a_1), (2, .int a_2)]) hx hb dX5_writes_1 rfl hl (by decide) rfl (fun ls hl => ?_)
  refine lv_iconst (v := (0 : Int32)) hx hb dX5_writes_2 (by decide) ?_
  refine lv_istore (lv' := [(4, .int (0 : Int32)), (3, .int (0 : Int32)), (0, .ref (q 0)), (1, .int a_1), (2, .int a_2)]) hx hb dX5_writes_3 hl (by decide) rfl (fun ls hl => ?_)
  have loop_1 : ∀ (kx_1 : Int32 → Int32 → (Nat → Int32) → Prop), (∀ (v3_1 : Int32) (v4_2 : Int32) (b_written_3 : Nat → Int32) (H : Heap) (locs : List Loc) (ls : Array Slot), kx_1 v3_1 v4_2 b_written_3 → va_P g.1 vwCl (wM g q b_m b_written_3 b_spare b_spareWritten b_states b_fifth b_oldest b_stateCount b_text b_textLength b_at b_read b_columns b_told b_wants b_comes) H → va_D A (wM g q b_m b_written_3 b_spare b_spareWritten b_states b_fifth b_oldest b_stateCount b_text b_textLength b_at b_read b_columns b_told b_wants b_comes) → va_S A s.heap H locs → lv_has ls 6 [(4, .int v4_2), (3, .int v3_1), (0, .ref (q 0)), (1, .int a_1), (2, .int a_2)] → W p l e (headSpec wsX5_writes ({ frames := 1, cells := 0, slots := 0, locals := 22 })).room s m ([.ref (q 0), .int a_1, .int a_2] : List Value).toArray below meth c H locs 0 0 (MQ below (va_Qi (fun (r : Int32) (u : (Nat → Int32)) => k r u) (fun u t => PostB g A (wM g q b_m u b_spare b_spareWritten b_states b_fifth b_oldest b_stateCount b_text b_textLength b_at b_read b_columns b_told b_wants b_comes) t) A) ([.ref (q 0), .int a_1, .int a_2] : List Value).toArray s 0 0 A) (F0 m 80 ls [])) → ∀ (n_1 : Nat) (v3_1 : Int32) (v4_2 : Int32) (b_written_3 : Nat → Int32) (H : Heap) (locs : List Loc) (ls : Array Slot), PX5_writes_L1 b_m b_wants a_1 a_2 kx_1 n_1 v3_1 v4_2 b_written_3 → va_P g.1 vwCl (wM g q b_m b_written_3 b_spare b_spareWritten b_states b_fifth b_oldest b_stateCount b_text b_textLength b_at b_read b_columns b_told b_wants b_comes) H → va_D A (wM g q b_m b_written_3 b_spare b_spareWritten b_states b_fifth b_oldest b_stateCount b_text b_textLength b_at b_read b_columns b_told b_wants b_comes) → va_S A s.heap H locs → lv_has ls 6 [(4, .int v4_2), (3, .int v3_1), (0, .ref (q 0)), (1, .int a_1), (2, .int a_2)] → W p l e (headSpec wsX5_writes ({ frames := 1, cells := 0, slots := 0, locals := 22 })).room s m ([.ref (q 0), .int a_1, .int a_2] : List Value).toArray below meth c H locs 0 0 (MQ below (va_Qi (fun (r : Int32) (u : (Nat → Int32)) => k r u) (fun u t => PostB g A (wM g q b_m u b_spare b_spareWritten b_states b_fifth b_oldest b_stateCount b_text b_textLength b_at b_read b_columns b_told b_wants b_comes) t) A) ([.ref (q 0), .int a_1, .int a_2] : List Value).toArray s 0 0 A) (F0 m 5 ls []) := by
    intro kx_1 hexit_1 n_1
    induction n_1 with
    | zero => exact fun _ _ _ _ _ _ h _ _ _ _ => (h : False).elim
    | succ n_1 ih_1 =>
      intro v3_1 v4_2 b_written_3 H locs ls h hP hD hS hl
      unfold PX5_writes_L1 at h
      refine lv_iload hx hb dX5_writes_5 (lv_at hl 0 rfl) ?_
      refine lv_bipush (v := (12 : Int32)) hx hb dX5_writes_7 (by decide) ?_
      refine lv_icmp_ge (tgt := 80) hx hb dX5_writes_9 (by decide) (fun c_9_3 => ?_) (fun c_9_3 => ?_)
      · replace h := h.1 c_9_3
        exact hexit_1 v3_1 v4_2 b_written_3 H locs ls h hP hD hS (lv_sub hl [0, 1, 2, 3, 4] rfl)
      · replace h := h.2 c_9_3
        refine lv_aload_n hx hb dX5_writes_12 rfl (lv_at hl 2 rfl) ?_
        refine lv_iload_n hx hb dX5_writes_13 rfl (lv_at hl 3 rfl) ?_
        refine lv_iload hx hb dX5_writes_14 (lv_at hl 0 rfl) ?_
        refine vp_callSi (W.runV (As := [.int a_1, .int v4_2]) (rest := []) ⟨hx, hb, hml, hown, hts⟩ (kX5_isBroken l g q b_m b_written_3 b_spare b_spareWritten b_states b_fifth b_oldest b_stateCount b_text b_textLength b_at b_read b_columns b_told b_wants b_comes a_1 v4_2 _ h) (cwV 2 hts gX5_writes_X5_isBroken rfl rfl rfl hdX5_isBroken ⟨(Nat.le_of_ble_eq_true rfl), (Nat.le_of_ble_eq_true rfl)⟩) (preV_R (r := (RX5, TX5, 16)) hK hP (ci := 5) (q0 := 0) rfl rfl) rfl rfl hl.1 rfl (lv_room (Nat.le_of_ble_eq_true rfl)) dX5_writes_16 ⟨(Nat.le_of_ble_eq_true rfl), (Nat.le_of_ble_eq_true rfl)⟩) (fun r16_5 h => ?_)
        refine lv_if_ne (tgt := 74) hx hb dX5_writes_19 (by decide) (fun c_19_5 => ?_) (fun c_19_5 => ?_)
        · replace h := h.1 c_19_5
          obtain ⟨v4_7, e_v4_7⟩ : ∃ y : Int32, y = v4_2 + (1 : Int32) := ⟨_, rfl⟩
          replace h := h v4_7 e_v4_7
          refine lv_iinc (v := v4_7) (lv' := [(4, .int v4_7), (3, .int v3_1), (0, .ref (q 0)), (1, .int a_1), (2, .int a_2)]) hx hb dX5_writes_74 hl (k := 0) rfl (by rw [e_v4_7]; rfl) (by decide) rfl (fun ls hl => ?_)
          refine lv_goto (tgt := 5) hx hb dX5_writes_77 (by decide) ?_
          exact ih_1 v3_1 v4_7 b_written_3 H locs ls h hP hD hS (lv_sub hl [0, 1, 2, 3, 4] rfl)
        · replace h := h.2 c_19_5
          refine lv_aload_n hx hb dX5_writes_22 rfl (lv_at hl 2 rfl) ?_
          refine va_get (D := g.1) (ci := 5) (v := .ref (q 9)) (C := RX5) (T := TX5) (N := 16) hx hb hts iX5 hown hK.1 hP 0 rfl rfl 14 (by decide) (hts (.fieldLink RX5 34 "LightWheelModel" "wants" "[I") (by decide +kernel)) (fun _ h9 => h9) rfl dX5_writes_23 ?_
          refine lv_bipush (v := (12 : Int32)) hx hb dX5_writes_26 (by decide) ?_
          refine lv_iload_n hx hb dX5_writes_28 rfl (lv_at hl 4 rfl) ?_
          refine lv_imul hx hb dX5_writes_29 ?_
          refine lv_iload hx hb dX5_writes_30 (lv_at hl 0 rfl) ?_
          refine lv_iadd hx hb dX5_writes_32 ?_
          have o_33_7 := h.1
          replace h := h.2
          refine va_iald hx hb hK.1 hP 9 0 rfl rfl o_33_7 dX5_writes_33 ?_
          refine lv_topi (fun v5_9 e_v5_9 => ?_)
          replace h := h v5_9 e_v5_9
          refine lv_istore (lv' := [(5, .int v5_9), (4, .int v4_2), (3, .int v3_1), (0, .ref (q 0)), (1, .int a_1), (2, .int a_2)]) hx hb dX5_writes_34 hl (by decide) rfl (fun ls hl => ?_)
          refine lv_aload_n hx hb dX5_writes_36 rfl (lv_at hl 3 rfl) ?_
          refine va_get (D := g.1) (ci := 5) (v := .ref (q 2)) (C := RX5) (T := TX5) (N := 16) hx hb hts iX5 hown hK.1 hP 0 rfl rfl 1 (by decide) (hts (.fieldLink RX5 13 "LightWheelModel" "written" "[I") (by decide +kernel)) (fun _ h9 => h9) rfl dX5_writes_37 ?_
          refine lv_bipush (v := (12 : Int32)) hx hb dX5_writes_40 (by decide) ?_
          refine lv_iload_n hx hb dX5_writes_42 rfl (lv_at hl 5 rfl) ?_
          refine lv_imul hx hb dX5_writes_43 ?_
          refine lv_iload hx hb dX5_writes_44 (lv_at hl 1 rfl) ?_
          refine lv_iadd hx hb dX5_writes_46 ?_
          refine lv_bipush (v := (8 : Int32)) hx hb dX5_writes_47 (by decide) ?_
          refine lv_aload_n hx hb dX5_writes_49 rfl (lv_at hl 3 rfl) ?_
          refine va_get (D := g.1) (ci := 5) (v := .ref (q 1)) (C := RX5) (T := TX5) (N := 16) hx hb hts iX5 hown hK.1 hP 0 rfl rfl 0 (by decide) (hts (.fieldLink RX5 7 "LightWheelModel" "m" "[I") (by decide +kernel)) (fun _ h9 => h9) rfl dX5_writes_50 ?_
          refine lv_bipush (v := (6 : Int32)) hx hb dX5_writes_53 (by decide) ?_
          refine xr_iald hx hb hK.1 hP 1 0 rfl rfl 6 rfl (Nat.le_of_ble_eq_true rfl) (Nat.le_of_ble_eq_true rfl) dX5_writes_55 ?_
          refine lv_imul hx hb dX5_writes_56 ?_
          refine lv_iload hx hb dX5_writes_57 (lv_at hl 0 rfl) ?_
          refine lv_iadd hx hb dX5_writes_59 ?_
          have o_60_9 := h.1
          replace h := h.2
          refine xs_iast hx hb hK.1 hP hD hS 2 0 rfl rfl o_60_9 dX5_writes_60 (fun b_written_11 e_b_written_11 H locs hP hD hS => ?_)
          replace h := h b_written_11 e_b_written_11
          have hP : va_P g.1 vwCl (wM g q b_m b_written_11 b_spare b_spareWritten b_states b_fifth b_oldest b_stateCount b_text b_textLength b_at b_read b_columns b_told b_wants b_comes) H := hP
          have hD : va_D A (wM g q b_m b_written_11 b_spare b_spareWritten b_states b_fifth b_oldest b_stateCount b_text b_textLength b_at b_read b_columns b_told b_wants b_comes) := hD
          refine lv_iload_n hx hb dX5_writes_61 rfl (lv_at hl 2 rfl) ?_
          refine lv_iload hx hb dX5_writes_62 (lv_at hl 0 rfl) ?_
          refine lv_if_ne (tgt := 71) hx hb dX5_writes_64 (by decide) (fun c_64_11 => ?_) (fun c_64_11 => ?_)
          · replace h := h.1 c_64_11
            refine lv_iconst (v := (1 : Int32)) hx hb dX5_writes_71 (by decide) ?_
            refine lv_iadd hx hb dX5_writes_72 ?_
            refine lv_topi (fun v3_13 e_v3_13 => ?_)
            replace h := h v3_13 e_v3_13
            refine lv_istore_n (lv' := [(3, .int v3_13), (5, .int v5_9), (4, .int v4_2), (0, .ref (q 0)), (1, .int a_1), (2, .int a_2)]) hx hb dX5_writes_73 rfl hl (by decide) rfl (fun ls hl => ?_)
            obtain ⟨v4_14, e_v4_14⟩ : ∃ y : Int32, y = v4_2 + (1 : Int32) := ⟨_, rfl⟩
            replace h := h v4_14 e_v4_14
            refine lv_iinc (v := v4_14) (lv' := [(4, .int v4_14), (3, .int v3_13), (5, .int v5_9), (0, .ref (q 0)), (1, .int a_1), (2, .int a_2)]) hx hb dX5_writes_74 hl (k := 2) rfl (by rw [e_v4_14]; rfl) (by decide) rfl (fun ls hl => ?_)
            refine lv_goto (tgt := 5) hx hb dX5_writes_77 (by decide) ?_
            exact ih_1 v3_13 v4_14 b_written_11 H locs ls h hP hD hS (lv_sub hl [0, 1, 3, 4, 5] rfl)
          · replace h := h.2 c_64_11
            refine lv_iconst (v := (0 : Int32)) hx hb dX5_writes_67 (by decide) ?_
            refine lv_goto (tgt := 72) hx hb dX5_writes_68 (by decide) ?_
            refine lv_iadd hx hb dX5_writes_72 ?_
            refine lv_topi (fun v3_15 e_v3_15 => ?_)
            replace h := h v3_15 e_v3_15
            refine lv_istore_n (lv' := [(3, .int v3_15), (5, .int v5_9), (4, .int v4_2), (0, .ref (q 0)), (1, .int a_1), (2, .int a_2)]) hx hb dX5_writes_73 rfl hl (by decide) rfl (fun ls hl => ?_)
            obtain ⟨v4_16, e_v4_16⟩ : ∃ y : Int32, y = v4_2 + (1 : Int32) := ⟨_, rfl⟩
            replace h := h v4_16 e_v4_16
            refine lv_iinc (v := v4_16) (lv' := [(4, .int v4_16), (3, .int v3_15), (5, .int v5_9), (0, .ref (q 0)), (1, .int a_1), (2, .int a_2)]) hx hb dX5_writes_74 hl (k := 2) rfl (by rw [e_v4_16]; rfl) (by decide) rfl (fun ls hl => ?_)
            refine lv_goto (tgt := 5) hx hb dX5_writes_77 (by decide) ?_
            exact ih_1 v3_15 v4_16 b_written_11 H locs ls h hP hD hS (lv_sub hl [0, 1, 3, 4, 5] rfl)
  obtain ⟨n_1, h⟩ := h
  refine loop_1 _ ?_ n_1 (0 : Int32) (0 : Int32) b_written _ _ ls h hP hD hS (lv_sub hl [0, 1, 2, 3, 4] rfl)
  intro v3_1 v4_2 b_written_3 H locs ls h hP hD hS hl
  refine lv_iload_n hx hb dX5_writes_80 rfl (lv_at hl 1 rfl) ?_
  exact W.iret hx hb hr (fun t ht hW => ⟨⟨v3_1, b_written_3, rfl, h, by rw [ht]; exact hP, hD⟩, hS.F ht⟩) hS.2.2 dX5_writes_81
theorem hdX5_tick : yX5_tick.cls = RX5 ∧ yX5_tick.cls ≠ "java/lang/invoke/MethodHandle" ∧ yX5_tick.cls ≠ "java/lang/invoke/VarHandle" ∧ (parseMethodDescriptor yX5_tick.desc).map (fun d => d.parameters.length) = some 0 := by decide +kernel
set_option maxHeartbeats 4000000 in
set_option maxRecDepth 100000 in
theorem kX5_tick (l : Launch) (g : GG) (q : Nat → Nat) (sz : Nat) (b_m : Nat → Int32) (b_written : Nat → Int32) (b_spare : Nat → Int32) (b_spareWritten : Nat → Int32) (b_states : Nat → Int32) (b_fifth : Nat → Int32) (b_oldest : Int32) (b_stateCount : Int32) (b_text : Nat → Int32) (b_textLength : Int32) (b_at : Int32) (b_read : Nat → Int32) (b_columns : Int32) (b_told : Int32) (b_wants : Nat → Int32) (b_comes : Nat → Int32)  (k : (Nat → Int32) → (Nat → Int32) → Prop) (h : PX5_tick b_m b_written b_wants  k) : Met l yX5_tick wsX5_tick ({ frames := 2, cells := 0, slots := 0, locals := 47 }) (PreM g [.ref (q 0)] (wM g q b_m b_written b_spare b_spareWritten b_states b_fifth b_oldest b_stateCount b_text b_textLength b_at b_read b_columns b_told b_wants b_comes) sz) (va_Qv (fun u : (Nat → Int32) × (Nat → Int32) => k u.1 u.2) (fun u t => PostB g (va_A (wM g q b_m b_written b_spare b_spareWritten b_states b_fifth b_oldest b_stateCount b_text b_textLength b_at b_read b_columns b_told b_wants b_comes) sz) (wM g q u.1 u.2 b_spare b_spareWritten b_states b_fifth b_oldest b_stateCount b_text b_textLength b_at b_read b_columns b_told b_wants b_comes) t) (va_A (wM g q b_m b_written b_spare b_spareWritten b_states b_fifth b_oldest b_stateCount b_text b_textLength b_at b_read b_columns b_told b_wants b_comes) sz)) 0 0 (va_A (wM g q b_m b_written b_spare b_spareWritten b_states b_fifth b_oldest b_stateCount b_text b_textLength b_at b_read b_columns b_told b_wants b_comes) sz) := by
  refine Met.ofW (cc := cX5_tick) (maxL := 3) (ret := none) (by decide) rfl ?_
  intro p e s m args below meth c s₁ B hml hv
  obtain ⟨rfl, hsz, hP, hK, hD0⟩ := hv
  have hx := B.exec
  have hb := B.bytes
  have hr := B.returns
  have hts := atoms_spec (ws := wsX5_tick) B.pre
  have hown : s.vm.findClass RX5 = some m.cls := findClass_of_methodNamed B.named
  have hlocks := B.notSynchronized
  have iX5 : ∀ w ∈ wsX50, w ∈ wsX5_tick := by decide +kernel
  subst hsz
  have hD := hD0.self (sz := s.heap.size)
  generalize hAe : va_A (wM g q b_m b_written b_spare b_spareWritten b_states b_fifth b_oldest b_stateCount b_text b_textLength b_at b_read b_columns b_told b_wants b_comes) s.heap.size = A at hD ⊢
  have hA : ∀ q : Nat, s.heap.size ≤ q → A q := fun q h => by rw [← hAe]; exact Or.inr h
  clear hAe hD0
  have hS : va_S A s.heap s.heap [] := va_S.rf
  have hl := lv_entry ([.ref (q 0)]) (n := 3) (Nat.le_of_ble_eq_true rfl)
  rw [lg_entry_eq]
  generalize (lg_sl ([.ref (q 0)]) ++ List.replicate (3 - (lg_sl ([.ref (q 0)])).length) Slot.unset).toArray = ls at hl ⊢
  have hl : lv_has ls 3 [(0, .ref (q 0))] := hl
  unfold PX5_tick at h
  obtain ⟨H, hHe⟩ : ∃ y, y = s.heap := ⟨_, rfl⟩
  rw [← hHe] at hP
  have hS : va_S A s.heap H [] := by rw [hHe]; exact hS
  have hW0 : ∀ (Q : State → Prop), W p l e (headSpec wsX5_tick ({ frames := 2, cells := 0, slots := 0, locals := 47 })).room s m ([.ref (q 0)] : List Value).toArray below meth c H [] 0 0 Q (F0 m 0 ls []) → W p l e (headSpec wsX5_tick ({ frames := 2, cells := 0, slots := 0, locals := 47 })).room s m ([.ref (q 0)] : List Value).toArray below meth c s.heap [] 0 0 Q (F0 m 0 ls []) := by rw [hHe]; exact fun _ h9 => h9
  refine hW0 _ ?_
  clear hW0 hHe
  generalize ([] : List Loc) = locs at hS ⊢
  refine lv_aload_n hx hb dX5_tick_0 rfl (lv_at hl 0 rfl) ?_
  have hFc := va_freeA hD hS hA
  refine va_callv (va_runV (As := []) (rest := []) ⟨hx, hb, hml, hown, hts⟩ (kX5_newSpeed l g q H.size b_m b_written b_spare b_spareWritten b_states b_fifth b_oldest b_stateCount b_text b_textLength b_at b_read b_columns b_told b_wants b_comes _ h) (cwV 0 hts gX5_tick_X5_newSpeed rfl rfl rfl hdX5_newSpeed ⟨(Nat.le_of_ble_eq_true rfl), (Nat.le_of_ble_eq_true rfl)⟩) (preV_M (r := (RX5, TX5, 16)) hK hP hD (ci := 5) (q0 := 0) rfl rfl) rfl rfl hl.1 rfl (lv_room (Nat.le_of_ble_eq_true rfl)) dX5_tick_1 ⟨(Nat.le_of_ble_eq_true rfl), (Nat.le_of_ble_eq_true rfl)⟩) hS (fun q _ h9 => hFc q h9) hFc (fun u t H1 locs ht hvm hw hB hz1 hk1 hS => ?_)
  obtain ⟨b_m_1, ez9⟩ : ∃ y, y = u := ⟨_, rfl⟩
  subst ez9
  replace h := hw
  try dsimp only at h
  obtain ⟨hP, hD⟩ := jn0 (wf := (wM g q b_m_1 b_written b_spare b_spareWritten b_states b_fifth b_oldest b_stateCount b_text b_textLength b_at b_read b_columns b_told b_wants b_comes)) hB ht hFc
  have hP : va_P g.1 vwCl (wM g q b_m_1 b_written b_spare b_spareWritten b_states b_fifth b_oldest b_stateCount b_text b_textLength b_at b_read b_columns b_told b_wants b_comes) H1 := hP
  have hD : va_D A (wM g q b_m_1 b_written b_spare b_spareWritten b_states b_fifth b_oldest b_stateCount b_text b_textLength b_at b_read b_columns b_told b_wants b_comes) := hD
  clear hk1 hz1 hB ht hw hFc
  generalize H1 = H at hP hS ⊢
  refine lv_aload_n hx hb dX5_tick_4 rfl (lv_at hl 0 rfl) ?_
  refine va_get (D := g.1) (ci := 5) (v := .ref (q 1)) (C := RX5) (T := TX5) (N := 16) hx hb hts iX5 hown hK.1 hP 0 rfl rfl 0 (by decide) (hts (.fieldLink RX5 7 "LightWheelModel" "m" "[I") (by decide +kernel)) (fun _ h9 => h9) rfl dX5_tick_5 ?_
  refine lv_bipush (v := (6 : Int32)) hx hb dX5_tick_8 (by decide) ?_
  refine lv_dup2_11 hx hb dX5_tick_10 rfl rfl ?_
  refine xr_iald hx hb hK.1 hP 1 0 rfl rfl 6 rfl (Nat.le_of_ble_eq_true rfl) (Nat.le_of_ble_eq_true rfl) dX5_tick_11 ?_
  refine lv_iconst (v := (1 : Int32)) hx hb dX5_tick_12 (by decide) ?_
  refine lv_iadd hx hb dX5_tick_13 ?_
  refine xr_iast hx hb hK.1 hP hD hS 1 0 rfl rfl 6 rfl (Nat.le_of_ble_eq_true rfl) (Nat.le_of_ble_eq_true rfl) dX5_tick_14 (fun b_m_2 e_b_m_2 H locs hP hD hS => ?_)
  replace h := h b_m_2 e_b_m_2
  have hP : va_P g.1 vwCl (wM g q b_m_2 b_written b_spare b_spareWritten b_states b_fifth b_oldest b_stateCount b_text b_textLength b_at b_read b_columns b_told b_wants b_comes) H := hP
  have hD : va_D A (wM g q b_m_2 b_written b_spare b_spareWritten b_states b_fifth b_oldest b_stateCount b_text b_textLength b_at b_read b_columns b_told b_wants b_comes) := hD
  refine lv_aload_n hx hb dX5_tick_15 rfl (lv_at hl 0 rfl) ?_
  refine va_get (D := g.1) (ci := 5) (v := .ref (q 1)) (C := RX5) (T := TX5) (N := 16) hx hb hts iX5 hown hK.1 hP 0 rfl rfl 0 (by decide) (hts (.fieldLink RX5 7 "LightWheelModel" "m" "[I") (by decide +kernel)) (fun _ h9 => h9) rfl dX5_tick_16 ?_
  refine lv_bipush (v := (7 : Int32)) hx hb dX5_tick_19 (by decide) ?_
  refine lv_iconst (v := (0 : Int32)) hx hb dX5_tick_21 (by decide) ?_
  refine xr_iast hx hb hK.1 hP hD hS 1 0 rfl rfl 7 rfl (Nat.le_of_ble_eq_true rfl) (Nat.le_of_ble_eq_true rfl) dX5_tick_22 (fun b_m_3 e_b_m_3 H locs hP hD hS => ?_)
  replace h := h b_m_3 e_b_m_3
  have hP : va_P g.1 vwCl (wM g q b_m_3 b_written b_spare b_spareWritten b_states b_fifth b_oldest b_stateCount b_text b_textLength b_at b_read b_columns b_told b_wants b_comes) H := hP
  have hD : va_D A (wM g q b_m_3 b_written b_spare b_spareWritten b_states b_fifth b_oldest b_stateCount b_text b_textLength b_at b_read b_columns b_told b_wants b_comes) := hD
  refine lv_aload_n hx hb dX5_tick_23 rfl (lv_at hl 0 rfl) ?_
  refine va_get (D := g.1) (ci := 5) (v := .ref (q 1)) (C := RX5) (T := TX5) (N := 16) hx hb hts iX5 hown hK.1 hP 0 rfl rfl 0 (by decide) (hts (.fieldLink RX5 7 "LightWheelModel" "m" "[I") (by decide +kernel)) (fun _ h9 => h9) rfl dX5_tick_24 ?_
  refine lv_iconst (v := (5 : Int32)) hx hb dX5_tick_27 (by decide) ?_
  refine xr_iald hx hb hK.1 hP 1 0 rfl rfl 5 rfl (Nat.le_of_ble_eq_true rfl) (Nat.le_of_ble_eq_true rfl) dX5_tick_28 ?_
  have tail_1 : ∀ (t_4 : Int32) (H : Heap) (locs : List Loc) (ls : Array Slot), PX5_tick_J1 b_written b_wants k b_m_3 t_4 → va_P g.1 vwCl (wM g q b_m_3 b_written b_spare b_spareWritten b_states b_fifth b_oldest b_stateCount b_text b_textLength b_at b_read b_columns b_told b_wants b_comes) H → va_D A (wM g q b_m_3 b_written b_spare b_spareWritten b_states b_fifth b_oldest b_stateCount b_text b_textLength b_at b_read b_columns b_told b_wants b_comes) → va_S A s.heap H locs → lv_has ls 3 [(0, .ref (q 0))] → W p l e (headSpec wsX5_tick ({ frames := 2, cells := 0, slots := 0, locals := 47 })).room s m ([.ref (q 0)] : List Value).toArray below meth c H locs 0 0 (MQ below (va_Qv (fun u : (Nat → Int32) × (Nat → Int32) => k u.1 u.2) (fun u t => PostB g A (wM g q u.1 u.2 b_spare b_spareWritten b_states b_fifth b_oldest b_stateCount b_text b_textLength b_at b_read b_columns b_told b_wants b_comes) t) A) ([.ref (q 0)] : List Value).toArray s 0 0 A) (F0 m 37 ls [.int t_4]) := by
    intro t_4 H locs ls h hP hD hS hl
    unfold PX5_tick_J1 at h
    refine lv_istore_n (lv' := [(1, .int t_4), (0, .ref (q 0))]) hx hb dX5_tick_37 rfl hl (by decide) rfl (fun ls hl => ?_)
    refine lv_aload_n hx hb dX5_tick_38 rfl (lv_at hl 1 rfl) ?_
    refine va_get (D := g.1) (ci := 5) (v := .ref (q 1)) (C := RX5) (T := TX5) (N := 16) hx hb hts iX5 hown hK.1 hP 0 rfl rfl 0 (by decide) (hts (.fieldLink RX5 7 "LightWheelModel" "m" "[I") (by decide +kernel)) (fun _ h9 => h9) rfl dX5_tick_39 ?_
    refine lv_iconst (v := (5 : Int32)) hx hb dX5_tick_42 (by decide) ?_
    refine xr_iald hx hb hK.1 hP 1 0 rfl rfl 5 rfl (Nat.le_of_ble_eq_true rfl) (Nat.le_of_ble_eq_true rfl) dX5_tick_43 ?_
    refine vp_callSi (W.runS (As := [.int (b_m_3 5)]) (rest := []) ⟨hx, hb, hml, hown, hts⟩ (kX5_size l g  (b_m_3 5) _ h) (va_cwS 1 hts gX5_tick_X5_size rfl rfl rfl hdX5_size.2 ⟨(Nat.le_of_ble_eq_true rfl), (Nat.le_of_ble_eq_true rfl)⟩) (preS_R hK (va_P_nil (D := g.1) (cl := vwCl))) rfl rfl hl.1 rfl (lv_room (Nat.le_of_ble_eq_true rfl)) dX5_tick_44 ⟨(Nat.le_of_ble_eq_true rfl), (Nat.le_of_ble_eq_true rfl)⟩) (fun r44_5 h => ?_)
    refine lv_istore_n (lv' := [(2, .int r44_5), (1, .int t_4), (0, .ref (q 0))]) hx hb dX5_tick_47 rfl hl (by decide) rfl (fun ls hl => ?_)
    have loop_2 : ∀ (kx_2 : Int32 → (Nat → Int32) → (Nat → Int32) → Prop), (∀ (v2_6 : Int32) (b_m_7 : Nat → Int32) (b_written_8 : Nat → Int32) (H : Heap) (locs : List Loc) (ls : Array Slot), kx_2 v2_6 b_m_7 b_written_8 → va_P g.1 vwCl (wM g q b_m_7 b_written_8 b_spare b_spareWritten b_states b_fifth b_oldest b_stateCount b_text b_textLength b_at b_read b_columns b_told b_wants b_comes) H → va_D A (wM g q b_m_7 b_written_8 b_spare b_spareWritten b_states b_fifth b_oldest b_stateCount b_text b_textLength b_at b_read b_columns b_told b_wants b_comes) → va_S A s.heap H locs → lv_has ls 3 [(2, .int v2_6), (1, .int t_4), (0, .ref (q 0))] → W p l e (headSpec wsX5_tick ({ frames := 2, cells := 0, slots := 0, locals := 47 })).room s m ([.ref (q 0)] : List Value).toArray below meth c H locs 0 0 (MQ below (va_Qv (fun u : (Nat → Int32) × (Nat → Int32) => k u.1 u.2) (fun u t => PostB g A (wM g q u.1 u.2 b_spare b_spareWritten b_states b_fifth b_oldest b_stateCount b_text b_textLength b_at b_read b_columns b_told b_wants b_comes) t) A) ([.ref (q 0)] : List Value).toArray s 0 0 A) (F0 m 139 ls [])) → ∀ (n_2 : Nat) (v2_6 : Int32) (b_m_7 : Nat → Int32) (b_written_8 : Nat → Int32) (H : Heap) (locs : List Loc) (ls : Array Slot), PX5_tick_L2 b_wants t_4 kx_2 n_2 v2_6 b_m_7 b_written_8 → va_P g.1 vwCl (wM g q b_m_7 b_written_8 b_spare b_spareWritten b_states b_fifth b_oldest b_stateCount b_text b_textLength b_at b_read b_columns b_told b_wants b_comes) H → va_D A (wM g q b_m_7 b_written_8 b_spare b_spareWritten b_states b_fifth b_oldest b_stateCount b_text b_textLength b_at b_read b_columns b_told b_wants b_comes) → va_S A s.heap H locs → lv_has ls 3 [(2, .int v2_6), (1, .int t_4), (0, .ref (q 0))] → W p l e (headSpec wsX5_tick ({ frames := 2, cells := 0, slots := 0, locals := 47 })).room s m ([.ref (q 0)] : List Value).toArray below meth c H locs 0 0 (MQ below (va_Qv (fun u : (Nat → Int32) × (Nat → Int32) => k u.1 u.2) (fun u t => PostB g A (wM g q u.1 u.2 b_spare b_spareWritten b_states b_fifth b_oldest b_stateCount b_text b_textLength b_at b_read b_columns b_told b_wants b_comes) t) A) ([.ref (q 0)] : List Value).toArray s 0 0 A) (F0 m 48 ls []) := by
      intro kx_2 hexit_2 n_2
      induction n_2 with
      | zero => exact fun _ _ _ _ _ _ h _ _ _ _ => (h : False).elim
      | succ n_2 ih_2 =>
        intro v2_6 b_m_7 b_written_8 H locs ls h hP hD hS hl
        unfold PX5_tick_L2 at h
        refine lv_iload_n hx hb dX5_tick_48 rfl (lv_at hl 0 rfl) ?_
        refine lv_if_le (tgt := 139) hx hb dX5_tick_49 (by decide) (fun c_49_8 => ?_) (fun c_49_8 => ?_)
        · replace h := h.1 c_49_8
          exact hexit_2 v2_6 b_m_7 b_written_8 H locs ls h hP hD hS (lv_sub hl [0, 1, 2] rfl)
        · replace h := h.2 c_49_8
          refine lv_aload_n hx hb dX5_tick_52 rfl (lv_at hl 2 rfl) ?_
          refine va_get (D := g.1) (ci := 5) (v := .ref (q 1)) (C := RX5) (T := TX5) (N := 16) hx hb hts iX5 hown hK.1 hP 0 rfl rfl 0 (by decide) (hts (.fieldLink RX5 7 "LightWheelModel" "m" "[I") (by decide +kernel)) (fun _ h9 => h9) rfl dX5_tick_53 ?_
          refine lv_iconst (v := (4 : Int32)) hx hb dX5_tick_56 (by decide) ?_
          refine lv_aload_n hx hb dX5_tick_57 rfl (lv_at hl 2 rfl) ?_
          refine va_get (D := g.1) (ci := 5) (v := .ref (q 1)) (C := RX5) (T := TX5) (N := 16) hx hb hts iX5 hown hK.1 hP 0 rfl rfl 0 (by decide) (hts (.fieldLink RX5 7 "LightWheelModel" "m" "[I") (by decide +kernel)) (fun _ h9 => h9) rfl dX5_tick_58 ?_
          refine lv_iconst (v := (4 : Int32)) hx hb dX5_tick_61 (by decide) ?_
          refine xr_iald hx hb hK.1 hP 1 0 rfl rfl 4 rfl (Nat.le_of_ble_eq_true rfl) (Nat.le_of_ble_eq_true rfl) dX5_tick_62 ?_
          refine lv_iload_n hx hb dX5_tick_63 rfl (lv_at hl 1 rfl) ?_
          refine lv_iadd hx hb dX5_tick_64 ?_
          refine vp_callSi (W.runS (As := [.int ((b_m_7 4) + t_4)]) (rest := [.int (4 : Int32), .ref (q 1)]) ⟨hx, hb, hml, hown, hts⟩ (kX5_around l g  ((b_m_7 4) + t_4) _ h) (va_cwS 1 hts gX5_tick_X5_around rfl rfl rfl hdX5_around.2 ⟨(Nat.le_of_ble_eq_true rfl), (Nat.le_of_ble_eq_true rfl)⟩) (preS_R hK (va_P_nil (D := g.1) (cl := vwCl))) rfl rfl hl.1 rfl (lv_room (Nat.le_of_ble_eq_true rfl)) dX5_tick_65 ⟨(Nat.le_of_ble_eq_true rfl), (Nat.le_of_ble_eq_true rfl)⟩) (fun r65_10 h => ?_)
          refine xr_iast hx hb hK.1 hP hD hS 1 0 rfl rfl 4 rfl (Nat.le_of_ble_eq_true rfl) (Nat.le_of_ble_eq_true rfl) dX5_tick_68 (fun b_m_11 e_b_m_11 H locs hP hD hS => ?_)
          replace h := h b_m_11 e_b_m_11
          have hP : va_P g.1 vwCl (wM g q b_m_11 b_written_8 b_spare b_spareWritten b_states b_fifth b_oldest b_stateCount b_text b_textLength b_at b_read b_columns b_told b_wants b_comes) H := hP
          have hD : va_D A (wM g q b_m_11 b_written_8 b_spare b_spareWritten b_states b_fifth b_oldest b_stateCount b_text b_textLength b_at b_read b_columns b_told b_wants b_comes) := hD
          refine lv_aload_n hx hb dX5_tick_69 rfl (lv_at hl 2 rfl) ?_
          refine va_get (D := g.1) (ci := 5) (v := .ref (q 1)) (C := RX5) (T := TX5) (N := 16) hx hb hts iX5 hown hK.1 hP 0 rfl rfl 0 (by decide) (hts (.fieldLink RX5 7 "LightWheelModel" "m" "[I") (by decide +kernel)) (fun _ h9 => h9) rfl dX5_tick_70 ?_
          refine lv_bipush (v := (7 : Int32)) hx hb dX5_tick_73 (by decide) ?_
          refine lv_dup2_11 hx hb dX5_tick_75 rfl rfl ?_
          refine xr_iald hx hb hK.1 hP 1 0 rfl rfl 7 rfl (Nat.le_of_ble_eq_true rfl) (Nat.le_of_ble_eq_true rfl) dX5_tick_76 ?_
          refine lv_aload_n hx hb dX5_tick_77 rfl (lv_at hl 2 rfl) ?_
          refine lv_iconst (v := (0 : Int32)) hx hb dX5_tick_78 (by decide) ?_
          refine lv_aload_n hx hb dX5_tick_79 rfl (lv_at hl 2 rfl) ?_
          refine va_get (D := g.1) (ci := 5) (v := .ref (q 1)) (C := RX5) (T := TX5) (N := 16) hx hb hts iX5 hown hK.1 hP 0 rfl rfl 0 (by decide) (hts (.fieldLink RX5 7 "LightWheelModel" "m" "[I") (by decide +kernel)) (fun _ h9 => h9) rfl dX5_tick_80 ?_
          refine lv_iconst (v := (4 : Int32)) hx hb dX5_tick_83 (by decide) ?_
          refine xr_iald hx hb hK.1 hP 1 0 rfl rfl 4 rfl (Nat.le_of_ble_eq_true rfl) (Nat.le_of_ble_eq_true rfl) dX5_tick_84 ?_
          have hFc := va_freeA hD hS hA
          refine va_calli (va_runV (As := [.int (0 : Int32), .int (b_m_11 4)]) (rest := [.int (b_m_11 7), .int (7 : Int32), .ref (q 1)]) ⟨hx, hb, hml, hown, hts⟩ (kX5_writes l g q H.size b_m_11 b_written_8 b_spare b_spareWritten b_states b_fifth b_oldest b_stateCount b_text b_textLength b_at b_read b_columns b_told b_wants b_comes (0 : Int32) (b_m_11 4) _ h) (cwV 2 hts gX5_tick_X5_writes rfl rfl rfl hdX5_writes ⟨(Nat.le_of_ble_eq_true rfl), (Nat.le_of_ble_eq_true rfl)⟩) (preV_M (r := (RX5, TX5, 16)) hK hP hD (ci := 5) (q0 := 0) rfl rfl) rfl rfl hl.1 rfl (lv_room (Nat.le_of_ble_eq_true rfl)) dX5_tick_85 ⟨(Nat.le_of_ble_eq_true rfl), (Nat.le_of_ble_eq_true rfl)⟩) hS (fun q _ h9 => hFc q h9) hFc (fun r85_13 u t H1 locs ht hvm hw hB hz1 hk1 hS => ?_)
          obtain ⟨b_written_12, ez9⟩ : ∃ y, y = u := ⟨_, rfl⟩
          subst ez9
          replace h := hw
          try dsimp only at h
          obtain ⟨hP, hD⟩ := jn0 (wf := (wM g q b_m_11 b_written_12 b_spare b_spareWritten b_states b_fifth b_oldest b_stateCount b_text b_textLength b_at b_read b_columns b_told b_wants b_comes)) hB ht hFc
          have hP : va_P g.1 vwCl (wM g q b_m_11 b_written_12 b_spare b_spareWritten b_states b_fifth b_oldest b_stateCount b_text b_textLength b_at b_read b_columns b_told b_wants b_comes) H1 := hP
          have hD : va_D A (wM g q b_m_11 b_written_12 b_spare b_spareWritten b_states b_fifth b_oldest b_stateCount b_text b_textLength b_at b_read b_columns b_told b_wants b_comes) := hD
          clear hk1 hz1 hB ht hw hFc
          generalize H1 = H at hP hS ⊢
          refine lv_iadd hx hb dX5_tick_88 ?_
          refine xr_iast hx hb hK.1 hP hD hS 1 0 rfl rfl 7 rfl (Nat.le_of_ble_eq_true rfl) (Nat.le_of_ble_eq_true rfl) dX5_tick_89 (fun b_m_14 e_b_m_14 H locs hP hD hS => ?_)
          replace h := h b_m_14 e_b_m_14
          have hP : va_P g.1 vwCl (wM g q b_m_14 b_written_12 b_spare b_spareWritten b_states b_fifth b_oldest b_stateCount b_text b_textLength b_at b_read b_columns b_told b_wants b_comes) H := hP
          have hD : va_D A (wM g q b_m_14 b_written_12 b_spare b_spareWritten b_states b_fifth b_oldest b_stateCount b_text b_textLength b_at b_read b_columns b_told b_wants b_comes) := hD
          refine lv_aload_n hx hb dX5_tick_90 rfl (lv_at hl 2 rfl) ?_
          refine va_get (D := g.1) (ci := 5) (v := .ref (q 1)) (C := RX5) (T := TX5) (N := 16) hx hb hts iX5 hown hK.1 hP 0 rfl rfl 0 (by decide) (hts (.fieldLink RX5 7 "LightWheelModel" "m" "[I") (by decide +kernel)) (fun _ h9 => h9) rfl dX5_tick_91 ?_
          refine lv_bipush (v := (7 : Int32)) hx hb dX5_tick_94 (by decide) ?_
          refine lv_dup2_11 hx hb dX5_tick_96 rfl rfl ?_
          refine xr_iald hx hb hK.1 hP 1 0 rfl rfl 7 rfl (Nat.le_of_ble_eq_true rfl) (Nat.le_of_ble_eq_true rfl) dX5_tick_97 ?_
          refine lv_aload_n hx hb dX5_tick_98 rfl (lv_at hl 2 rfl) ?_
          refine va_get (D := g.1) (ci := 5) (v := .ref (q 1)) (C := RX5) (T := TX5) (N := 16) hx hb hts iX5 hown hK.1 hP 0 rfl rfl 0 (by decide) (hts (.fieldLink RX5 7 "LightWheelModel" "m" "[I") (by decide +kernel)) (fun _ h9 => h9) rfl dX5_tick_99 ?_
          refine lv_bipush (v := (8 : Int32)) hx hb dX5_tick_102 (by decide) ?_
          refine xr_iald hx hb hK.1 hP 1 0 rfl rfl 8 rfl (Nat.le_of_ble_eq_true rfl) (Nat.le_of_ble_eq_true rfl) dX5_tick_104 ?_
          refine lv_if_ne (tgt := 112) hx hb dX5_tick_105 (by decide) (fun c_105_14 => ?_) (fun c_105_14 => ?_)
          · replace h := h.1 c_105_14
            refine lv_aload_n hx hb dX5_tick_112 rfl (lv_at hl 2 rfl) ?_
            refine lv_iconst (v := (1 : Int32)) hx hb dX5_tick_113 (by decide) ?_
            refine lv_aload_n hx hb dX5_tick_114 rfl (lv_at hl 2 rfl) ?_
            refine va_get (D := g.1) (ci := 5) (v := .ref (q 1)) (C := RX5) (T := TX5) (N := 16) hx hb hts iX5 hown hK.1 hP 0 rfl rfl 0 (by decide) (hts (.fieldLink RX5 7 "LightWheelModel" "m" "[I") (by decide +kernel)) (fun _ h9 => h9) rfl dX5_tick_115 ?_
            refine lv_iconst (v := (4 : Int32)) hx hb dX5_tick_118 (by decide) ?_
            refine xr_iald hx hb hK.1 hP 1 0 rfl rfl 4 rfl (Nat.le_of_ble_eq_true rfl) (Nat.le_of_ble_eq_true rfl) dX5_tick_119 ?_
            refine lv_sipush (v := (360 : Int32)) hx hb dX5_tick_120 (by decide) ?_
            refine lv_iadd hx hb dX5_tick_123 ?_
            refine lv_sipush (v := (720 : Int32)) hx hb dX5_tick_124 (by decide) ?_
            refine lv_irem hx hb dX5_tick_127 (by decide) ?_
            have hFc := va_freeA hD hS hA
            refine va_calli (va_runV (As := [.int (1 : Int32), .int (((b_m_14 4) + (360 : Int32)) - ((b_m_14 4) + (360 : Int32)) / (720 : Int32) * (720 : Int32))]) (rest := [.int (b_m_14 7), .int (7 : Int32), .ref (q 1)]) ⟨hx, hb, hml, hown, hts⟩ (kX5_writes l g q H.size b_m_14 b_written_12 b_spare b_spareWritten b_states b_fifth b_oldest b_stateCount b_text b_textLength b_at b_read b_columns b_told b_wants b_comes (1 : Int32) (((b_m_14 4) + (360 : Int32)) - ((b_m_14 4) + (360 : Int32)) / (720 : Int32) * (720 : Int32)) _ h) (cwV 2 hts gX5_tick_X5_writes rfl rfl rfl hdX5_writes ⟨(Nat.le_of_ble_eq_true rfl), (Nat.le_of_ble_eq_true rfl)⟩) (preV_M (r := (RX5, TX5, 16)) hK hP hD (ci := 5) (q0 := 0) rfl rfl) rfl rfl hl.1 rfl (lv_room (Nat.le_of_ble_eq_true rfl)) dX5_tick_128 ⟨(Nat.le_of_ble_eq_true rfl), (Nat.le_of_ble_eq_true rfl)⟩) hS (fun q _ h9 => hFc q h9) hFc (fun r128_17 u t H1 locs ht hvm hw hB hz1 hk1 hS => ?_)
            obtain ⟨b_written_16, ez9⟩ : ∃ y, y = u := ⟨_, rfl⟩
            subst ez9
            replace h := hw
            try dsimp only at h
            obtain ⟨hP, hD⟩ := jn0 (wf := (wM g q b_m_14 b_written_16 b_spare b_spareWritten b_states b_fifth b_oldest b_stateCount b_text b_textLength b_at b_read b_columns b_told b_wants b_comes)) hB ht hFc
            have hP : va_P g.1 vwCl (wM g q b_m_14 b_written_16 b_spare b_spareWritten b_states b_fifth b_oldest b_stateCount b_text b_textLength b_at b_read b_columns b_told b_wants b_comes) H1 := hP
            have hD : va_D A (wM g q b_m_14 b_written_16 b_spare b_spareWritten b_states b_fifth b_oldest b_stateCount b_text b_textLength b_at b_read b_columns b_told b_wants b_comes) := hD
            clear hk1 hz1 hB ht hw hFc
            generalize H1 = H at hP hS ⊢
            refine lv_iadd hx hb dX5_tick_131 ?_
            refine xr_iast hx hb hK.1 hP hD hS 1 0 rfl rfl 7 rfl (Nat.le_of_ble_eq_true rfl) (Nat.le_of_ble_eq_true rfl) dX5_tick_132 (fun b_m_18 e_b_m_18 H locs hP hD hS => ?_)
            replace h := h b_m_18 e_b_m_18
            have hP : va_P g.1 vwCl (wM g q b_m_18 b_written_16 b_spare b_spareWritten b_states b_fifth b_oldest b_stateCount b_text b_textLength b_at b_read b_columns b_told b_wants b_comes) H := hP
            have hD : va_D A (wM g q b_m_18 b_written_16 b_spare b_spareWritten b_states b_fifth b_oldest b_stateCount b_text b_textLength b_at b_read b_columns b_told b_wants b_comes) := hD
            obtain ⟨v2_19, e_v2_19⟩ : ∃ y : Int32, y = v2_6 + (-1 : Int32) := ⟨_, rfl⟩
            replace h := h v2_19 e_v2_19
            refine lv_iinc (v := v2_19) (lv' := [(2, .int v2_19), (1, .int t_4), (0, .ref (q 0))]) hx hb dX5_tick_133 hl (k := 0) rfl (by rw [e_v2_19]; rfl) (by decide) rfl (fun ls hl => ?_)
            refine lv_goto (tgt := 48) hx hb dX5_tick_136 (by decide) ?_
            exact ih_2 v2_19 b_m_18 b_written_16 H locs ls h hP hD hS (lv_sub hl [0, 1, 2] rfl)
          · replace h := h.2 c_105_14
            refine lv_iconst (v := (0 : Int32)) hx hb dX5_tick_108 (by decide) ?_
            refine lv_goto (tgt := 131) hx hb dX5_tick_109 (by decide) ?_
            refine lv_iadd hx hb dX5_tick_131 ?_
            refine xr_iast hx hb hK.1 hP hD hS 1 0 rfl rfl 7 rfl (Nat.le_of_ble_eq_true rfl) (Nat.le_of_ble_eq_true rfl) dX5_tick_132 (fun b_m_20 e_b_m_20 H locs hP hD hS => ?_)
            replace h := h b_m_20 e_b_m_20
            have hP : va_P g.1 vwCl (wM g q b_m_20 b_written_12 b_spare b_spareWritten b_states b_fifth b_oldest b_stateCount b_text b_textLength b_at b_read b_columns b_told b_wants b_comes) H := hP
            have hD : va_D A (wM g q b_m_20 b_written_12 b_spare b_spareWritten b_states b_fifth b_oldest b_stateCount b_text b_textLength b_at b_read b_columns b_told b_wants b_comes) := hD
            obtain ⟨v2_21, e_v2_21⟩ : ∃ y : Int32, y = v2_6 + (-1 : Int32) := ⟨_, rfl⟩
            replace h := h v2_21 e_v2_21
            refine lv_iinc (v := v2_21) (lv' := [(2, .int v2_21), (1, .int t_4), (0, .ref (q 0))]) hx hb dX5_tick_133 hl (k := 0) rfl (by rw [e_v2_21]; rfl) (by decide) rfl (fun ls hl => ?_)
            refine lv_goto (tgt := 48) hx hb dX5_tick_136 (by decide) ?_
            exact ih_2 v2_21 b_m_20 b_written_12 H locs ls h hP hD hS (lv_sub hl [0, 1, 2] rfl)
    obtain ⟨n_2, h⟩ := h
    refine loop_2 _ ?_ n_2 r44_5 b_m_3 b_written _ _ ls h hP hD hS (lv_sub hl [0, 1, 2] rfl)
    intro v2_6 b_m_7 b_written_8 H locs ls h hP hD hS hl
    exact W.vret hx hb hr (fun t ht hW => ⟨⟨(b_m_7, b_written_8), rfl, h, by rw [ht]; exact hP, hD⟩, hS.F ht⟩) hS.2.2 dX5_tick_139
  refine lv_if_ge (tgt := 36) hx hb dX5_tick_29 (by decide) (fun c_29_21 => ?_) (fun c_29_21 => ?_)
  · replace h := h.1 c_29_21
    refine lv_iconst (v := (1 : Int32)) hx hb dX5_tick_36 (by decide) ?_
    exact tail_1 (1 : Int32) H locs ls h hP hD hS (lv_sub hl [0] rfl)
  · replace h := h.2 c_29_21
    refine lv_iconst (v := (-1 : Int32)) hx hb dX5_tick_32 (by decide) ?_
    refine lv_goto (tgt := 37) hx hb dX5_tick_33 (by decide) ?_
    exact tail_1 (-1 : Int32) H locs ls h hP hD hS (lv_sub hl [0] rfl)
theorem hdX5_goOn : yX5_goOn.cls = RX5 ∧ yX5_goOn.cls ≠ "java/lang/invoke/MethodHandle" ∧ yX5_goOn.cls ≠ "java/lang/invoke/VarHandle" ∧ (parseMethodDescriptor yX5_goOn.desc).map (fun d => d.parameters.length) = some 1 := by decide +kernel
set_option maxHeartbeats 4000000 in
set_option maxRecDepth 100000 in
theorem kX5_goOn (l : Launch) (g : GG) (q : Nat → Nat) (sz : Nat) (b_m : Nat → Int32) (b_written : Nat → Int32) (b_spare : Nat → Int32) (b_spareWritten : Nat → Int32) (b_states : Nat → Int32) (b_fifth : Nat → Int32) (b_oldest : Int32) (b_stateCount : Int32) (b_text : Nat → Int32) (b_textLength : Int32) (b_at : Int32) (b_read : Nat → Int32) (b_columns : Int32) (b_told : Int32) (b_wants : Nat → Int32) (b_comes : Nat → Int32) (a_1 : Int32) (k : (Nat → Int32) → (Nat → Int32) → Prop) (h : PX5_goOn b_m b_written b_wants a_1 k) : Met l yX5_goOn wsX5_goOn ({ frames := 3, cells := 0, slots := 0, locals := 69 }) (PreM g [.ref (q 0), .int a_1] (wM g q b_m b_written b_spare b_spareWritten b_states b_fifth b_oldest b_stateCount b_text b_textLength b_at b_read b_columns b_told b_wants b_comes) sz) (va_Qv (fun u : (Nat → Int32) × (Nat → Int32) => k u.1 u.2) (fun u t => PostB g (va_A (wM g q b_m b_written b_spare b_spareWritten b_states b_fifth b_oldest b_stateCount b_text b_textLength b_at b_read b_columns b_told b_wants b_comes) sz) (wM g q u.1 u.2 b_spare b_spareWritten b_states b_fifth b_oldest b_stateCount b_text b_textLength b_at b_read b_columns b_told b_wants b_comes) t) (va_A (wM g q b_m b_written b_spare b_spareWritten b_states b_fifth b_oldest b_stateCount b_text b_textLength b_at b_read b_columns b_told b_wants b_comes) sz)) 0 0 (va_A (wM g q b_m b_written b_spare b_spareWritten b_states b_fifth b_oldest b_stateCount b_text b_textLength b_at b_read b_columns b_told b_wants b_comes) sz) := by
  refine Met.ofW (cc := cX5_goOn) (maxL := 3) (ret := none) (by decide) rfl ?_
  intro p e s m args below meth c s₁ B hml hv
  obtain ⟨rfl, hsz, hP, hK, hD0⟩ := hv
  have hx := B.exec
  have hb := B.bytes
  have hr := B.returns
  have hts := atoms_spec (ws := wsX5_goOn) B.pre
  have hown : s.vm.findClass RX5 = some m.cls := findClass_of_methodNamed B.named
  have hlocks := B.notSynchronized
  subst hsz
  have hD := hD0.self (sz := s.heap.size)
  generalize hAe : va_A (wM g q b_m b_written b_spare b_spareWritten b_states b_fifth b_oldest b_stateCount b_text b_textLength b_at b_read b_columns b_told b_wants b_comes) s.heap.size = A at hD ⊢
  have hA : ∀ q : Nat, s.heap.size ≤ q → A q := fun q h => by rw [← hAe]; exact Or.inr h
  clear hAe hD0
  have hS : va_S A s.heap s.heap [] := va_S.rf
  have hl := lv_entry ([.ref (q 0), .int a_1]) (n := 3) (Nat.le_of_ble_eq_true rfl)
  rw [lg_entry_eq]
  generalize (lg_sl ([.ref (q 0), .int a_1]) ++ List.replicate (3 - (lg_sl ([.ref (q 0), .int a_1])).length) Slot.unset).toArray = ls at hl ⊢
  have hl : lv_has ls 3 [(0, .ref (q 0)), (1, .int a_1)] := hl
  unfold PX5_goOn at h
  obtain ⟨H, hHe⟩ : ∃ y, y = s.heap := ⟨_, rfl⟩
  rw [← hHe] at hP
  have hS : va_S A s.heap H [] := by rw [hHe]; exact hS
  have hW0 : ∀ (Q : State → Prop), W p l e (headSpec wsX5_goOn ({ frames := 3, cells := 0, slots := 0, locals := 69 })).room s m ([.ref (q 0), .int a_1] : List Value).toArray below meth c H [] 0 0 Q (F0 m 0 ls []) → W p l e (headSpec wsX5_goOn ({ frames := 3, cells := 0, slots := 0, locals := 69 })).room s m ([.ref (q 0), .int a_1] : List Value).toArray below meth c s.heap [] 0 0 Q (F0 m 0 ls []) := by rw [hHe]; exact fun _ h9 => h9
  refine hW0 _ ?_
  clear hW0 hHe
  generalize ([] : List Loc) = locs at hS ⊢
  refine lv_iconst (v := (0 : Int32)) hx hb dX5_goOn_0 (by decide) ?_
  refine lv_istore_n (lv' := [(2, .int (0 : Int32)), (0, .ref (q 0)), (1, .int a_1)]) hx hb dX5_goOn_1 rfl hl (by decide) rfl (fun ls hl => ?_)
  have loop_1 : ∀ (kx_1 : Int32 → (Nat → Int32) → (Nat → Int32) → Prop), (∀ (v2_1 : Int32) (b_m_2 : Nat → Int32) (b_written_3 : Nat → Int32) (H : Heap) (locs : List Loc) (ls : Array Slot), kx_1 v2_1 b_m_2 b_written_3 → va_P g.1 vwCl (wM g q b_m_2 b_written_3 b_spare b_spareWritten b_states b_fifth b_oldest b_stateCount b_text b_textLength b_at b_read b_columns b_told b_wants b_comes) H → va_D A (wM g q b_m_2 b_written_3 b_spare b_spareWritten b_states b_fifth b_oldest b_stateCount b_text b_textLength b_at b_read b_columns b_told b_wants b_comes) → va_S A s.heap H locs → lv_has ls 3 [(2, .int v2_1), (0, .ref (q 0)), (1, .int a_1)] → W p l e (headSpec wsX5_goOn ({ frames := 3, cells := 0, slots := 0, locals := 69 })).room s m ([.ref (q 0), .int a_1] : List Value).toArray below meth c H locs 0 0 (MQ below (va_Qv (fun u : (Nat → Int32) × (Nat → Int32) => k u.1 u.2) (fun u t => PostB g A (wM g q u.1 u.2 b_spare b_spareWritten b_states b_fifth b_oldest b_stateCount b_text b_textLength b_at b_read b_columns b_told b_wants b_comes) t) A) ([.ref (q 0), .int a_1] : List Value).toArray s 0 0 A) (F0 m 17 ls [])) → ∀ (n_1 : Nat) (v2_1 : Int32) (b_m_2 : Nat → Int32) (b_written_3 : Nat → Int32) (H : Heap) (locs : List Loc) (ls : Array Slot), PX5_goOn_L1 b_wants a_1 kx_1 n_1 v2_1 b_m_2 b_written_3 → va_P g.1 vwCl (wM g q b_m_2 b_written_3 b_spare b_spareWritten b_states b_fifth b_oldest b_stateCount b_text b_textLength b_at b_read b_columns b_told b_wants b_comes) H → va_D A (wM g q b_m_2 b_written_3 b_spare b_spareWritten b_states b_fifth b_oldest b_stateCount b_text b_textLength b_at b_read b_columns b_told b_wants b_comes) → va_S A s.heap H locs → lv_has ls 3 [(2, .int v2_1), (0, .ref (q 0)), (1, .int a_1)] → W p l e (headSpec wsX5_goOn ({ frames := 3, cells := 0, slots := 0, locals := 69 })).room s m ([.ref (q 0), .int a_1] : List Value).toArray below meth c H locs 0 0 (MQ below (va_Qv (fun u : (Nat → Int32) × (Nat → Int32) => k u.1 u.2) (fun u t => PostB g A (wM g q u.1 u.2 b_spare b_spareWritten b_states b_fifth b_oldest b_stateCount b_text b_textLength b_at b_read b_columns b_told b_wants b_comes) t) A) ([.ref (q 0), .int a_1] : List Value).toArray s 0 0 A) (F0 m 2 ls []) := by
    intro kx_1 hexit_1 n_1
    induction n_1 with
    | zero => exact fun _ _ _ _ _ _ h _ _ _ _ => (h : False).elim
    | succ n_1 ih_1 =>
      intro v2_1 b_m_2 b_written_3 H locs ls h hP hD hS hl
      unfold PX5_goOn_L1 at h
      refine lv_iload_n hx hb dX5_goOn_2 rfl (lv_at hl 0 rfl) ?_
      refine lv_iload_n hx hb dX5_goOn_3 rfl (lv_at hl 2 rfl) ?_
      refine lv_icmp_ge (tgt := 17) hx hb dX5_goOn_4 (by decide) (fun c_4_3 => ?_) (fun c_4_3 => ?_)
      · replace h := h.1 c_4_3
        exact hexit_1 v2_1 b_m_2 b_written_3 H locs ls h hP hD hS (lv_sub hl [0, 1, 2] rfl)
      · replace h := h.2 c_4_3
        refine lv_aload_n hx hb dX5_goOn_7 rfl (lv_at hl 1 rfl) ?_
        have hFc := va_freeA hD hS hA
        refine va_callv (va_runV (As := []) (rest := []) ⟨hx, hb, hml, hown, hts⟩ (kX5_tick l g q H.size b_m_2 b_written_3 b_spare b_spareWritten b_states b_fifth b_oldest b_stateCount b_text b_textLength b_at b_read b_columns b_told b_wants b_comes _ h) (cwV 0 hts gX5_goOn_X5_tick rfl rfl rfl hdX5_tick ⟨(Nat.le_of_ble_eq_true rfl), (Nat.le_of_ble_eq_true rfl)⟩) (preV_M (r := (RX5, TX5, 16)) hK hP hD (ci := 5) (q0 := 0) rfl rfl) rfl rfl hl.1 rfl (lv_room (Nat.le_of_ble_eq_true rfl)) dX5_goOn_8 ⟨(Nat.le_of_ble_eq_true rfl), (Nat.le_of_ble_eq_true rfl)⟩) hS (fun q _ h9 => hFc q h9) hFc (fun u t H1 locs ht hvm hw hB hz1 hk1 hS => ?_)
        obtain ⟨b_m_5, b_written_6⟩ := u
        replace h := hw
        try dsimp only at h
        obtain ⟨hP, hD⟩ := jn0 (wf := (wM g q b_m_5 b_written_6 b_spare b_spareWritten b_states b_fifth b_oldest b_stateCount b_text b_textLength b_at b_read b_columns b_told b_wants b_comes)) hB ht hFc
        have hP : va_P g.1 vwCl (wM g q b_m_5 b_written_6 b_spare b_spareWritten b_states b_fifth b_oldest b_stateCount b_text b_textLength b_at b_read b_columns b_told b_wants b_comes) H1 := hP
        have hD : va_D A (wM g q b_m_5 b_written_6 b_spare b_spareWritten b_states b_fifth b_oldest b_stateCount b_text b_textLength b_at b_read b_columns b_told b_wants b_comes) := hD
        clear hk1 hz1 hB ht hw hFc
        generalize H1 = H at hP hS ⊢
        obtain ⟨v2_7, e_v2_7⟩ : ∃ y : Int32, y = v2_1 + (1 : Int32) := ⟨_, rfl⟩
        replace h := h v2_7 e_v2_7
        refine lv_iinc (v := v2_7) (lv' := [(2, .int v2_7), (0, .ref (q 0)), (1, .int a_1)]) hx hb dX5_goOn_11 hl (k := 0) rfl (by rw [e_v2_7]; rfl) (by decide) rfl (fun ls hl => ?_)
        refine lv_goto (tgt := 2) hx hb dX5_goOn_14 (by decide) ?_
        exact ih_1 v2_7 b_m_5 b_written_6 H locs ls h hP hD hS (lv_sub hl [0, 1, 2] rfl)
  obtain ⟨n_1, h⟩ := h
  refine loop_1 _ ?_ n_1 (0 : Int32) b_m b_written _ _ ls h hP hD hS (lv_sub hl [0, 1, 2] rfl)
  intro v2_1 b_m_2 b_written_3 H locs ls h hP hD hS hl
  exact W.vret hx hb hr (fun t ht hW => ⟨⟨(b_m_2, b_written_3), rfl, h, by rw [ht]; exact hP, hD⟩, hS.F ht⟩) hS.2.2 dX5_goOn_17
theorem hdX5_run : yX5_run.cls = RX5 ∧ yX5_run.cls ≠ "java/lang/invoke/MethodHandle" ∧ yX5_run.cls ≠ "java/lang/invoke/VarHandle" ∧ (parseMethodDescriptor yX5_run.desc).map (fun d => d.parameters.length) = some 1 := by decide +kernel
set_option maxHeartbeats 4000000 in
set_option maxRecDepth 100000 in
theorem kX5_run (l : Launch) (g : GG) (q : Nat → Nat) (sz : Nat) (b_m : Nat → Int32) (b_written : Nat → Int32) (b_spare : Nat → Int32) (b_spareWritten : Nat → Int32) (b_states : Nat → Int32) (b_fifth : Nat → Int32) (b_oldest : Int32) (b_stateCount : Int32) (b_text : Nat → Int32) (b_textLength : Int32) (b_at : Int32) (b_read : Nat → Int32) (b_columns : Int32) (b_told : Int32) (b_wants : Nat → Int32) (b_comes : Nat → Int32) (a_1 : Int32) (k : Int32 → (Nat → Int32) → (Nat → Int32) → (Nat → Int32) → (Nat → Int32) → Int32 → Int32 → (Nat → Int32) → Prop) (h : PX5_run b_m b_written b_states b_fifth b_oldest b_stateCount b_wants a_1 k) : Met l yX5_run wsX5_run ({ frames := 5, cells := 0, slots := 0, locals := 113 }) (PreM g [.ref (q 0), .int a_1] (wM g q b_m b_written b_spare b_spareWritten b_states b_fifth b_oldest b_stateCount b_text b_textLength b_at b_read b_columns b_told b_wants b_comes) sz) (va_Qi (fun (r : Int32) (u : (Nat → Int32) × (Nat → Int32) × (Nat → Int32) × (Nat → Int32) × Int32 × Int32 × (Nat → Int32)) => k r u.1 u.2.1 u.2.2.1 u.2.2.2.1 u.2.2.2.2.1 u.2.2.2.2.2.1 u.2.2.2.2.2.2) (fun u t => PostB g (va_A (wM g q b_m b_written b_spare b_spareWritten b_states b_fifth b_oldest b_stateCount b_text b_textLength b_at b_read b_columns b_told b_wants b_comes) sz) (wM g q u.1 u.2.1 b_spare b_spareWritten u.2.2.1 u.2.2.2.1 u.2.2.2.2.1 u.2.2.2.2.2.1 b_text b_textLength b_at b_read b_columns b_told u.2.2.2.2.2.2 b_comes) t) (va_A (wM g q b_m b_written b_spare b_spareWritten b_states b_fifth b_oldest b_stateCount b_text b_textLength b_at b_read b_columns b_told b_wants b_comes) sz)) 0 0 (va_A (wM g q b_m b_written b_spare b_spareWritten b_states b_fifth b_oldest b_stateCount b_text b_textLength b_at b_read b_columns b_told b_wants b_comes) sz) := by
  refine Met.ofW (cc := cX5_run) (maxL := 2) (ret := (some .int)) (by decide) rfl ?_
  intro p e s m args below meth c s₁ B hml hv
  obtain ⟨rfl, hsz, hP, hK, hD0⟩ := hv
  have hx := B.exec
  have hb := B.bytes
  have hr := B.returns
  have hts := atoms_spec (ws := wsX5_run) B.pre
  have hown : s.vm.findClass RX5 = some m.cls := findClass_of_methodNamed B.named
  have hlocks := B.notSynchronized
  have iX5 : ∀ w ∈ wsX50, w ∈ wsX5_run := by decide +kernel
  subst hsz
  have hD := hD0.self (sz := s.heap.size)
  generalize hAe : va_A (wM g q b_m b_written b_spare b_spareWritten b_states b_fifth b_oldest b_stateCount b_text b_textLength b_at b_read b_columns b_told b_wants b_comes) s.heap.size = A at hD ⊢
  have hA : ∀ q : Nat, s.heap.size ≤ q → A q := fun q h => by rw [← hAe]; exact Or.inr h
  clear hAe hD0
  have hS : va_S A s.heap s.heap [] := va_S.rf
  have hl := lv_entry ([.ref (q 0), .int a_1]) (n := 2) (Nat.le_of_ble_eq_true rfl)
  rw [lg_entry_eq]
  generalize (lg_sl ([.ref (q 0), .int a_1]) ++ List.replicate (2 - (lg_sl ([.ref (q 0), .int a_1])).length) Slot.unset).toArray = ls at hl ⊢
  have hl : lv_has ls 2 [(0, .ref (q 0)), (1, .int a_1)] := hl
  unfold PX5_run at h
  obtain ⟨H, hHe⟩ : ∃ y, y = s.heap := ⟨_, rfl⟩
  rw [← hHe] at hP
  have hS : va_S A s.heap H [] := by rw [hHe]; exact hS
  have hW0 : ∀ (Q : State → Prop), W p l e (headSpec wsX5_run ({ frames := 5, cells := 0, slots := 0, locals := 113 })).room s m ([.ref (q 0), .int a_1] : List Value).toArray below meth c H [] 0 0 Q (F0 m 0 ls []) → W p l e (headSpec wsX5_run ({ frames := 5, cells := 0, slots := 0, locals := 113 })).room s m ([.ref (q 0), .int a_1] : List Value).toArray below meth c s.heap [] 0 0 Q (F0 m 0 ls []) := by rw [hHe]; exact fun _ h9 => h9
  refine hW0 _ ?_
  clear hW0 hHe
  generalize ([] : List Loc) = locs at hS ⊢
  refine lv_iload_n hx hb dX5_run_0 rfl (lv_at hl 1 rfl) ?_
  refine lv_iconst (v := (1 : Int32)) hx hb dX5_run_1 (by decide) ?_
  refine lv_bipush (v := (100 : Int32)) hx hb dX5_run_2 (by decide) ?_
  refine vp_callSi (W.runS (As := [.int a_1, .int (1 : Int32), .int (100 : Int32)]) (rest := []) ⟨hx, hb, hml, hown, hts⟩ (kX5_in l g  a_1 (1 : Int32) (100 : Int32) _ h) (va_cwS 3 hts gX5_run_X5_in rfl rfl rfl hdX5_in.2 ⟨(Nat.le_of_ble_eq_true rfl), (Nat.le_of_ble_eq_true rfl)⟩) (preS_R hK (va_P_nil (D := g.1) (cl := vwCl))) rfl rfl hl.1 rfl (lv_room (Nat.le_of_ble_eq_true rfl)) dX5_run_4 ⟨(Nat.le_of_ble_eq_true rfl), (Nat.le_of_ble_eq_true rfl)⟩) (fun r4_1 h => ?_)
  refine lv_if_ne (tgt := 13) hx hb dX5_run_7 (by decide) (fun c_7_1 => ?_) (fun c_7_1 => ?_)
  · replace h := h.1 c_7_1
    refine lv_aload_n hx hb dX5_run_13 rfl (lv_at hl 0 rfl) ?_
    refine va_get (D := g.1) (ci := 5) (v := .ref (q 1)) (C := RX5) (T := TX5) (N := 16) hx hb hts iX5 hown hK.1 hP 0 rfl rfl 0 (by decide) (hts (.fieldLink RX5 7 "LightWheelModel" "m" "[I") (by decide +kernel)) (fun _ h9 => h9) rfl dX5_run_14 ?_
    refine lv_bipush (v := (6 : Int32)) hx hb dX5_run_17 (by decide) ?_
    refine xr_iald hx hb hK.1 hP 1 0 rfl rfl 6 rfl (Nat.le_of_ble_eq_true rfl) (Nat.le_of_ble_eq_true rfl) dX5_run_19 ?_
    refine lv_iload_n hx hb dX5_run_20 rfl (lv_at hl 1 rfl) ?_
    refine lv_iadd hx hb dX5_run_21 ?_
    refine lv_sipush (v := (5000 : Int32)) hx hb dX5_run_22 (by decide) ?_
    refine lv_icmp_le (tgt := 31) hx hb dX5_run_25 (by decide) (fun c_25_2 => ?_) (fun c_25_2 => ?_)
    · replace h := h.1 c_25_2
      refine lv_aload_n hx hb dX5_run_31 rfl (lv_at hl 0 rfl) ?_
      have hFc := va_freeA hD hS hA
      refine va_callv (va_runV (As := []) (rest := []) ⟨hx, hb, hml, hown, hts⟩ (kX5_record l g q H.size b_m b_written b_spare b_spareWritten b_states b_fifth b_oldest b_stateCount b_text b_textLength b_at b_read b_columns b_told b_wants b_comes _ h) (cwV 0 hts gX5_run_X5_record rfl rfl rfl hdX5_record ⟨(Nat.le_of_ble_eq_true rfl), (Nat.le_of_ble_eq_true rfl)⟩) (preV_M (r := (RX5, TX5, 16)) hK hP hD (ci := 5) (q0 := 0) rfl rfl) rfl rfl hl.1 rfl (lv_room (Nat.le_of_ble_eq_true rfl)) dX5_run_32 ⟨(Nat.le_of_ble_eq_true rfl), (Nat.le_of_ble_eq_true rfl)⟩) hS (fun q _ h9 => hFc q h9) hFc (fun u t H1 locs ht hvm hw hB hz1 hk1 hS => ?_)
      obtain ⟨b_states_4, b_fifth_5, b_oldest_6, b_stateCount_7⟩ := u
      replace h := hw
      try dsimp only at h
      obtain ⟨hP, hD⟩ := jn0 (wf := (wM g q b_m b_written b_spare b_spareWritten b_states_4 b_fifth_5 b_oldest_6 b_stateCount_7 b_text b_textLength b_at b_read b_columns b_told b_wants b_comes)) hB ht hFc
      have hP : va_P g.1 vwCl (wM g q b_m b_written b_spare b_spareWritten b_states_4 b_fifth_5 b_oldest_6 b_stateCount_7 b_text b_textLength b_at b_read b_columns b_told b_wants b_comes) H1 := hP
      have hD : va_D A (wM g q b_m b_written b_spare b_spareWritten b_states_4 b_fifth_5 b_oldest_6 b_stateCount_7 b_text b_textLength b_at b_read b_columns b_told b_wants b_comes) := hD
      clear hk1 hz1 hB ht hw hFc
      generalize H1 = H at hP hS ⊢
      refine lv_aload_n hx hb dX5_run_35 rfl (lv_at hl 0 rfl) ?_
      have hFc := va_freeA hD hS hA
      refine va_callv (va_runV (As := []) (rest := []) ⟨hx, hb, hml, hown, hts⟩ (kX5_layWants l g q H.size b_m b_written b_spare b_spareWritten b_states_4 b_fifth_5 b_oldest_6 b_stateCount_7 b_text b_textLength b_at b_read b_columns b_told b_wants b_comes _ h) (cwV 0 hts gX5_run_X5_layWants rfl rfl rfl hdX5_layWants ⟨(Nat.le_of_ble_eq_true rfl), (Nat.le_of_ble_eq_true rfl)⟩) (preV_M (r := (RX5, TX5, 16)) hK hP hD (ci := 5) (q0 := 0) rfl rfl) rfl rfl hl.1 rfl (lv_room (Nat.le_of_ble_eq_true rfl)) dX5_run_36 ⟨(Nat.le_of_ble_eq_true rfl), (Nat.le_of_ble_eq_true rfl)⟩) hS (fun q _ h9 => hFc q h9) hFc (fun u t H1 locs ht hvm hw hB hz1 hk1 hS => ?_)
      obtain ⟨b_wants_8, ez9⟩ : ∃ y, y = u := ⟨_, rfl⟩
      subst ez9
      replace h := hw
      try dsimp only at h
      obtain ⟨hP, hD⟩ := jn0 (wf := (wM g q b_m b_written b_spare b_spareWritten b_states_4 b_fifth_5 b_oldest_6 b_stateCount_7 b_text b_textLength b_at b_read b_columns b_told b_wants_8 b_comes)) hB ht hFc
      have hP : va_P g.1 vwCl (wM g q b_m b_written b_spare b_spareWritten b_states_4 b_fifth_5 b_oldest_6 b_stateCount_7 b_text b_textLength b_at b_read b_columns b_told b_wants_8 b_comes) H1 := hP
      have hD : va_D A (wM g q b_m b_written b_spare b_spareWritten b_states_4 b_fifth_5 b_oldest_6 b_stateCount_7 b_text b_textLength b_at b_read b_columns b_told b_wants_8 b_comes) := hD
      clear hk1 hz1 hB ht hw hFc
      generalize H1 = H at hP hS ⊢
      refine lv_aload_n hx hb dX5_run_39 rfl (lv_at hl 0 rfl) ?_
      refine lv_iload_n hx hb dX5_run_40 rfl (lv_at hl 1 rfl) ?_
      have hFc := va_freeA hD hS hA
      refine va_callv (va_runV (As := [.int a_1]) (rest := []) ⟨hx, hb, hml, hown, hts⟩ (kX5_goOn l g q H.size b_m b_written b_spare b_spareWritten b_states_4 b_fifth_5 b_oldest_6 b_stateCount_7 b_text b_textLength b_at b_read b_columns b_told b_wants_8 b_comes a_1 _ h) (cwV 1 hts gX5_run_X5_goOn rfl rfl rfl hdX5_goOn ⟨(Nat.le_of_ble_eq_true rfl), (Nat.le_of_ble_eq_true rfl)⟩) (preV_M (r := (RX5, TX5, 16)) hK hP hD (ci := 5) (q0 := 0) rfl rfl) rfl rfl hl.1 rfl (lv_room (Nat.le_of_ble_eq_true rfl)) dX5_run_41 ⟨(Nat.le_of_ble_eq_true rfl), (Nat.le_of_ble_eq_true rfl)⟩) hS (fun q _ h9 => hFc q h9) hFc (fun u t H1 locs ht hvm hw hB hz1 hk1 hS => ?_)
      obtain ⟨b_m_9, b_written_10⟩ := u
      replace h := hw
      try dsimp only at h
      obtain ⟨hP, hD⟩ := jn0 (wf := (wM g q b_m_9 b_written_10 b_spare b_spareWritten b_states_4 b_fifth_5 b_oldest_6 b_stateCount_7 b_text b_textLength b_at b_read b_columns b_told b_wants_8 b_comes)) hB ht hFc
      have hP : va_P g.1 vwCl (wM g q b_m_9 b_written_10 b_spare b_spareWritten b_states_4 b_fifth_5 b_oldest_6 b_stateCount_7 b_text b_textLength b_at b_read b_columns b_told b_wants_8 b_comes) H1 := hP
      have hD : va_D A (wM g q b_m_9 b_written_10 b_spare b_spareWritten b_states_4 b_fifth_5 b_oldest_6 b_stateCount_7 b_text b_textLength b_at b_read b_columns b_told b_wants_8 b_comes) := hD
      clear hk1 hz1 hB ht hw hFc
      generalize H1 = H at hP hS ⊢
      refine lv_aload_n hx hb dX5_run_44 rfl (lv_at hl 0 rfl) ?_
      refine va_get (D := g.1) (ci := 5) (v := .ref (q 1)) (C := RX5) (T := TX5) (N := 16) hx hb hts iX5 hown hK.1 hP 0 rfl rfl 0 (by decide) (hts (.fieldLink RX5 7 "LightWheelModel" "m" "[I") (by decide +kernel)) (fun _ h9 => h9) rfl dX5_run_45 ?_
      refine lv_bipush (v := (7 : Int32)) hx hb dX5_run_48 (by decide) ?_
      refine xr_iald hx hb hK.1 hP 1 0 rfl rfl 7 rfl (Nat.le_of_ble_eq_true rfl) (Nat.le_of_ble_eq_true rfl) dX5_run_50 ?_
      exact W.iret hx hb hr (fun t ht hW => ⟨⟨(b_m_9 7), (b_m_9, b_written_10, b_states_4, b_fifth_5, b_oldest_6, b_stateCount_7, b_wants_8), rfl, h, by rw [ht]; exact hP, hD⟩, hS.F ht⟩) hS.2.2 dX5_run_51
    · replace h := h.2 c_25_2
      refine lv_bipush (v := (-103 : Int32)) hx hb dX5_run_28 (by decide) ?_
      exact W.iret hx hb hr (fun t ht hW => ⟨⟨(-103 : Int32), (b_m, b_written, b_states, b_fifth, b_oldest, b_stateCount, b_wants), rfl, h, by rw [ht]; exact hP, hD⟩, hS.F ht⟩) hS.2.2 dX5_run_30
  · replace h := h.2 c_7_1
    refine lv_bipush (v := (-101 : Int32)) hx hb dX5_run_10 (by decide) ?_
    exact W.iret hx hb hr (fun t ht hW => ⟨⟨(-101 : Int32), (b_m, b_written, b_states, b_fifth, b_oldest, b_stateCount, b_wants), rfl, h, by rw [ht]; exact hP, hD⟩, hS.F ht⟩) hS.2.2 dX5_run_12
theorem hdX5_wrongPlaces : yX5_wrongPlaces.cls = RX5 ∧ yX5_wrongPlaces.cls ≠ "java/lang/invoke/MethodHandle" ∧ yX5_wrongPlaces.cls ≠ "java/lang/invoke/VarHandle" ∧ (parseMethodDescriptor yX5_wrongPlaces.desc).map (fun d => d.parameters.length) = some 0 := by decide +kernel
set_option maxHeartbeats 4000000 in
set_option maxRecDepth 100000 in
theorem kX5_wrongPlaces (l : Launch) (g : GG) (q : Nat → Nat) (sz : Nat) (b_m : Nat → Int32) (b_written : Nat → Int32) (b_spare : Nat → Int32) (b_spareWritten : Nat → Int32) (b_states : Nat → Int32) (b_fifth : Nat → Int32) (b_oldest : Int32) (b_stateCount : Int32) (b_text : Nat → Int32) (b_textLength : Int32) (b_at : Int32) (b_read : Nat → Int32) (b_columns : Int32) (b_told : Int32) (b_wants : Nat → Int32) (b_comes : Nat → Int32)  (k : Int32 → (Nat → Int32) → Prop) (h : PX5_wrongPlaces b_m b_written b_wants  k) : Met l yX5_wrongPlaces wsX5_wrongPlaces ({ frames := 5, cells := 0, slots := 0, locals := 113 }) (PreM g [.ref (q 0)] (wM g q b_m b_written b_spare b_spareWritten b_states b_fifth b_oldest b_stateCount b_text b_textLength b_at b_read b_columns b_told b_wants b_comes) sz) (va_Qi (fun (r : Int32) (u : (Nat → Int32)) => k r u) (fun u t => PostB g (va_A (wM g q b_m b_written b_spare b_spareWritten b_states b_fifth b_oldest b_stateCount b_text b_textLength b_at b_read b_columns b_told b_wants b_comes) sz) (wM g q b_m b_written b_spare b_spareWritten b_states b_fifth b_oldest b_stateCount b_text b_textLength b_at b_read b_columns b_told u b_comes) t) (va_A (wM g q b_m b_written b_spare b_spareWritten b_states b_fifth b_oldest b_stateCount b_text b_textLength b_at b_read b_columns b_told b_wants b_comes) sz)) 0 0 (va_A (wM g q b_m b_written b_spare b_spareWritten b_states b_fifth b_oldest b_stateCount b_text b_textLength b_at b_read b_columns b_told b_wants b_comes) sz) := by
  refine Met.ofW (cc := cX5_wrongPlaces) (maxL := 1) (ret := (some .int)) (by decide) rfl ?_
  intro p e s m args below meth c s₁ B hml hv
  obtain ⟨rfl, hsz, hP, hK, hD0⟩ := hv
  have hx := B.exec
  have hb := B.bytes
  have hr := B.returns
  have hts := atoms_spec (ws := wsX5_wrongPlaces) B.pre
  have hown : s.vm.findClass RX5 = some m.cls := findClass_of_methodNamed B.named
  have hlocks := B.notSynchronized
  subst hsz
  have hD := hD0.self (sz := s.heap.size)
  generalize hAe : va_A (wM g q b_m b_written b_spare b_spareWritten b_states b_fifth b_oldest b_stateCount b_text b_textLength b_at b_read b_columns b_told b_wants b_comes) s.heap.size = A at hD ⊢
  have hA : ∀ q : Nat, s.heap.size ≤ q → A q := fun q h => by rw [← hAe]; exact Or.inr h
  clear hAe hD0
  have hS : va_S A s.heap s.heap [] := va_S.rf
  have hl := lv_entry ([.ref (q 0)]) (n := 1) (Nat.le_of_ble_eq_true rfl)
  rw [lg_entry_eq]
  generalize (lg_sl ([.ref (q 0)]) ++ List.replicate (1 - (lg_sl ([.ref (q 0)])).length) Slot.unset).toArray = ls at hl ⊢
  have hl : lv_has ls 1 [(0, .ref (q 0))] := hl
  unfold PX5_wrongPlaces at h
  obtain ⟨H, hHe⟩ : ∃ y, y = s.heap := ⟨_, rfl⟩
  rw [← hHe] at hP
  have hS : va_S A s.heap H [] := by rw [hHe]; exact hS
  have hW0 : ∀ (Q : State → Prop), W p l e (headSpec wsX5_wrongPlaces ({ frames := 5, cells := 0, slots := 0, locals := 113 })).room s m ([.ref (q 0)] : List Value).toArray below meth c H [] 0 0 Q (F0 m 0 ls []) → W p l e (headSpec wsX5_wrongPlaces ({ frames := 5, cells := 0, slots := 0, locals := 113 })).room s m ([.ref (q 0)] : List Value).toArray below meth c s.heap [] 0 0 Q (F0 m 0 ls []) := by rw [hHe]; exact fun _ h9 => h9
  refine hW0 _ ?_
  clear hW0 hHe
  generalize ([] : List Loc) = locs at hS ⊢
  refine lv_aload_n hx hb dX5_wrongPlaces_0 rfl (lv_at hl 0 rfl) ?_
  have hFc := va_freeA hD hS hA
  refine va_callv (va_runV (As := []) (rest := []) ⟨hx, hb, hml, hown, hts⟩ (kX5_layWants l g q H.size b_m b_written b_spare b_spareWritten b_states b_fifth b_oldest b_stateCount b_text b_textLength b_at b_read b_columns b_told b_wants b_comes _ h) (cwV 0 hts gX5_wrongPlaces_X5_layWants rfl rfl rfl hdX5_layWants ⟨(Nat.le_of_ble_eq_true rfl), (Nat.le_of_ble_eq_true rfl)⟩) (preV_M (r := (RX5, TX5, 16)) hK hP hD (ci := 5) (q0 := 0) rfl rfl) rfl rfl hl.1 rfl (lv_room (Nat.le_of_ble_eq_true rfl)) dX5_wrongPlaces_1 ⟨(Nat.le_of_ble_eq_true rfl), (Nat.le_of_ble_eq_true rfl)⟩) hS (fun q _ h9 => hFc q h9) hFc (fun u t H1 locs ht hvm hw hB hz1 hk1 hS => ?_)
  obtain ⟨b_wants_1, ez9⟩ : ∃ y, y = u := ⟨_, rfl⟩
  subst ez9
  replace h := hw
  try dsimp only at h
  obtain ⟨hP, hD⟩ := jn0 (wf := (wM g q b_m b_written b_spare b_spareWritten b_states b_fifth b_oldest b_stateCount b_text b_textLength b_at b_read b_columns b_told b_wants_1 b_comes)) hB ht hFc
  have hP : va_P g.1 vwCl (wM g q b_m b_written b_spare b_spareWritten b_states b_fifth b_oldest b_stateCount b_text b_textLength b_at b_read b_columns b_told b_wants_1 b_comes) H1 := hP
  have hD : va_D A (wM g q b_m b_written b_spare b_spareWritten b_states b_fifth b_oldest b_stateCount b_text b_textLength b_at b_read b_columns b_told b_wants_1 b_comes) := hD
  clear hk1 hz1 hB ht hw hFc
  generalize H1 = H at hP hS ⊢
  refine lv_sipush (v := (8640 : Int32)) hx hb dX5_wrongPlaces_4 (by decide) ?_
  refine lv_aload_n hx hb dX5_wrongPlaces_7 rfl (lv_at hl 0 rfl) ?_
  refine lv_iconst (v := (1 : Int32)) hx hb dX5_wrongPlaces_8 (by decide) ?_
  refine vp_callSi (W.runV (As := [.int (1 : Int32)]) (rest := [.int (8640 : Int32)]) ⟨hx, hb, hml, hown, hts⟩ (kX5_litPlaces l g q b_m b_written b_spare b_spareWritten b_states b_fifth b_oldest b_stateCount b_text b_textLength b_at b_read b_columns b_told b_wants_1 b_comes (1 : Int32) _ h) (cwV 1 hts gX5_wrongPlaces_X5_litPlaces rfl rfl rfl hdX5_litPlaces ⟨(Nat.le_of_ble_eq_true rfl), (Nat.le_of_ble_eq_true rfl)⟩) (preV_R (r := (RX5, TX5, 16)) hK hP (ci := 5) (q0 := 0) rfl rfl) rfl rfl hl.1 rfl (lv_room (Nat.le_of_ble_eq_true rfl)) dX5_wrongPlaces_9 ⟨(Nat.le_of_ble_eq_true rfl), (Nat.le_of_ble_eq_true rfl)⟩) (fun r9_2 h => ?_)
  refine lv_isub hx hb dX5_wrongPlaces_12 ?_
  exact W.iret hx hb hr (fun t ht hW => ⟨⟨((8640 : Int32) - r9_2), b_wants_1, rfl, h, by rw [ht]; exact hP, hD⟩, hS.F ht⟩) hS.2.2 dX5_wrongPlaces_13
theorem hdX5_count : yX5_count.cls = RX5 ∧ yX5_count.cls ≠ "java/lang/invoke/MethodHandle" ∧ yX5_count.cls ≠ "java/lang/invoke/VarHandle" ∧ (parseMethodDescriptor yX5_count.desc).map (fun d => d.parameters.length) = some 1 := by decide +kernel
set_option maxHeartbeats 4000000 in
set_option maxRecDepth 100000 in
theorem kX5_count (l : Launch) (g : GG) (q : Nat → Nat) (sz : Nat) (b_m : Nat → Int32) (b_written : Nat → Int32) (b_spare : Nat → Int32) (b_spareWritten : Nat → Int32) (b_states : Nat → Int32) (b_fifth : Nat → Int32) (b_oldest : Int32) (b_stateCount : Int32) (b_text : Nat → Int32) (b_textLength : Int32) (b_at : Int32) (b_read : Nat → Int32) (b_columns : Int32) (b_told : Int32) (b_wants : Nat → Int32) (b_comes : Nat → Int32) (a_1 : Int32) (k : Int32 → (Nat → Int32) → Prop) (h : PX5_count b_m b_written b_stateCount b_textLength b_wants a_1 k) : Met l yX5_count wsX5_count ({ frames := 6, cells := 0, slots := 0, locals := 133 }) (PreM g [.ref (q 0), .int a_1] (wM g q b_m b_written b_spare b_spareWritten b_states b_fifth b_oldest b_stateCount b_text b_textLength b_at b_read b_columns b_told b_wants b_comes) sz) (va_Qi (fun (r : Int32) (u : (Nat → Int32)) => k r u) (fun u t => PostB g (va_A (wM g q b_m b_written b_spare b_spareWritten b_states b_fifth b_oldest b_stateCount b_text b_textLength b_at b_read b_columns b_told b_wants b_comes) sz) (wM g q b_m b_written b_spare b_spareWritten b_states b_fifth b_oldest b_stateCount b_text b_textLength b_at b_read b_columns b_told u b_comes) t) (va_A (wM g q b_m b_written b_spare b_spareWritten b_states b_fifth b_oldest b_stateCount b_text b_textLength b_at b_read b_columns b_told b_wants b_comes) sz)) 0 0 (va_A (wM g q b_m b_written b_spare b_spareWritten b_states b_fifth b_oldest b_stateCount b_text b_textLength b_at b_read b_columns b_told b_wants b_comes) sz) := by
  refine Met.ofW (cc := cX5_count) (maxL := 2) (ret := (some .int)) (by decide) rfl ?_
  intro p e s m args below meth c s₁ B hml hv
  obtain ⟨rfl, hsz, hP, hK, hD0⟩ := hv
  have hx := B.exec
  have hb := B.bytes
  have hr := B.returns
  have hts := atoms_spec (ws := wsX5_count) B.pre
  have hown : s.vm.findClass RX5 = some m.cls := findClass_of_methodNamed B.named
  have hlocks := B.notSynchronized
  have iX5 : ∀ w ∈ wsX50, w ∈ wsX5_count := by decide +kernel
  subst hsz
  have hD := hD0.self (sz := s.heap.size)
  generalize hAe : va_A (wM g q b_m b_written b_spare b_spareWritten b_states b_fifth b_oldest b_stateCount b_text b_textLength b_at b_read b_columns b_told b_wants b_comes) s.heap.size = A at hD ⊢
  have hA : ∀ q : Nat, s.heap.size ≤ q → A q := fun q h => by rw [← hAe]; exact Or.inr h
  clear hAe hD0
  have hS : va_S A s.heap s.heap [] := va_S.rf
  have hl := lv_entry ([.ref (q 0), .int a_1]) (n := 2) (Nat.le_of_ble_eq_true rfl)
  rw [lg_entry_eq]
  generalize (lg_sl ([.ref (q 0), .int a_1]) ++ List.replicate (2 - (lg_sl ([.ref (q 0), .int a_1])).length) Slot.unset).toArray = ls at hl ⊢
  have hl : lv_has ls 2 [(0, .ref (q 0)), (1, .int a_1)] := hl
  unfold PX5_count at h
  obtain ⟨H, hHe⟩ : ∃ y, y = s.heap := ⟨_, rfl⟩
  rw [← hHe] at hP
  have hS : va_S A s.heap H [] := by rw [hHe]; exact hS
  have hW0 : ∀ (Q : State → Prop), W p l e (headSpec wsX5_count ({ frames := 6, cells := 0, slots := 0, locals := 133 })).room s m ([.ref (q 0), .int a_1] : List Value).toArray below meth c H [] 0 0 Q (F0 m 0 ls []) → W p l e (headSpec wsX5_count ({ frames := 6, cells := 0, slots := 0, locals := 133 })).room s m ([.ref (q 0), .int a_1] : List Value).toArray below meth c s.heap [] 0 0 Q (F0 m 0 ls []) := by rw [hHe]; exact fun _ h9 => h9
  refine hW0 _ ?_
  clear hW0 hHe
  generalize ([] : List Loc) = locs at hS ⊢
  refine lv_iload_n hx hb dX5_count_0 rfl (lv_at hl 1 rfl) ?_
  by_cases c_1_0 : a_1.toInt < 0 ∨ 9 < a_1.toInt
  · replace h := h.1 c_1_0
    refine lv_tableOut (tgt := 123) hx hb dX5_count_1 c_1_0 (by decide) ?_
    refine lv_bipush (v := (-101 : Int32)) hx hb dX5_count_123 (by decide) ?_
    exact W.iret hx hb hr (fun t ht hW => ⟨⟨(-101 : Int32), b_wants, rfl, h, by rw [ht]; exact hP, hD⟩, hS.F ht⟩) hS.2.2 dX5_count_125
  · replace h := h.2
    by_cases c_1_0_0 : a_1 = (0 : Int32)
    · replace h := h.1 c_1_0_0
      refine lv_tableIn (tgt := 56) hx hb dX5_count_1 (by rw [c_1_0_0]; decide) (by rw [c_1_0_0]; decide) (by rw [c_1_0_0]; rfl) (by decide) ?_
      refine lv_aload_n hx hb dX5_count_56 rfl (lv_at hl 0 rfl) ?_
      refine va_get (D := g.1) (ci := 5) (v := .ref (q 1)) (C := RX5) (T := TX5) (N := 16) hx hb hts iX5 hown hK.1 hP 0 rfl rfl 0 (by decide) (hts (.fieldLink RX5 7 "LightWheelModel" "m" "[I") (by decide +kernel)) (fun _ h9 => h9) rfl dX5_count_57 ?_
      refine lv_bipush (v := (11 : Int32)) hx hb dX5_count_60 (by decide) ?_
      refine xr_iald hx hb hK.1 hP 1 0 rfl rfl 11 rfl (Nat.le_of_ble_eq_true rfl) (Nat.le_of_ble_eq_true rfl) dX5_count_62 ?_
      exact W.iret hx hb hr (fun t ht hW => ⟨⟨(b_m 11), b_wants, rfl, h, by rw [ht]; exact hP, hD⟩, hS.F ht⟩) hS.2.2 dX5_count_63
    refine id ?_
    by_cases c_1_0_1 : a_1 = (1 : Int32)
    · replace h := h.2.1 c_1_0_1
      refine lv_tableIn (tgt := 64) hx hb dX5_count_1 (by rw [c_1_0_1]; decide) (by rw [c_1_0_1]; decide) (by rw [c_1_0_1]; rfl) (by decide) ?_
      refine lv_aload_n hx hb dX5_count_64 rfl (lv_at hl 0 rfl) ?_
      refine va_get (D := g.1) (ci := 5) (v := .ref (q 1)) (C := RX5) (T := TX5) (N := 16) hx hb hts iX5 hown hK.1 hP 0 rfl rfl 0 (by decide) (hts (.fieldLink RX5 7 "LightWheelModel" "m" "[I") (by decide +kernel)) (fun _ h9 => h9) rfl dX5_count_65 ?_
      refine lv_iconst (v := (4 : Int32)) hx hb dX5_count_68 (by decide) ?_
      refine xr_iald hx hb hK.1 hP 1 0 rfl rfl 4 rfl (Nat.le_of_ble_eq_true rfl) (Nat.le_of_ble_eq_true rfl) dX5_count_69 ?_
      exact W.iret hx hb hr (fun t ht hW => ⟨⟨(b_m 4), b_wants, rfl, h, by rw [ht]; exact hP, hD⟩, hS.F ht⟩) hS.2.2 dX5_count_70
    refine id ?_
    by_cases c_1_0_2 : a_1 = (2 : Int32)
    · replace h := h.2.2.1 c_1_0_2
      refine lv_tableIn (tgt := 71) hx hb dX5_count_1 (by rw [c_1_0_2]; decide) (by rw [c_1_0_2]; decide) (by rw [c_1_0_2]; rfl) (by decide) ?_
      refine lv_aload_n hx hb dX5_count_71 rfl (lv_at hl 0 rfl) ?_
      refine va_get (D := g.1) (ci := 5) (v := .ref (q 1)) (C := RX5) (T := TX5) (N := 16) hx hb hts iX5 hown hK.1 hP 0 rfl rfl 0 (by decide) (hts (.fieldLink RX5 7 "LightWheelModel" "m" "[I") (by decide +kernel)) (fun _ h9 => h9) rfl dX5_count_72 ?_
      refine lv_iconst (v := (5 : Int32)) hx hb dX5_count_75 (by decide) ?_
      refine xr_iald hx hb hK.1 hP 1 0 rfl rfl 5 rfl (Nat.le_of_ble_eq_true rfl) (Nat.le_of_ble_eq_true rfl) dX5_count_76 ?_
      exact W.iret hx hb hr (fun t ht hW => ⟨⟨(b_m 5), b_wants, rfl, h, by rw [ht]; exact hP, hD⟩, hS.F ht⟩) hS.2.2 dX5_count_77
    refine id ?_
    by_cases c_1_0_3 : a_1 = (3 : Int32)
    · replace h := h.2.2.2.1 c_1_0_3
      refine lv_tableIn (tgt := 78) hx hb dX5_count_1 (by rw [c_1_0_3]; decide) (by rw [c_1_0_3]; decide) (by rw [c_1_0_3]; rfl) (by decide) ?_
      refine lv_aload_n hx hb dX5_count_78 rfl (lv_at hl 0 rfl) ?_
      refine va_get (D := g.1) (ci := 5) (v := .ref (q 1)) (C := RX5) (T := TX5) (N := 16) hx hb hts iX5 hown hK.1 hP 0 rfl rfl 0 (by decide) (hts (.fieldLink RX5 7 "LightWheelModel" "m" "[I") (by decide +kernel)) (fun _ h9 => h9) rfl dX5_count_79 ?_
      refine lv_bipush (v := (6 : Int32)) hx hb dX5_count_82 (by decide) ?_
      refine xr_iald hx hb hK.1 hP 1 0 rfl rfl 6 rfl (Nat.le_of_ble_eq_true rfl) (Nat.le_of_ble_eq_true rfl) dX5_count_84 ?_
      exact W.iret hx hb hr (fun t ht hW => ⟨⟨(b_m 6), b_wants, rfl, h, by rw [ht]; exact hP, hD⟩, hS.F ht⟩) hS.2.2 dX5_count_85
    refine id ?_
    by_cases c_1_0_4 : a_1 = (4 : Int32)
    · replace h := h.2.2.2.2.1 c_1_0_4
      refine lv_tableIn (tgt := 86) hx hb dX5_count_1 (by rw [c_1_0_4]; decide) (by rw [c_1_0_4]; decide) (by rw [c_1_0_4]; rfl) (by decide) ?_
      refine lv_aload_n hx hb dX5_count_86 rfl (lv_at hl 0 rfl) ?_
      refine va_get (D := g.1) (ci := 5) (v := .ref (q 1)) (C := RX5) (T := TX5) (N := 16) hx hb hts iX5 hown hK.1 hP 0 rfl rfl 0 (by decide) (hts (.fieldLink RX5 7 "LightWheelModel" "m" "[I") (by decide +kernel)) (fun _ h9 => h9) rfl dX5_count_87 ?_
      refine lv_bipush (v := (7 : Int32)) hx hb dX5_count_90 (by decide) ?_
      refine xr_iald hx hb hK.1 hP 1 0 rfl rfl 7 rfl (Nat.le_of_ble_eq_true rfl) (Nat.le_of_ble_eq_true rfl) dX5_count_92 ?_
      exact W.iret hx hb hr (fun t ht hW => ⟨⟨(b_m 7), b_wants, rfl, h, by rw [ht]; exact hP, hD⟩, hS.F ht⟩) hS.2.2 dX5_count_93
    refine id ?_
    by_cases c_1_0_5 : a_1 = (5 : Int32)
    · replace h := h.2.2.2.2.2.1 c_1_0_5
      refine lv_tableIn (tgt := 94) hx hb dX5_count_1 (by rw [c_1_0_5]; decide) (by rw [c_1_0_5]; decide) (by rw [c_1_0_5]; rfl) (by decide) ?_
      refine lv_aload_n hx hb dX5_count_94 rfl (lv_at hl 0 rfl) ?_
      refine lv_iconst (v := (0 : Int32)) hx hb dX5_count_95 (by decide) ?_
      refine vp_callSi (W.runV (As := [.int (0 : Int32)]) (rest := []) ⟨hx, hb, hml, hown, hts⟩ (kX5_litPlaces l g q b_m b_written b_spare b_spareWritten b_states b_fifth b_oldest b_stateCount b_text b_textLength b_at b_read b_columns b_told b_wants b_comes (0 : Int32) _ h) (cwV 1 hts gX5_count_X5_litPlaces rfl rfl rfl hdX5_litPlaces ⟨(Nat.le_of_ble_eq_true rfl), (Nat.le_of_ble_eq_true rfl)⟩) (preV_R (r := (RX5, TX5, 16)) hK hP (ci := 5) (q0 := 0) rfl rfl) rfl rfl hl.1 rfl (lv_room (Nat.le_of_ble_eq_true rfl)) dX5_count_96 ⟨(Nat.le_of_ble_eq_true rfl), (Nat.le_of_ble_eq_true rfl)⟩) (fun r96_2 h => ?_)
      exact W.iret hx hb hr (fun t ht hW => ⟨⟨r96_2, b_wants, rfl, h, by rw [ht]; exact hP, hD⟩, hS.F ht⟩) hS.2.2 dX5_count_99
    refine id ?_
    by_cases c_1_0_6 : a_1 = (6 : Int32)
    · replace h := h.2.2.2.2.2.2.1 c_1_0_6
      refine lv_tableIn (tgt := 100) hx hb dX5_count_1 (by rw [c_1_0_6]; decide) (by rw [c_1_0_6]; decide) (by rw [c_1_0_6]; rfl) (by decide) ?_
      refine lv_aload_n hx hb dX5_count_100 rfl (lv_at hl 0 rfl) ?_
      have hFc := va_freeA hD hS hA
      refine va_calli (va_runV (As := []) (rest := []) ⟨hx, hb, hml, hown, hts⟩ (kX5_wrongPlaces l g q H.size b_m b_written b_spare b_spareWritten b_states b_fifth b_oldest b_stateCount b_text b_textLength b_at b_read b_columns b_told b_wants b_comes _ h) (cwV 0 hts gX5_count_X5_wrongPlaces rfl rfl rfl hdX5_wrongPlaces ⟨(Nat.le_of_ble_eq_true rfl), (Nat.le_of_ble_eq_true rfl)⟩) (preV_M (r := (RX5, TX5, 16)) hK hP hD (ci := 5) (q0 := 0) rfl rfl) rfl rfl hl.1 rfl (lv_room (Nat.le_of_ble_eq_true rfl)) dX5_count_101 ⟨(Nat.le_of_ble_eq_true rfl), (Nat.le_of_ble_eq_true rfl)⟩) hS (fun q _ h9 => hFc q h9) hFc (fun r101_4 u t H1 locs ht hvm hw hB hz1 hk1 hS => ?_)
      obtain ⟨b_wants_3, ez9⟩ : ∃ y, y = u := ⟨_, rfl⟩
      subst ez9
      replace h := hw
      try dsimp only at h
      obtain ⟨hP, hD⟩ := jn0 (wf := (wM g q b_m b_written b_spare b_spareWritten b_states b_fifth b_oldest b_stateCount b_text b_textLength b_at b_read b_columns b_told b_wants_3 b_comes)) hB ht hFc
      have hP : va_P g.1 vwCl (wM g q b_m b_written b_spare b_spareWritten b_states b_fifth b_oldest b_stateCount b_text b_textLength b_at b_read b_columns b_told b_wants_3 b_comes) H1 := hP
      have hD : va_D A (wM g q b_m b_written b_spare b_spareWritten b_states b_fifth b_oldest b_stateCount b_text b_textLength b_at b_read b_columns b_told b_wants_3 b_comes) := hD
      clear hk1 hz1 hB ht hw hFc
      generalize H1 = H at hP hS ⊢
      exact W.iret hx hb hr (fun t ht hW => ⟨⟨r101_4, b_wants_3, rfl, h, by rw [ht]; exact hP, hD⟩, hS.F ht⟩) hS.2.2 dX5_count_104
    refine id ?_
    by_cases c_1_0_7 : a_1 = (7 : Int32)
    · replace h := h.2.2.2.2.2.2.2.1 c_1_0_7
      refine lv_tableIn (tgt := 105) hx hb dX5_count_1 (by rw [c_1_0_7]; decide) (by rw [c_1_0_7]; decide) (by rw [c_1_0_7]; rfl) (by decide) ?_
      refine lv_aload_n hx hb dX5_count_105 rfl (lv_at hl 0 rfl) ?_
      refine va_get (D := g.1) (ci := 5) (v := .ref (q 1)) (C := RX5) (T := TX5) (N := 16) hx hb hts iX5 hown hK.1 hP 0 rfl rfl 0 (by decide) (hts (.fieldLink RX5 7 "LightWheelModel" "m" "[I") (by decide +kernel)) (fun _ h9 => h9) rfl dX5_count_106 ?_
      refine lv_bipush (v := (8 : Int32)) hx hb dX5_count_109 (by decide) ?_
      refine xr_iald hx hb hK.1 hP 1 0 rfl rfl 8 rfl (Nat.le_of_ble_eq_true rfl) (Nat.le_of_ble_eq_true rfl) dX5_count_111 ?_
      exact W.iret hx hb hr (fun t ht hW => ⟨⟨(b_m 8), b_wants, rfl, h, by rw [ht]; exact hP, hD⟩, hS.F ht⟩) hS.2.2 dX5_count_112
    refine id ?_
    by_cases c_1_0_8 : a_1 = (8 : Int32)
    · replace h := h.2.2.2.2.2.2.2.2.1 c_1_0_8
      refine lv_tableIn (tgt := 113) hx hb dX5_count_1 (by rw [c_1_0_8]; decide) (by rw [c_1_0_8]; decide) (by rw [c_1_0_8]; rfl) (by decide) ?_
      refine lv_aload_n hx hb dX5_count_113 rfl (lv_at hl 0 rfl) ?_
      refine va_get (D := g.1) (ci := 5) (v := .int b_stateCount) (C := RX5) (T := TX5) (N := 16) hx hb hts iX5 hown hK.1 hP 0 rfl rfl 7 (by decide) (hts (.fieldLink RX5 40 "LightWheelModel" "stateCount" "I") (by decide +kernel)) (fun _ h9 => h9) rfl dX5_count_114 ?_
      exact W.iret hx hb hr (fun t ht hW => ⟨⟨b_stateCount, b_wants, rfl, h, by rw [ht]; exact hP, hD⟩, hS.F ht⟩) hS.2.2 dX5_count_117
    refine id ?_
    have c_1_0_9 : a_1 = (9 : Int32) := by
      have z0 : a_1.toInt ≠ 0 := fun q => c_1_0_0 (Int32.toInt_inj.mp (q.trans (by decide)))
      have z1 : a_1.toInt ≠ 1 := fun q => c_1_0_1 (Int32.toInt_inj.mp (q.trans (by decide)))
      have z2 : a_1.toInt ≠ 2 := fun q => c_1_0_2 (Int32.toInt_inj.mp (q.trans (by decide)))
      have z3 : a_1.toInt ≠ 3 := fun q => c_1_0_3 (Int32.toInt_inj.mp (q.trans (by decide)))
      have z4 : a_1.toInt ≠ 4 := fun q => c_1_0_4 (Int32.toInt_inj.mp (q.trans (by decide)))
      have z5 : a_1.toInt ≠ 5 := fun q => c_1_0_5 (Int32.toInt_inj.mp (q.trans (by decide)))
      have z6 : a_1.toInt ≠ 6 := fun q => c_1_0_6 (Int32.toInt_inj.mp (q.trans (by decide)))
      have z7 : a_1.toInt ≠ 7 := fun q => c_1_0_7 (Int32.toInt_inj.mp (q.trans (by decide)))
      have z8 : a_1.toInt ≠ 8 := fun q => c_1_0_8 (Int32.toInt_inj.mp (q.trans (by decide)))
      exact Int32.toInt_inj.mp ((by omega : a_1.toInt = 9).trans (by decide))
    replace h := h.2.2.2.2.2.2.2.2.2 c_1_0_9
    refine lv_tableIn (tgt := 118) hx hb dX5_count_1 (by rw [c_1_0_9]; decide) (by rw [c_1_0_9]; decide) (by rw [c_1_0_9]; rfl) (by decide) ?_
    refine lv_aload_n hx hb dX5_count_118 rfl (lv_at hl 0 rfl) ?_
    refine va_get (D := g.1) (ci := 5) (v := .int b_textLength) (C := RX5) (T := TX5) (N := 16) hx hb hts iX5 hown hK.1 hP 0 rfl rfl 9 (by decide) (hts (.fieldLink RX5 100 "LightWheelModel" "textLength" "I") (by decide +kernel)) (fun _ h9 => h9) rfl dX5_count_119 ?_
    exact W.iret hx hb hr (fun t ht hW => ⟨⟨b_textLength, b_wants, rfl, h, by rw [ht]; exact hP, hD⟩, hS.F ht⟩) hS.2.2 dX5_count_122
