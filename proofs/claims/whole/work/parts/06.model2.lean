def PX5_lay (b_states : Nat → Int32) (b_fifth : Nat → Int32) (a_1 : Int32) (a_2 : Int32) (a_3 : Int32) (k : (Nat → Int32) → (Nat → Int32) → Prop) : Prop := (((4 : Int32) ≤ a_1 → (vp_in a_2 4668 ∧ (∀ b_fifth_3 : Nat → Int32, b_fifth_3 = upd b_fifth (Int32.toNatClampNeg a_2) a_3 → (k b_states b_fifth_3)))) ∧ (¬ (4 : Int32) ≤ a_1 → (vp_in (((4668 : Int32) * a_1) + a_2) 18672 ∧ (∀ b_states_5 : Nat → Int32, b_states_5 = upd b_states (Int32.toNatClampNeg (((4668 : Int32) * a_1) + a_2)) a_3 → (k b_states_5 b_fifth)))))
def PX5_record_L2 (b_m : Nat → Int32) (v1_3 : Int32) (kx_2 : Int32 → (Nat → Int32) → (Nat → Int32) → Prop) : Nat → Int32 → (Nat → Int32) → (Nat → Int32) → Prop
  | 0, _, _, _ => False
  | n_2 + 1, v2_4, b_states_5, b_fifth_6 => (((348 : Int32) ≤ v2_4 → kx_2 v2_4 b_states_5 b_fifth_6) ∧ (¬ (348 : Int32) ≤ v2_4 → (vp_in v2_4 348 ∧ PX5_lay b_states_5 b_fifth_6 v1_3 v2_4 (b_m (Int32.toNatClampNeg v2_4)) (fun b_states_9 b_fifth_10 => (∀ v2_11 : Int32, v2_11 = v2_4 + (1 : Int32) → PX5_record_L2 b_m v1_3 kx_2 n_2 v2_11 b_states_9 b_fifth_10)))))
def PX5_record_L3 (b_written : Nat → Int32) (v1_3 : Int32) (kx_3 : Int32 → (Nat → Int32) → (Nat → Int32) → Prop) : Nat → Int32 → (Nat → Int32) → (Nat → Int32) → Prop
  | 0, _, _, _ => False
  | n_3 + 1, v2_12, b_states_13, b_fifth_14 => (((8640 : Int32) ≤ v2_12 → kx_3 v2_12 b_states_13 b_fifth_14) ∧ (¬ (8640 : Int32) ≤ v2_12 → (vp_in v2_12 8640 ∧ (vp_in (v2_12 + (1 : Int32)) 8640 ∧ PX5_lay b_states_13 b_fifth_14 v1_3 ((348 : Int32) + (v2_12 / (2 : Int32))) ((b_written (Int32.toNatClampNeg v2_12)) ||| ((b_written (Int32.toNatClampNeg (v2_12 + (1 : Int32)))) <<< ((16 : Int32) &&& 31))) (fun b_states_18 b_fifth_19 => (∀ v2_20 : Int32, v2_20 = v2_12 + (2 : Int32) → PX5_record_L3 b_written v1_3 kx_3 n_3 v2_20 b_states_18 b_fifth_19))))))
def PX5_record_J1 (b_m : Nat → Int32) (b_written : Nat → Int32) (b_states : Nat → Int32) (b_fifth : Nat → Int32) (k : (Nat → Int32) → (Nat → Int32) → Int32 → Int32 → Prop) (b_oldest_1 : Int32) (b_stateCount_2 : Int32) : Prop := (∀ v1_3 : Int32, v1_3 = ((b_oldest_1 + b_stateCount_2) - (b_oldest_1 + b_stateCount_2) / (5 : Int32) * (5 : Int32)) → (∃ n_2, PX5_record_L2 b_m v1_3 (fun v2_4 b_states_5 b_fifth_6 => (∃ n_3, PX5_record_L3 b_written v1_3 (fun v2_12 b_states_13 b_fifth_14 => (∀ f_stateCount_21 : Int32, f_stateCount_21 = (b_stateCount_2 + (1 : Int32)) → (k b_states_13 b_fifth_14 b_oldest_1 f_stateCount_21))) n_3 (0 : Int32) b_states_5 b_fifth_6)) n_2 (0 : Int32) b_states b_fifth))
def PX5_record (b_m : Nat → Int32) (b_written : Nat → Int32) (b_states : Nat → Int32) (b_fifth : Nat → Int32) (b_oldest : Int32) (b_stateCount : Int32)  (k : (Nat → Int32) → (Nat → Int32) → Int32 → Int32 → Prop) : Prop := ((¬ b_stateCount = (5 : Int32) → PX5_record_J1 b_m b_written b_states b_fifth k b_oldest b_stateCount) ∧ (b_stateCount = (5 : Int32) → (∀ f_oldest_23 : Int32, f_oldest_23 = ((b_oldest + (1 : Int32)) - (b_oldest + (1 : Int32)) / (5 : Int32) * (5 : Int32)) → (∀ f_stateCount_24 : Int32, f_stateCount_24 = (b_stateCount - (1 : Int32)) → PX5_record_J1 b_m b_written b_states b_fifth k f_oldest_23 f_stateCount_24))))
def PX5_undo_L1 (b_states : Nat → Int32) (b_fifth : Nat → Int32) (v1_3 : Int32) (kx_1 : Int32 → (Nat → Int32) → Prop) : Nat → Int32 → (Nat → Int32) → Prop
  | 0, _, _ => False
  | n_1 + 1, v2_4, b_m_5 => (((348 : Int32) ≤ v2_4 → kx_1 v2_4 b_m_5) ∧ (¬ (348 : Int32) ≤ v2_4 → PX5_past b_states b_fifth v1_3 v2_4 (fun r49_7 => (vp_in v2_4 348 ∧ (∀ b_m_9 : Nat → Int32, b_m_9 = upd b_m_5 (Int32.toNatClampNeg v2_4) r49_7 → (∀ v2_10 : Int32, v2_10 = v2_4 + (1 : Int32) → PX5_undo_L1 b_states b_fifth v1_3 kx_1 n_1 v2_10 b_m_9))))))
def PX5_undo_L2 (b_states : Nat → Int32) (b_fifth : Nat → Int32) (v1_3 : Int32) (kx_2 : Int32 → (Nat → Int32) → Prop) : Nat → Int32 → (Nat → Int32) → Prop
  | 0, _, _ => False
  | n_2 + 1, v2_11, b_written_12 => (((8640 : Int32) ≤ v2_11 → kx_2 v2_11 b_written_12) ∧ (¬ (8640 : Int32) ≤ v2_11 → PX5_past b_states b_fifth v1_3 ((348 : Int32) + (v2_11 / (2 : Int32))) (fun r77_14 => (vp_in v2_11 8640 ∧ (∀ b_written_16 : Nat → Int32, b_written_16 = upd b_written_12 (Int32.toNatClampNeg v2_11) (r77_14 &&& (65535 : Int32)) → (vp_in (v2_11 + (1 : Int32)) 8640 ∧ (∀ b_written_18 : Nat → Int32, b_written_18 = upd b_written_16 (Int32.toNatClampNeg (v2_11 + (1 : Int32))) ((r77_14.toUInt32 >>> ((16 : Int32).toUInt32 &&& Int32.toUInt32 31)).toInt32) → (∀ v2_19 : Int32, v2_19 = v2_11 + (2 : Int32) → PX5_undo_L2 b_states b_fifth v1_3 kx_2 n_2 v2_19 b_written_18))))))))
def PX5_undo (b_m : Nat → Int32) (b_written : Nat → Int32) (b_states : Nat → Int32) (b_fifth : Nat → Int32) (b_oldest : Int32) (b_stateCount : Int32)  (k : Int32 → (Nat → Int32) → (Nat → Int32) → Int32 → Prop) : Prop := ((¬ b_stateCount = 0 → (∀ f_stateCount_2 : Int32, f_stateCount_2 = (b_stateCount - (1 : Int32)) → (∀ v1_3 : Int32, v1_3 = ((b_oldest + f_stateCount_2) - (b_oldest + f_stateCount_2) / (5 : Int32) * (5 : Int32)) → (∃ n_1, PX5_undo_L1 b_states b_fifth v1_3 (fun v2_4 b_m_5 => (∃ n_2, PX5_undo_L2 b_states b_fifth v1_3 (fun v2_11 b_written_12 => (k f_stateCount_2 b_m_5 b_written_12 f_stateCount_2)) n_2 (0 : Int32) b_written)) n_1 (0 : Int32) b_m)))) ∧ (b_stateCount = 0 → (k (-102 : Int32) b_m b_written b_stateCount)))
def PX5_setAside_L1 (b_m : Nat → Int32) (kx_1 : Int32 → (Nat → Int32) → Prop) : Nat → Int32 → (Nat → Int32) → Prop
  | 0, _, _ => False
  | n_1 + 1, v1_1, b_spare_2 => (((348 : Int32) ≤ v1_1 → kx_1 v1_1 b_spare_2) ∧ (¬ (348 : Int32) ≤ v1_1 → (vp_in v1_1 348 ∧ (vp_in v1_1 348 ∧ (∀ b_spare_6 : Nat → Int32, b_spare_6 = upd b_spare_2 (Int32.toNatClampNeg v1_1) (b_m (Int32.toNatClampNeg v1_1)) → (∀ v1_7 : Int32, v1_7 = v1_1 + (1 : Int32) → PX5_setAside_L1 b_m kx_1 n_1 v1_7 b_spare_6))))))
def PX5_setAside_L2 (b_written : Nat → Int32) (kx_2 : Int32 → (Nat → Int32) → Prop) : Nat → Int32 → (Nat → Int32) → Prop
  | 0, _, _ => False
  | n_2 + 1, v1_8, b_spareWritten_9 => (((8640 : Int32) ≤ v1_8 → kx_2 v1_8 b_spareWritten_9) ∧ (¬ (8640 : Int32) ≤ v1_8 → (vp_in v1_8 8640 ∧ (vp_in v1_8 8640 ∧ (∀ b_spareWritten_13 : Nat → Int32, b_spareWritten_13 = upd b_spareWritten_9 (Int32.toNatClampNeg v1_8) (b_written (Int32.toNatClampNeg v1_8)) → (∀ v1_14 : Int32, v1_14 = v1_8 + (1 : Int32) → PX5_setAside_L2 b_written kx_2 n_2 v1_14 b_spareWritten_13))))))
def PX5_setAside (b_m : Nat → Int32) (b_written : Nat → Int32) (b_spare : Nat → Int32) (b_spareWritten : Nat → Int32)  (k : (Nat → Int32) → (Nat → Int32) → Prop) : Prop := (∃ n_1, PX5_setAside_L1 b_m (fun v1_1 b_spare_2 => (∃ n_2, PX5_setAside_L2 b_written (fun v1_8 b_spareWritten_9 => (k b_spare_2 b_spareWritten_9)) n_2 (0 : Int32) b_spareWritten)) n_1 (0 : Int32) b_spare)
def PX5_bringBack_L1 (b_spare : Nat → Int32) (kx_1 : Int32 → (Nat → Int32) → Prop) : Nat → Int32 → (Nat → Int32) → Prop
  | 0, _, _ => False
  | n_1 + 1, v1_1, b_m_2 => (((348 : Int32) ≤ v1_1 → kx_1 v1_1 b_m_2) ∧ (¬ (348 : Int32) ≤ v1_1 → (vp_in v1_1 348 ∧ (vp_in v1_1 348 ∧ (∀ b_m_6 : Nat → Int32, b_m_6 = upd b_m_2 (Int32.toNatClampNeg v1_1) (b_spare (Int32.toNatClampNeg v1_1)) → (∀ v1_7 : Int32, v1_7 = v1_1 + (1 : Int32) → PX5_bringBack_L1 b_spare kx_1 n_1 v1_7 b_m_6))))))
def PX5_bringBack_L2 (b_spareWritten : Nat → Int32) (kx_2 : Int32 → (Nat → Int32) → Prop) : Nat → Int32 → (Nat → Int32) → Prop
  | 0, _, _ => False
  | n_2 + 1, v1_8, b_written_9 => (((8640 : Int32) ≤ v1_8 → kx_2 v1_8 b_written_9) ∧ (¬ (8640 : Int32) ≤ v1_8 → (vp_in v1_8 8640 ∧ (vp_in v1_8 8640 ∧ (∀ b_written_13 : Nat → Int32, b_written_13 = upd b_written_9 (Int32.toNatClampNeg v1_8) (b_spareWritten (Int32.toNatClampNeg v1_8)) → (∀ v1_14 : Int32, v1_14 = v1_8 + (1 : Int32) → PX5_bringBack_L2 b_spareWritten kx_2 n_2 v1_14 b_written_13))))))
def PX5_bringBack (b_m : Nat → Int32) (b_written : Nat → Int32) (b_spare : Nat → Int32) (b_spareWritten : Nat → Int32)  (k : (Nat → Int32) → (Nat → Int32) → Prop) : Prop := (∃ n_1, PX5_bringBack_L1 b_spare (fun v1_1 b_m_2 => (∃ n_2, PX5_bringBack_L2 b_spareWritten (fun v1_8 b_written_9 => (k b_m_2 b_written_9)) n_2 (0 : Int32) b_written)) n_1 (0 : Int32) b_m)
def PX5_putColor (b_m : Nat → Int32) (a_1 : Int32) (a_2 : Int32) (a_3 : Int32) (a_4 : Int32) (k : (Nat → Int32) → Prop) : Prop := PX5_cellOf a_1 a_2 a_3 (fun r3_1 => (∀ v6_2 : Int32, v6_2 = ((3 : Int32) * (a_3 - a_3 / (6 : Int32) * (6 : Int32))) → (vp_in r3_1 348 ∧ (vp_in r3_1 348 ∧ (∀ b_m_5 : Nat → Int32, b_m_5 = upd b_m (Int32.toNatClampNeg r3_1) (((b_m (Int32.toNatClampNeg r3_1)) &&& (((7 : Int32) <<< (v6_2 &&& 31)) ^^^ (-1 : Int32))) ||| (a_4 <<< (v6_2 &&& 31))) → (k b_m_5))))))
def PX5_addPicture_L1 (v2_8 : Int32) (kx_1 : Int32 → (Nat → Int32) → Prop) : Nat → Int32 → (Nat → Int32) → Prop
  | 0, _, _ => False
  | n_1 + 1, v3_18, b_m_19 => (((80 : Int32) ≤ v3_18 → kx_1 v3_18 b_m_19) ∧ (¬ (80 : Int32) ≤ v3_18 → (vp_in (((28 : Int32) + ((80 : Int32) * v2_8)) + v3_18) 348 ∧ (∀ b_m_22 : Nat → Int32, b_m_22 = upd b_m_19 (Int32.toNatClampNeg (((28 : Int32) + ((80 : Int32) * v2_8)) + v3_18)) (0 : Int32) → (∀ v3_23 : Int32, v3_23 = v3_18 + (1 : Int32) → PX5_addPicture_L1 v2_8 kx_1 n_1 v3_23 b_m_22)))))
def PX5_addPicture (b_m : Nat → Int32) (b_written : Nat → Int32) (b_states : Nat → Int32) (b_fifth : Nat → Int32) (b_oldest : Int32) (b_stateCount : Int32) (a_1 : Int32) (k : Int32 → (Nat → Int32) → (Nat → Int32) → (Nat → Int32) → Int32 → Int32 → Prop) : Prop := PX5_in a_1 (1 : Int32) (40 : Int32) (fun r4_1 => ((¬ r4_1 = 0 → ((¬ (b_m 11) = (4 : Int32) → PX5_record b_m b_written b_states b_fifth b_oldest b_stateCount  (fun b_states_4 b_fifth_5 b_oldest_6 b_stateCount_7 => (∀ v2_8 : Int32, v2_8 = (b_m 11) → (∀ b_m_9 : Nat → Int32, b_m_9 = upd b_m 11 ((b_m 11) + (1 : Int32)) → (vp_in (((12 : Int32) + ((4 : Int32) * v2_8)) + (0 : Int32)) 348 ∧ (∀ b_m_11 : Nat → Int32, b_m_11 = upd b_m_9 (Int32.toNatClampNeg (((12 : Int32) + ((4 : Int32) * v2_8)) + (0 : Int32))) a_1 → (vp_in (((12 : Int32) + ((4 : Int32) * v2_8)) + (1 : Int32)) 348 ∧ (∀ b_m_13 : Nat → Int32, b_m_13 = upd b_m_11 (Int32.toNatClampNeg (((12 : Int32) + ((4 : Int32) * v2_8)) + (1 : Int32))) (0 : Int32) → (vp_in (((12 : Int32) + ((4 : Int32) * v2_8)) + (2 : Int32)) 348 ∧ (∀ b_m_15 : Nat → Int32, b_m_15 = upd b_m_13 (Int32.toNatClampNeg (((12 : Int32) + ((4 : Int32) * v2_8)) + (2 : Int32))) (6 : Int32) → (vp_in (((12 : Int32) + ((4 : Int32) * v2_8)) + (3 : Int32)) 348 ∧ (∀ b_m_17 : Nat → Int32, b_m_17 = upd b_m_15 (Int32.toNatClampNeg (((12 : Int32) + ((4 : Int32) * v2_8)) + (3 : Int32))) (0 : Int32) → (∃ n_1, PX5_addPicture_L1 v2_8 (fun v3_18 b_m_19 => (k v2_8 b_m_19 b_states_4 b_fifth_5 b_oldest_6 b_stateCount_7)) n_1 (0 : Int32) b_m_17))))))))))))) ∧ ((b_m 11) = (4 : Int32) → (k (-103 : Int32) b_m b_states b_fifth b_oldest b_stateCount)))) ∧ (r4_1 = 0 → (k (-101 : Int32) b_m b_states b_fifth b_oldest b_stateCount))))
theorem hdX5_lay : yX5_lay.cls = RX5 ∧ yX5_lay.cls ≠ "java/lang/invoke/MethodHandle" ∧ yX5_lay.cls ≠ "java/lang/invoke/VarHandle" ∧ (parseMethodDescriptor yX5_lay.desc).map (fun d => d.parameters.length) = some 3 := by decide +kernel
set_option maxHeartbeats 4000000 in
set_option maxRecDepth 100000 in
theorem kX5_lay (l : Launch) (g : GG) (q : Nat → Nat) (sz : Nat) (b_m : Nat → Int32) (b_written : Nat → Int32) (b_spare : Nat → Int32) (b_spareWritten : Nat → Int32) (b_states : Nat → Int32) (b_fifth : Nat → Int32) (b_oldest : Int32) (b_stateCount : Int32) (b_text : Nat → Int32) (b_textLength : Int32) (b_at : Int32) (b_read : Nat → Int32) (b_columns : Int32) (b_told : Int32) (b_wants : Nat → Int32) (b_comes : Nat → Int32) (a_1 : Int32) (a_2 : Int32) (a_3 : Int32) (k : (Nat → Int32) → (Nat → Int32) → Prop) (h : PX5_lay b_states b_fifth a_1 a_2 a_3 k) : Met l yX5_lay wsX5_lay ({ frames := 0, cells := 0, slots := 0, locals := 0 }) (PreM g [.ref (q 0), .int a_1, .int a_2, .int a_3] (wM g q b_m b_written b_spare b_spareWritten b_states b_fifth b_oldest b_stateCount b_text b_textLength b_at b_read b_columns b_told b_wants b_comes) sz) (va_Qv (fun u : (Nat → Int32) × (Nat → Int32) => k u.1 u.2) (fun u t => PostB g (va_A (wM g q b_m b_written b_spare b_spareWritten b_states b_fifth b_oldest b_stateCount b_text b_textLength b_at b_read b_columns b_told b_wants b_comes) sz) (wM g q b_m b_written b_spare b_spareWritten u.1 u.2 b_oldest b_stateCount b_text b_textLength b_at b_read b_columns b_told b_wants b_comes) t) (va_A (wM g q b_m b_written b_spare b_spareWritten b_states b_fifth b_oldest b_stateCount b_text b_textLength b_at b_read b_columns b_told b_wants b_comes) sz)) 0 0 (va_A (wM g q b_m b_written b_spare b_spareWritten b_states b_fifth b_oldest b_stateCount b_text b_textLength b_at b_read b_columns b_told b_wants b_comes) sz) := by
  refine Met.ofW (cc := cX5_lay) (maxL := 4) (ret := none) (by decide) rfl ?_
  intro p e s m args below meth c s₁ B hml hv
  obtain ⟨rfl, hsz, hP, hK, hD0⟩ := hv
  have hx := B.exec
  have hb := B.bytes
  have hr := B.returns
  have hts := atoms_spec (ws := wsX5_lay) B.pre
  have hown : s.vm.findClass RX5 = some m.cls := findClass_of_methodNamed B.named
  have hlocks := B.notSynchronized
  have iX5 : ∀ w ∈ wsX50, w ∈ wsX5_lay := by decide +kernel
  subst hsz
  have hD := hD0.self (sz := s.heap.size)
  generalize hAe : va_A (wM g q b_m b_written b_spare b_spareWritten b_states b_fifth b_oldest b_stateCount b_text b_textLength b_at b_read b_columns b_told b_wants b_comes) s.heap.size = A at hD ⊢
  have hA : ∀ q : Nat, s.heap.size ≤ q → A q := fun q h => by rw [← hAe]; exact Or.inr h
  clear hAe hD0
  have hS : va_S A s.heap s.heap [] := va_S.rf
  have hl := lv_entry ([.ref (q 0), .int a_1, .int a_2, .int a_3]) (n := 4) (Nat.le_of_ble_eq_true rfl)
  rw [lg_entry_eq]
  generalize (lg_sl ([.ref (q 0), .int a_1, .int a_2, .int a_3]) ++ List.replicate (4 - (lg_sl ([.ref (q 0), .int a_1, .int a_2, .int a_3])).length) Slot.unset).toArray = ls at hl ⊢
  have hl : lv_has ls 4 [(0, .ref (q 0)), (1, .int a_1), (2, .int a_2), (3, .int a_3)] := hl
  unfold PX5_lay at h
  obtain ⟨H, hHe⟩ : ∃ y, y = s.heap := ⟨_, rfl⟩
  rw [← hHe] at hP
  have hS : va_S A s.heap H [] := by rw [hHe]; exact hS
  have hW0 : ∀ (Q : State → Prop), W p l e (headSpec wsX5_lay ({ frames := 0, cells := 0, slots := 0, locals := 0 })).room s m ([.ref (q 0), .int a_1, .int a_2, .int a_3] : List Value).toArray below meth c H [] 0 0 Q (F0 m 0 ls []) → W p l e (headSpec wsX5_lay ({ frames := 0, cells := 0, slots := 0, locals := 0 })).room s m ([.ref (q 0), .int a_1, .int a_2, .int a_3] : List Value).toArray below meth c s.heap [] 0 0 Q (F0 m 0 ls []) := by rw [hHe]; exact fun _ h9 => h9
  refine hW0 _ ?_
  clear hW0 hHe
  generalize ([] : List Loc) = locs at hS ⊢
  refine lv_iload_n hx hb dX5_lay_0 rfl (lv_at hl 1 rfl) ?_
  refine lv_iconst (v := (4 : Int32)) hx hb dX5_lay_1 (by decide) ?_
  refine lv_icmp_ge (tgt := 21) hx hb dX5_lay_2 (by decide) (fun c_2_0 => ?_) (fun c_2_0 => ?_)
  · replace h := h.1 c_2_0
    refine lv_aload_n hx hb dX5_lay_21 rfl (lv_at hl 0 rfl) ?_
    refine va_get (D := g.1) (ci := 5) (v := .ref (q 6)) (C := RX5) (T := TX5) (N := 16) hx hb hts iX5 hown hK.1 hP 0 rfl rfl 5 (by decide) (hts (.fieldLink RX5 25 "LightWheelModel" "fifth" "[I") (by decide +kernel)) (fun _ h9 => h9) rfl dX5_lay_22 ?_
    refine lv_iload_n hx hb dX5_lay_25 rfl (lv_at hl 2 rfl) ?_
    refine lv_iload_n hx hb dX5_lay_26 rfl (lv_at hl 3 rfl) ?_
    have o_27_1 := h.1
    replace h := h.2
    refine xs_iast hx hb hK.1 hP hD hS 6 0 rfl rfl o_27_1 dX5_lay_27 (fun b_fifth_3 e_b_fifth_3 H locs hP hD hS => ?_)
    replace h := h b_fifth_3 e_b_fifth_3
    have hP : va_P g.1 vwCl (wM g q b_m b_written b_spare b_spareWritten b_states b_fifth_3 b_oldest b_stateCount b_text b_textLength b_at b_read b_columns b_told b_wants b_comes) H := hP
    have hD : va_D A (wM g q b_m b_written b_spare b_spareWritten b_states b_fifth_3 b_oldest b_stateCount b_text b_textLength b_at b_read b_columns b_told b_wants b_comes) := hD
    exact W.vret hx hb hr (fun t ht hW => ⟨⟨(b_states, b_fifth_3), rfl, h, by rw [ht]; exact hP, hD⟩, hS.F ht⟩) hS.2.2 dX5_lay_28
  · replace h := h.2 c_2_0
    refine lv_aload_n hx hb dX5_lay_5 rfl (lv_at hl 0 rfl) ?_
    refine va_get (D := g.1) (ci := 5) (v := .ref (q 5)) (C := RX5) (T := TX5) (N := 16) hx hb hts iX5 hown hK.1 hP 0 rfl rfl 4 (by decide) (hts (.fieldLink RX5 22 "LightWheelModel" "states" "[I") (by decide +kernel)) (fun _ h9 => h9) rfl dX5_lay_6 ?_
    refine lv_sipush (v := (4668 : Int32)) hx hb dX5_lay_9 (by decide) ?_
    refine lv_iload_n hx hb dX5_lay_12 rfl (lv_at hl 1 rfl) ?_
    refine lv_imul hx hb dX5_lay_13 ?_
    refine lv_iload_n hx hb dX5_lay_14 rfl (lv_at hl 2 rfl) ?_
    refine lv_iadd hx hb dX5_lay_15 ?_
    refine lv_iload_n hx hb dX5_lay_16 rfl (lv_at hl 3 rfl) ?_
    have o_17_3 := h.1
    replace h := h.2
    refine xs_iast hx hb hK.1 hP hD hS 5 0 rfl rfl o_17_3 dX5_lay_17 (fun b_states_5 e_b_states_5 H locs hP hD hS => ?_)
    replace h := h b_states_5 e_b_states_5
    have hP : va_P g.1 vwCl (wM g q b_m b_written b_spare b_spareWritten b_states_5 b_fifth b_oldest b_stateCount b_text b_textLength b_at b_read b_columns b_told b_wants b_comes) H := hP
    have hD : va_D A (wM g q b_m b_written b_spare b_spareWritten b_states_5 b_fifth b_oldest b_stateCount b_text b_textLength b_at b_read b_columns b_told b_wants b_comes) := hD
    refine lv_goto (tgt := 28) hx hb dX5_lay_18 (by decide) ?_
    exact W.vret hx hb hr (fun t ht hW => ⟨⟨(b_states_5, b_fifth), rfl, h, by rw [ht]; exact hP, hD⟩, hS.F ht⟩) hS.2.2 dX5_lay_28
theorem hdX5_record : yX5_record.cls = RX5 ∧ yX5_record.cls ≠ "java/lang/invoke/MethodHandle" ∧ yX5_record.cls ≠ "java/lang/invoke/VarHandle" ∧ (parseMethodDescriptor yX5_record.desc).map (fun d => d.parameters.length) = some 0 := by decide +kernel
set_option maxHeartbeats 4000000 in
set_option maxRecDepth 100000 in
theorem kX5_record (l : Launch) (g : GG) (q : Nat → Nat) (sz : Nat) (b_m : Nat → Int32) (b_written : Nat → Int32) (b_spare : Nat → Int32) (b_spareWritten : Nat → Int32) (b_states : Nat → Int32) (b_fifth : Nat → Int32) (b_oldest : Int32) (b_stateCount : Int32) (b_text : Nat → Int32) (b_textLength : Int32) (b_at : Int32) (b_read : Nat → Int32) (b_columns : Int32) (b_told : Int32) (b_wants : Nat → Int32) (b_comes : Nat → Int32)  (k : (Nat → Int32) → (Nat → Int32) → Int32 → Int32 → Prop) (h : PX5_record b_m b_written b_states b_fifth b_oldest b_stateCount  k) : Met l yX5_record wsX5_record ({ frames := 1, cells := 0, slots := 0, locals := 23 }) (PreM g [.ref (q 0)] (wM g q b_m b_written b_spare b_spareWritten b_states b_fifth b_oldest b_stateCount b_text b_textLength b_at b_read b_columns b_told b_wants b_comes) sz) (va_Qv (fun u : (Nat → Int32) × (Nat → Int32) × Int32 × Int32 => k u.1 u.2.1 u.2.2.1 u.2.2.2) (fun u t => PostB g (va_A (wM g q b_m b_written b_spare b_spareWritten b_states b_fifth b_oldest b_stateCount b_text b_textLength b_at b_read b_columns b_told b_wants b_comes) sz) (wM g q b_m b_written b_spare b_spareWritten u.1 u.2.1 u.2.2.1 u.2.2.2 b_text b_textLength b_at b_read b_columns b_told b_wants b_comes) t) (va_A (wM g q b_m b_written b_spare b_spareWritten b_states b_fifth b_oldest b_stateCount b_text b_textLength b_at b_read b_columns b_told b_wants b_comes) sz)) 0 0 (va_A (wM g q b_m b_written b_spare b_spareWritten b_states b_fifth b_oldest b_stateCount b_text b_textLength b_at b_read b_columns b_told b_wants b_comes) sz) := by
  refine Met.ofW (cc := cX5_record) (maxL := 3) (ret := none) (by decide) rfl ?_
  intro p e s m args below meth c s₁ B hml hv
  obtain ⟨rfl, hsz, hP, hK, hD0⟩ := hv
  have hx := B.exec
  have hb := B.bytes
  have hr := B.returns
  have hts := atoms_spec (ws := wsX5_record) B.pre
  have hown : s.vm.findClass RX5 = some m.cls := findClass_of_methodNamed B.named
  have hlocks := B.notSynchronized
  have iX5 : ∀ w ∈ wsX50, w ∈ wsX5_record := by decide +kernel
  subst hsz
  have hD := hD0.self (sz := s.heap.size)
  generalize hAe : va_A (wM g q b_m b_written b_spare b_spareWritten b_states b_fifth b_oldest b_stateCount b_text b_textLength b_at b_read b_columns b_told b_wants b_comes) s.heap.size = A at hD ⊢
  have hA : ∀ q : Nat, s.heap.size ≤ q → A q := fun q h => by rw [← hAe]; exact Or.inr h
  clear hAe hD0
  have hS : va_S A s.heap s.heap [] := va_S.rf
  have hl := lv_entry ([.ref (q 0)]) (n := 3) (Nat.le_of_ble_eq_true rfl)
  rw [lg_entry_eq]
  generalize (lg_sl ([.ref (q 0)]) ++ List.replicate (3 - (lg_sl ([.ref (q 0)])).length) Slot.unset).toArray = ls at hl ⊢
  have hl : lv_has ls 3 [(0, .ref (q 0))] := hl
  unfold PX5_record at h
  obtain ⟨H, hHe⟩ : ∃ y, y = s.heap := ⟨_, rfl⟩
  rw [← hHe] at hP
  have hS : va_S A s.heap H [] := by rw [hHe]; exact hS
  have hW0 : ∀ (Q : State → Prop), W p l e (headSpec wsX5_record ({ frames := 1, cells := 0, slots := 0, locals := 23 })).room s m ([.ref (q 0)] : List Value).toArray below meth c H [] 0 0 Q (F0 m 0 ls []) → W p l e (headSpec wsX5_record ({ frames := 1, cells := 0, slots := 0, locals := 23 })).room s m ([.ref (q 0)] : List Value).toArray below meth c s.heap [] 0 0 Q (F0 m 0 ls []) := by rw [hHe]; exact fun _ h9 => h9
  refine hW0 _ ?_
  clear hW0 hHe
  generalize ([] : List Loc) = locs at hS ⊢
  refine lv_aload_n hx hb dX5_record_0 rfl (lv_at hl 0 rfl) ?_
  refine va_get (D := g.1) (ci := 5) (v := .int b_stateCount) (C := RX5) (T := TX5) (N := 16) hx hb hts iX5 hown hK.1 hP 0 rfl rfl 7 (by decide) (hts (.fieldLink RX5 40 "LightWheelModel" "stateCount" "I") (by decide +kernel)) (fun _ h9 => h9) rfl dX5_record_1 ?_
  refine lv_iconst (v := (5 : Int32)) hx hb dX5_record_4 (by decide) ?_
  have tail_1 : ∀ (b_oldest_1 : Int32) (b_stateCount_2 : Int32) (H : Heap) (locs : List Loc) (ls : Array Slot), PX5_record_J1 b_m b_written b_states b_fifth k b_oldest_1 b_stateCount_2 → va_P g.1 vwCl (wM g q b_m b_written b_spare b_spareWritten b_states b_fifth b_oldest_1 b_stateCount_2 b_text b_textLength b_at b_read b_columns b_told b_wants b_comes) H → va_D A (wM g q b_m b_written b_spare b_spareWritten b_states b_fifth b_oldest_1 b_stateCount_2 b_text b_textLength b_at b_read b_columns b_told b_wants b_comes) → va_S A s.heap H locs → lv_has ls 3 [(0, .ref (q 0))] → W p l e (headSpec wsX5_record ({ frames := 1, cells := 0, slots := 0, locals := 23 })).room s m ([.ref (q 0)] : List Value).toArray below meth c H locs 0 0 (MQ below (va_Qv (fun u : (Nat → Int32) × (Nat → Int32) × Int32 × Int32 => k u.1 u.2.1 u.2.2.1 u.2.2.2) (fun u t => PostB g A (wM g q b_m b_written b_spare b_spareWritten u.1 u.2.1 u.2.2.1 u.2.2.2 b_text b_textLength b_at b_read b_columns b_told b_wants b_comes) t) A) ([.ref (q 0)] : List Value).toArray s 0 0 A) (F0 m 30 ls []) := by
    intro b_oldest_1 b_stateCount_2 H locs ls h hP hD hS hl
    unfold PX5_record_J1 at h
    refine lv_aload_n hx hb dX5_record_30 rfl (lv_at hl 0 rfl) ?_
    refine va_get (D := g.1) (ci := 5) (v := .int b_oldest_1) (C := RX5) (T := TX5) (N := 16) hx hb hts iX5 hown hK.1 hP 0 rfl rfl 6 (by decide) (hts (.fieldLink RX5 44 "LightWheelModel" "oldest" "I") (by decide +kernel)) (fun _ h9 => h9) rfl dX5_record_31 ?_
    refine lv_aload_n hx hb dX5_record_34 rfl (lv_at hl 0 rfl) ?_
    refine va_get (D := g.1) (ci := 5) (v := .int b_stateCount_2) (C := RX5) (T := TX5) (N := 16) hx hb hts iX5 hown hK.1 hP 0 rfl rfl 7 (by decide) (hts (.fieldLink RX5 40 "LightWheelModel" "stateCount" "I") (by decide +kernel)) (fun _ h9 => h9) rfl dX5_record_35 ?_
    refine lv_iadd hx hb dX5_record_38 ?_
    refine lv_iconst (v := (5 : Int32)) hx hb dX5_record_39 (by decide) ?_
    refine lv_irem hx hb dX5_record_40 (by decide) ?_
    refine lv_topi (fun v1_3 e_v1_3 => ?_)
    replace h := h v1_3 e_v1_3
    refine lv_istore_n (lv' := [(1, .int v1_3), (0, .ref (q 0))]) hx hb dX5_record_41 rfl hl (by decide) rfl (fun ls hl => ?_)
    refine lv_iconst (v := (0 : Int32)) hx hb dX5_record_42 (by decide) ?_
    refine lv_istore_n (lv' := [(2, .int (0 : Int32)), (1, .int v1_3), (0, .ref (q 0))]) hx hb dX5_record_43 rfl hl (by decide) rfl (fun ls hl => ?_)
    have loop_2 : ∀ (kx_2 : Int32 → (Nat → Int32) → (Nat → Int32) → Prop), (∀ (v2_4 : Int32) (b_states_5 : Nat → Int32) (b_fifth_6 : Nat → Int32) (H : Heap) (locs : List Loc) (ls : Array Slot), kx_2 v2_4 b_states_5 b_fifth_6 → va_P g.1 vwCl (wM g q b_m b_written b_spare b_spareWritten b_states_5 b_fifth_6 b_oldest_1 b_stateCount_2 b_text b_textLength b_at b_read b_columns b_told b_wants b_comes) H → va_D A (wM g q b_m b_written b_spare b_spareWritten b_states_5 b_fifth_6 b_oldest_1 b_stateCount_2 b_text b_textLength b_at b_read b_columns b_told b_wants b_comes) → va_S A s.heap H locs → lv_has ls 3 [(2, .int v2_4), (1, .int v1_3), (0, .ref (q 0))] → W p l e (headSpec wsX5_record ({ frames := 1, cells := 0, slots := 0, locals := 23 })).room s m ([.ref (q 0)] : List Value).toArray below meth c H locs 0 0 (MQ below (va_Qv (fun u : (Nat → Int32) × (Nat → Int32) × Int32 × Int32 => k u.1 u.2.1 u.2.2.1 u.2.2.2) (fun u t => PostB g A (wM g q b_m b_written b_spare b_spareWritten u.1 u.2.1 u.2.2.1 u.2.2.2 b_text b_textLength b_at b_read b_columns b_told b_wants b_comes) t) A) ([.ref (q 0)] : List Value).toArray s 0 0 A) (F0 m 69 ls [])) → ∀ (n_2 : Nat) (v2_4 : Int32) (b_states_5 : Nat → Int32) (b_fifth_6 : Nat → Int32) (H : Heap) (locs : List Loc) (ls : Array Slot), PX5_record_L2 b_m v1_3 kx_2 n_2 v2_4 b_states_5 b_fifth_6 → va_P g.1 vwCl (wM g q b_m b_written b_spare b_spareWritten b_states_5 b_fifth_6 b_oldest_1 b_stateCount_2 b_text b_textLength b_at b_read b_columns b_told b_wants b_comes) H → va_D A (wM g q b_m b_written b_spare b_spareWritten b_states_5 b_fifth_6 b_oldest_1 b_stateCount_2 b_text b_textLength b_at b_read b_columns b_told b_wants b_comes) → va_S A s.heap H locs → lv_has ls 3 [(2, .int v2_4), (1, .int v1_3), (0, .ref (q 0))] → W p l e (headSpec wsX5_record ({ frames := 1, cells := 0, slots := 0, locals := 23 })).room s m ([.ref (q 0)] : List Value).toArray below meth c H locs 0 0 (MQ below (va_Qv (fun u : (Nat → Int32) × (Nat → Int32) × Int32 × Int32 => k u.1 u.2.1 u.2.2.1 u.2.2.2) (fun u t => PostB g A (wM g q b_m b_written b_spare b_spareWritten u.1 u.2.1 u.2.2.1 u.2.2.2 b_text b_textLength b_at b_read b_columns b_told b_wants b_comes) t) A) ([.ref (q 0)] : List Value).toArray s 0 0 A) (F0 m 44 ls []) := by
      intro kx_2 hexit_2 n_2
      induction n_2 with
      | zero => exact fun _ _ _ _ _ _ h _ _ _ _ => (h : False).elim
      | succ n_2 ih_2 =>
        intro v2_4 b_states_5 b_fifth_6 H locs ls h hP hD hS hl
        unfold PX5_record_L2 at h
        refine lv_iload_n hx hb dX5_record_44 rfl (lv_at hl 0 rfl) ?_
        refine lv_sipush (v := (348 : Int32)) hx hb dX5_record_45 (by decide) ?_
        refine lv_icmp_ge (tgt := 69) hx hb dX5_record_48 (by decide) (fun c_48_6 => ?_) (fun c_48_6 => ?_)
        · replace h := h.1 c_48_6
          exact hexit_2 v2_4 b_states_5 b_fifth_6 H locs ls h hP hD hS (lv_sub hl [0, 1, 2] rfl)
        · replace h := h.2 c_48_6
          refine lv_aload_n hx hb dX5_record_51 rfl (lv_at hl 2 rfl) ?_
          refine lv_iload_n hx hb dX5_record_52 rfl (lv_at hl 1 rfl) ?_
          refine lv_iload_n hx hb dX5_record_53 rfl (lv_at hl 0 rfl) ?_
          refine lv_aload_n hx hb dX5_record_54 rfl (lv_at hl 2 rfl) ?_
          refine va_get (D := g.1) (ci := 5) (v := .ref (q 1)) (C := RX5) (T := TX5) (N := 16) hx hb hts iX5 hown hK.1 hP 0 rfl rfl 0 (by decide) (hts (.fieldLink RX5 7 "LightWheelModel" "m" "[I") (by decide +kernel)) (fun _ h9 => h9) rfl dX5_record_55 ?_
          refine lv_iload_n hx hb dX5_record_58 rfl (lv_at hl 0 rfl) ?_
          have o_59_7 := h.1
          replace h := h.2
          refine va_iald hx hb hK.1 hP 1 0 rfl rfl o_59_7 dX5_record_59 ?_
          have hFc := va_freeA hD hS hA
          refine va_callv (va_runV (As := [.int v1_3, .int v2_4, .int (b_m (Int32.toNatClampNeg v2_4))]) (rest := []) ⟨hx, hb, hml, hown, hts⟩ (kX5_lay l g q H.size b_m b_written b_spare b_spareWritten b_states_5 b_fifth_6 b_oldest_1 b_stateCount_2 b_text b_textLength b_at b_read b_columns b_told b_wants b_comes v1_3 v2_4 (b_m (Int32.toNatClampNeg v2_4)) _ h) (cwV 3 hts gX5_record_X5_lay rfl rfl rfl hdX5_lay ⟨(Nat.le_of_ble_eq_true rfl), (Nat.le_of_ble_eq_true rfl)⟩) (preV_M (r := (RX5, TX5, 16)) hK hP hD (ci := 5) (q0 := 0) rfl rfl) rfl rfl hl.1 rfl (lv_room (Nat.le_of_ble_eq_true rfl)) dX5_record_60 ⟨(Nat.le_of_ble_eq_true rfl), (Nat.le_of_ble_eq_true rfl)⟩) hS (fun q _ h9 => hFc q h9) hFc (fun u t H1 locs ht hvm hw hB hz1 hk1 hS => ?_)
          obtain ⟨b_states_9, b_fifth_10⟩ := u
          replace h := hw
          try dsimp only at h
          obtain ⟨hP, hD⟩ := jn0 (wf := (wM g q b_m b_written b_spare b_spareWritten b_states_9 b_fifth_10 b_oldest_1 b_stateCount_2 b_text b_textLength b_at b_read b_columns b_told b_wants b_comes)) hB ht hFc
          have hP : va_P g.1 vwCl (wM g q b_m b_written b_spare b_spareWritten b_states_9 b_fifth_10 b_oldest_1 b_stateCount_2 b_text b_textLength b_at b_read b_columns b_told b_wants b_comes) H1 := hP
          have hD : va_D A (wM g q b_m b_written b_spare b_spareWritten b_states_9 b_fifth_10 b_oldest_1 b_stateCount_2 b_text b_textLength b_at b_read b_columns b_told b_wants b_comes) := hD
          clear hk1 hz1 hB ht hw hFc
          generalize H1 = H at hP hS ⊢
          obtain ⟨v2_11, e_v2_11⟩ : ∃ y : Int32, y = v2_4 + (1 : Int32) := ⟨_, rfl⟩
          replace h := h v2_11 e_v2_11
          refine lv_iinc (v := v2_11) (lv' := [(2, .int v2_11), (1, .int v1_3), (0, .ref (q 0))]) hx hb dX5_record_63 hl (k := 0) rfl (by rw [e_v2_11]; rfl) (by decide) rfl (fun ls hl => ?_)
          refine lv_goto (tgt := 44) hx hb dX5_record_66 (by decide) ?_
          exact ih_2 v2_11 b_states_9 b_fifth_10 H locs ls h hP hD hS (lv_sub hl [0, 1, 2] rfl)
    obtain ⟨n_2, h⟩ := h
    refine loop_2 _ ?_ n_2 (0 : Int32) b_states b_fifth _ _ ls h hP hD hS (lv_sub hl [0, 1, 2] rfl)
    intro v2_4 b_states_5 b_fifth_6 H locs ls h hP hD hS hl
    refine lv_iconst (v := (0 : Int32)) hx hb dX5_record_69 (by decide) ?_
    refine lv_istore_n (lv' := [(2, .int (0 : Int32)), (1, .int v1_3), (0, .ref (q 0))]) hx hb dX5_record_70 rfl hl (by decide) rfl (fun ls hl => ?_)
    have loop_3 : ∀ (kx_3 : Int32 → (Nat → Int32) → (Nat → Int32) → Prop), (∀ (v2_12 : Int32) (b_states_13 : Nat → Int32) (b_fifth_14 : Nat → Int32) (H : Heap) (locs : List Loc) (ls : Array Slot), kx_3 v2_12 b_states_13 b_fifth_14 → va_P g.1 vwCl (wM g q b_m b_written b_spare b_spareWritten b_states_13 b_fifth_14 b_oldest_1 b_stateCount_2 b_text b_textLength b_at b_read b_columns b_told b_wants b_comes) H → va_D A (wM g q b_m b_written b_spare b_spareWritten b_states_13 b_fifth_14 b_oldest_1 b_stateCount_2 b_text b_textLength b_at b_read b_columns b_told b_wants b_comes) → va_S A s.heap H locs → lv_has ls 3 [(2, .int v2_12), (1, .int v1_3), (0, .ref (q 0))] → W p l e (headSpec wsX5_record ({ frames := 1, cells := 0, slots := 0, locals := 23 })).room s m ([.ref (q 0)] : List Value).toArray below meth c H locs 0 0 (MQ below (va_Qv (fun u : (Nat → Int32) × (Nat → Int32) × Int32 × Int32 => k u.1 u.2.1 u.2.2.1 u.2.2.2) (fun u t => PostB g A (wM g q b_m b_written b_spare b_spareWritten u.1 u.2.1 u.2.2.1 u.2.2.2 b_text b_textLength b_at b_read b_columns b_told b_wants b_comes) t) A) ([.ref (q 0)] : List Value).toArray s 0 0 A) (F0 m 114 ls [])) → ∀ (n_3 : Nat) (v2_12 : Int32) (b_states_13 : Nat → Int32) (b_fifth_14 : Nat → Int32) (H : Heap) (locs : List Loc) (ls : Array Slot), PX5_record_L3 b_written v1_3 kx_3 n_3 v2_12 b_states_13 b_fifth_14 → va_P g.1 vwCl (wM g q b_m b_written b_spare b_spareWritten b_states_13 b_fifth_14 b_oldest_1 b_stateCount_2 b_text b_textLength b_at b_read b_columns b_told b_wants b_comes) H → va_D A (wM g q b_m b_written b_spare b_spareWritten b_states_13 b_fifth_14 b_oldest_1 b_stateCount_2 b_text b_textLength b_at b_read b_columns b_told b_wants b_comes) → va_S A s.heap H locs → lv_has ls 3 [(2, .int v2_12), (1, .int v1_3), (0, .ref (q 0))] → W p l e (headSpec wsX5_record ({ frames := 1, cells := 0, slots := 0, locals := 23 })).room s m ([.ref (q 0)] : List Value).toArray below meth c H locs 0 0 (MQ below (va_Qv (fun u : (Nat → Int32) × (Nat → Int32) × Int32 × Int32 => k u.1 u.2.1 u.2.2.1 u.2.2.2) (fun u t => PostB g A (wM g q b_m b_written b_spare b_spareWritten u.1 u.2.1 u.2.2.1 u.2.2.2 b_text b_textLength b_at b_read b_columns b_told b_wants b_comes) t) A) ([.ref (q 0)] : List Value).toArray s 0 0 A) (F0 m 71 ls []) := by
      intro kx_3 hexit_3 n_3
      induction n_3 with
      | zero => exact fun _ _ _ _ _ _ h _ _ _ _ => (h : False).elim
      | succ n_3 ih_3 =>
        intro v2_12 b_states_13 b_fifth_14 H locs ls h hP hD hS hl
        unfold PX5_record_L3 at h
        refine lv_iload_n hx hb dX5_record_71 rfl (lv_at hl 0 rfl) ?_
        refine lv_sipush (v := (8640 : Int32)) hx hb dX5_record_72 (by decide) ?_
        refine lv_icmp_ge (tgt := 114) hx hb dX5_record_75 (by decide) (fun c_75_14 => ?_) (fun c_75_14 => ?_)
        · replace h := h.1 c_75_14
          exact hexit_3 v2_12 b_states_13 b_fifth_14 H locs ls h hP hD hS (lv_sub hl [0, 1, 2] rfl)
        · replace h := h.2 c_75_14
          refine lv_aload_n hx hb dX5_record_78 rfl (lv_at hl 2 rfl) ?_
          refine lv_iload_n hx hb dX5_record_79 rfl (lv_at hl 1 rfl) ?_
          refine lv_sipush (v := (348 : Int32)) hx hb dX5_record_80 (by decide) ?_
          refine lv_iload_n hx hb dX5_record_83 rfl (lv_at hl 0 rfl) ?_
          refine lv_iconst (v := (2 : Int32)) hx hb dX5_record_84 (by decide) ?_
          refine lv_idiv hx hb dX5_record_85 (by decide) ?_
          refine lv_iadd hx hb dX5_record_86 ?_
          refine lv_aload_n hx hb dX5_record_87 rfl (lv_at hl 2 rfl) ?_
          refine va_get (D := g.1) (ci := 5) (v := .ref (q 2)) (C := RX5) (T := TX5) (N := 16) hx hb hts iX5 hown hK.1 hP 0 rfl rfl 1 (by decide) (hts (.fieldLink RX5 13 "LightWheelModel" "written" "[I") (by decide +kernel)) (fun _ h9 => h9) rfl dX5_record_88 ?_
          refine lv_iload_n hx hb dX5_record_91 rfl (lv_at hl 0 rfl) ?_
          have o_92_15 := h.1
          replace h := h.2
          refine va_iald hx hb hK.1 hP 2 0 rfl rfl o_92_15 dX5_record_92 ?_
          refine lv_aload_n hx hb dX5_record_93 rfl (lv_at hl 2 rfl) ?_
          refine va_get (D := g.1) (ci := 5) (v := .ref (q 2)) (C := RX5) (T := TX5) (N := 16) hx hb hts iX5 hown hK.1 hP 0 rfl rfl 1 (by decide) (hts (.fieldLink RX5 13 "LightWheelModel" "written" "[I") (by decide +kernel)) (fun _ h9 => h9) rfl dX5_record_94 ?_
          refine lv_iload_n hx hb dX5_record_97 rfl (lv_at hl 0 rfl) ?_
          refine lv_iconst (v := (1 : Int32)) hx hb dX5_record_98 (by decide) ?_
          refine lv_iadd hx hb dX5_record_99 ?_
          have o_100_16 := h.1
          replace h := h.2
          refine va_iald hx hb hK.1 hP 2 0 rfl rfl o_100_16 dX5_record_100 ?_
          refine lv_bipush (v := (16 : Int32)) hx hb dX5_record_101 (by decide) ?_
          refine lv_ishl hx hb dX5_record_103 ?_
          refine lv_ior hx hb dX5_record_104 ?_
          have hFc := va_freeA hD hS hA
          refine va_callv (va_runV (As := [.int v1_3, .int ((348 : Int32) + (v2_12 / (2 : Int32))), .int ((b_written (Int32.toNatClampNeg v2_12)) ||| ((b_written (Int32.toNatClampNeg (v2_12 + (1 : Int32)))) <<< ((16 : Int32) &&& 31)))]) (rest := []) ⟨hx, hb, hml, hown, hts⟩ (kX5_lay l g q H.size b_m b_written b_spare b_spareWritten b_states_13 b_fifth_14 b_oldest_1 b_stateCount_2 b_text b_textLength b_at b_read b_columns b_told b_wants b_comes v1_3 ((348 : Int32) + (v2_12 / (2 : Int32))) ((b_written (Int32.toNatClampNeg v2_12)) ||| ((b_written (Int32.toNatClampNeg (v2_12 + (1 : Int32)))) <<< ((16 : Int32) &&& 31))) _ h) (cwV 3 hts gX5_record_X5_lay rfl rfl rfl hdX5_lay ⟨(Nat.le_of_ble_eq_true rfl), (Nat.le_of_ble_eq_true rfl)⟩) (preV_M (r := (RX5, TX5, 16)) hK hP hD (ci := 5) (q0 := 0) rfl rfl) rfl rfl hl.1 rfl (lv_room (Nat.le_of_ble_eq_true rfl)) dX5_record_105 ⟨(Nat.le_of_ble_eq_true rfl), (Nat.le_of_ble_eq_true rfl)⟩) hS (fun q _ h9 => hFc q h9) hFc (fun u t H1 locs ht hvm hw hB hz1 hk1 hS => ?_)
          obtain ⟨b_states_18, b_fifth_19⟩ := u
          replace h := hw
          try dsimp only at h
          obtain ⟨hP, hD⟩ := jn0 (wf := (wM g q b_m b_written b_spare b_spareWritten b_states_18 b_fifth_19 b_oldest_1 b_stateCount_2 b_text b_textLength b_at b_read b_columns b_told b_wants b_comes)) hB ht hFc
          have hP : va_P g.1 vwCl (wM g q b_m b_written b_spare b_spareWritten b_states_18 b_fifth_19 b_oldest_1 b_stateCount_2 b_text b_textLength b_at b_read b_columns b_told b_wants b_comes) H1 := hP
          have hD : va_D A (wM g q b_m b_written b_spare b_spareWritten b_states_18 b_fifth_19 b_oldest_1 b_stateCount_2 b_text b_textLength b_at b_read b_columns b_told b_wants b_comes) := hD
          clear hk1 hz1 hB ht hw hFc
          generalize H1 = H at hP hS ⊢
          obtain ⟨v2_20, e_v2_20⟩ : ∃ y : Int32, y = v2_12 + (2 : Int32) := ⟨_, rfl⟩
          replace h := h v2_20 e_v2_20
          refine lv_iinc (v := v2_20) (lv' := [(2, .int v2_20), (1, .int v1_3), (0, .ref (q 0))]) hx hb dX5_record_108 hl (k := 0) rfl (by rw [e_v2_20]; rfl) (by decide) rfl (fun ls hl => ?_)
          refine lv_goto (tgt := 71) hx hb dX5_record_111 (by decide) ?_
          exact ih_3 v2_20 b_states_18 b_fifth_19 H locs ls h hP hD hS (lv_sub hl [0, 1, 2] rfl)
    obtain ⟨n_3, h⟩ := h
    refine loop_3 _ ?_ n_3 (0 : Int32) b_states_5 b_fifth_6 _ _ ls h hP hD hS (lv_sub hl [0, 1, 2] rfl)
    intro v2_12 b_states_13 b_fifth_14 H locs ls h hP hD hS hl
    refine lv_aload_n hx hb dX5_record_114 rfl (lv_at hl 2 rfl) ?_
    refine lv_dup hx hb dX5_record_115 rfl ?_
    refine va_get (D := g.1) (ci := 5) (v := .int b_stateCount_2) (C := RX5) (T := TX5) (N := 16) hx hb hts iX5 hown hK.1 hP 0 rfl rfl 7 (by decide) (hts (.fieldLink RX5 40 "LightWheelModel" "stateCount" "I") (by decide +kernel)) (fun _ h9 => h9) rfl dX5_record_116 ?_
    refine lv_iconst (v := (1 : Int32)) hx hb dX5_record_119 (by decide) ?_
    refine lv_iadd hx hb dX5_record_120 ?_
    refine lv_topi (fun f_stateCount_21 e_f_stateCount_21 => ?_)
    replace h := h f_stateCount_21 e_f_stateCount_21
    refine va_put (D := g.1) (ci := 5) (v := .int f_stateCount_21) (ty := .int) (C := RX5) (T := TX5) (N := 16) hx hb hts iX5 tyX5 tyX5_ok nmX5 hown hK.1 hP hD hS 0 rfl rfl 7 (by decide) (hts (.fieldLink RX5 40 "LightWheelModel" "stateCount" "I") (by decide +kernel)) (fun _ h9 => h9) rfl (by decide +kernel) rfl rfl (Nat.le_of_ble_eq_true rfl) dX5_record_121 (fun H locs hP hD hS => ?_)
    have hP : va_P g.1 vwCl (wM g q b_m b_written b_spare b_spareWritten b_states_13 b_fifth_14 b_oldest_1 f_stateCount_21 b_text b_textLength b_at b_read b_columns b_told b_wants b_comes) H := hP
    have hD : va_D A (wM g q b_m b_written b_spare b_spareWritten b_states_13 b_fifth_14 b_oldest_1 f_stateCount_21 b_text b_textLength b_at b_read b_columns b_told b_wants b_comes) := hD
    exact W.vret hx hb hr (fun t ht hW => ⟨⟨(b_states_13, b_fifth_14, b_oldest_1, f_stateCount_21), rfl, h, by rw [ht]; exact hP, hD⟩, hS.F ht⟩) hS.2.2 dX5_record_124
  refine lv_icmp_ne (tgt := 30) hx hb dX5_record_5 (by decide) (fun c_5_21 => ?_) (fun c_5_21 => ?_)
  · replace h := h.1 c_5_21
    exact tail_1 b_oldest b_stateCount H locs ls h hP hD hS (lv_sub hl [0] rfl)
  · replace h := h.2 c_5_21
    refine lv_aload_n hx hb dX5_record_8 rfl (lv_at hl 0 rfl) ?_
    refine lv_aload_n hx hb dX5_record_9 rfl (lv_at hl 0 rfl) ?_
    refine va_get (D := g.1) (ci := 5) (v := .int b_oldest) (C := RX5) (T := TX5) (N := 16) hx hb hts iX5 hown hK.1 hP 0 rfl rfl 6 (by decide) (hts (.fieldLink RX5 44 "LightWheelModel" "oldest" "I") (by decide +kernel)) (fun _ h9 => h9) rfl dX5_record_10 ?_
    refine lv_iconst (v := (1 : Int32)) hx hb dX5_record_13 (by decide) ?_
    refine lv_iadd hx hb dX5_record_14 ?_
    refine lv_iconst (v := (5 : Int32)) hx hb dX5_record_15 (by decide) ?_
    refine lv_irem hx hb dX5_record_16 (by decide) ?_
    refine lv_topi (fun f_oldest_23 e_f_oldest_23 => ?_)
    replace h := h f_oldest_23 e_f_oldest_23
    refine va_put (D := g.1) (ci := 5) (v := .int f_oldest_23) (ty := .int) (C := RX5) (T := TX5) (N := 16) hx hb hts iX5 tyX5 tyX5_ok nmX5 hown hK.1 hP hD hS 0 rfl rfl 6 (by decide) (hts (.fieldLink RX5 44 "LightWheelModel" "oldest" "I") (by decide +kernel)) (fun _ h9 => h9) rfl (by decide +kernel) rfl rfl (Nat.le_of_ble_eq_true rfl) dX5_record_17 (fun H locs hP hD hS => ?_)
    have hP : va_P g.1 vwCl (wM g q b_m b_written b_spare b_spareWritten b_states b_fifth f_oldest_23 b_stateCount b_text b_textLength b_at b_read b_columns b_told b_wants b_comes) H := hP
    have hD : va_D A (wM g q b_m b_written b_spare b_spareWritten b_states b_fifth f_oldest_23 b_stateCount b_text b_textLength b_at b_read b_columns b_told b_wants b_comes) := hD
    refine lv_aload_n hx hb dX5_record_20 rfl (lv_at hl 0 rfl) ?_
    refine lv_dup hx hb dX5_record_21 rfl ?_
    refine va_get (D := g.1) (ci := 5) (v := .int b_stateCount) (C := RX5) (T := TX5) (N := 16) hx hb hts iX5 hown hK.1 hP 0 rfl rfl 7 (by decide) (hts (.fieldLink RX5 40 "LightWheelModel" "stateCount" "I") (by decide +kernel)) (fun _ h9 => h9) rfl dX5_record_22 ?_
    refine lv_iconst (v := (1 : Int32)) hx hb dX5_record_25 (by decide) ?_
    refine lv_isub hx hb dX5_record_26 ?_
    refine lv_topi (fun f_stateCount_24 e_f_stateCount_24 => ?_)
    replace h := h f_stateCount_24 e_f_stateCount_24
    refine va_put (D := g.1) (ci := 5) (v := .int f_stateCount_24) (ty := .int) (C := RX5) (T := TX5) (N := 16) hx hb hts iX5 tyX5 tyX5_ok nmX5 hown hK.1 hP hD hS 0 rfl rfl 7 (by decide) (hts (.fieldLink RX5 40 "LightWheelModel" "stateCount" "I") (by decide +kernel)) (fun _ h9 => h9) rfl (by decide +kernel) rfl rfl (Nat.le_of_ble_eq_true rfl) dX5_record_27 (fun H locs hP hD hS => ?_)
    have hP : va_P g.1 vwCl (wM g q b_m b_written b_spare b_spareWritten b_states b_fifth f_oldest_23 f_stateCount_24 b_text b_textLength b_at b_read b_columns b_told b_wants b_comes) H := hP
    have hD : va_D A (wM g q b_m b_written b_spare b_spareWritten b_states b_fifth f_oldest_23 f_stateCount_24 b_text b_textLength b_at b_read b_columns b_told b_wants b_comes) := hD
    exact tail_1 f_oldest_23 f_stateCount_24 H locs ls h hP hD hS (lv_sub hl [0] rfl)
theorem hdX5_undo : yX5_undo.cls = RX5 ∧ yX5_undo.cls ≠ "java/lang/invoke/MethodHandle" ∧ yX5_undo.cls ≠ "java/lang/invoke/VarHandle" ∧ (parseMethodDescriptor yX5_undo.desc).map (fun d => d.parameters.length) = some 0 := by decide +kernel
set_option maxHeartbeats 4000000 in
set_option maxRecDepth 100000 in
theorem kX5_undo (l : Launch) (g : GG) (q : Nat → Nat) (sz : Nat) (b_m : Nat → Int32) (b_written : Nat → Int32) (b_spare : Nat → Int32) (b_spareWritten : Nat → Int32) (b_states : Nat → Int32) (b_fifth : Nat → Int32) (b_oldest : Int32) (b_stateCount : Int32) (b_text : Nat → Int32) (b_textLength : Int32) (b_at : Int32) (b_read : Nat → Int32) (b_columns : Int32) (b_told : Int32) (b_wants : Nat → Int32) (b_comes : Nat → Int32)  (k : Int32 → (Nat → Int32) → (Nat → Int32) → Int32 → Prop) (h : PX5_undo b_m b_written b_states b_fifth b_oldest b_stateCount  k) : Met l yX5_undo wsX5_undo ({ frames := 1, cells := 0, slots := 0, locals := 22 }) (PreM g [.ref (q 0)] (wM g q b_m b_written b_spare b_spareWritten b_states b_fifth b_oldest b_stateCount b_text b_textLength b_at b_read b_columns b_told b_wants b_comes) sz) (va_Qi (fun (r : Int32) (u : (Nat → Int32) × (Nat → Int32) × Int32) => k r u.1 u.2.1 u.2.2) (fun u t => PostB g (va_A (wM g q b_m b_written b_spare b_spareWritten b_states b_fifth b_oldest b_stateCount b_text b_textLength b_at b_read b_columns b_told b_wants b_comes) sz) (wM g q u.1 u.2.1 b_spare b_spareWritten b_states b_fifth b_oldest u.2.2 b_text b_textLength b_at b_read b_columns b_told b_wants b_comes) t) (va_A (wM g q b_m b_written b_spare b_spareWritten b_states b_fifth b_oldest b_stateCount b_text b_textLength b_at b_read b_columns b_told b_wants b_comes) sz)) 0 0 (va_A (wM g q b_m b_written b_spare b_spareWritten b_states b_fifth b_oldest b_stateCount b_text b_textLength b_at b_read b_columns b_told b_wants b_comes) sz) := by
  refine Met.ofW (cc := cX5_undo) (maxL := 4) (ret := (some .int)) (by decide) rfl ?_
  intro p e s m args below meth c s₁ B hml hv
  obtain ⟨rfl, hsz, hP, hK, hD0⟩ := hv
  have hx := B.exec
  have hb := B.bytes
  have hr := B.returns
  have hts := atoms_spec (ws := wsX5_undo) B.pre
  have hown : s.vm.findClass RX5 = some m.cls := findClass_of_methodNamed B.named
  have hlocks := B.notSynchronized
  have iX5 : ∀ w ∈ wsX50, w ∈ wsX5_undo := by decide +kernel
  subst hsz
  have hD := hD0.self (sz := s.heap.size)
  generalize hAe : va_A (wM g q b_m b_written b_spare b_spareWritten b_states b_fifth b_oldest b_stateCount b_text b_textLength b_at b_read b_columns b_told b_wants b_comes) s.heap.size = A at hD ⊢
  have hA : ∀ q : Nat, s.heap.size ≤ q → A q := fun q h => by rw [← hAe]; exact Or.inr h
  clear hAe hD0
  have hS : va_S A s.heap s.heap [] := va_S.rf
  have hl := lv_entry ([.ref (q 0)]) (n := 4) (Nat.le_of_ble_eq_true rfl)
  rw [lg_entry_eq]
  generalize (lg_sl ([.ref (q 0)]) ++ List.replicate (4 - (lg_sl ([.ref (q 0)])).length) Slot.unset).toArray = ls at hl ⊢
  have hl : lv_has ls 4 [(0, .ref (q 0))] := hl
  unfold PX5_undo at h
  obtain ⟨H, hHe⟩ : ∃ y, y = s.heap := ⟨_, rfl⟩
  rw [← hHe] at hP
  have hS : va_S A s.heap H [] := by rw [hHe]; exact hS
  have hW0 : ∀ (Q : State → Prop), W p l e (headSpec wsX5_undo ({ frames := 1, cells := 0, slots := 0, locals := 22 })).room s m ([.ref (q 0)] : List Value).toArray below meth c H [] 0 0 Q (F0 m 0 ls []) → W p l e (headSpec wsX5_undo ({ frames := 1, cells := 0, slots := 0, locals := 22 })).room s m ([.ref (q 0)] : List Value).toArray below meth c s.heap [] 0 0 Q (F0 m 0 ls []) := by rw [hHe]; exact fun _ h9 => h9
  refine hW0 _ ?_
  clear hW0 hHe
  generalize ([] : List Loc) = locs at hS ⊢
  refine lv_aload_n hx hb dX5_undo_0 rfl (lv_at hl 0 rfl) ?_
  refine va_get (D := g.1) (ci := 5) (v := .int b_stateCount) (C := RX5) (T := TX5) (N := 16) hx hb hts iX5 hown hK.1 hP 0 rfl rfl 7 (by decide) (hts (.fieldLink RX5 40 "LightWheelModel" "stateCount" "I") (by decide +kernel)) (fun _ h9 => h9) rfl dX5_undo_1 ?_
  refine lv_if_ne (tgt := 10) hx hb dX5_undo_4 (by decide) (fun c_4_0 => ?_) (fun c_4_0 => ?_)
  · replace h := h.1 c_4_0
    refine lv_aload_n hx hb dX5_undo_10 rfl (lv_at hl 0 rfl) ?_
    refine lv_dup hx hb dX5_undo_11 rfl ?_
    refine va_get (D := g.1) (ci := 5) (v := .int b_stateCount) (C := RX5) (T := TX5) (N := 16) hx hb hts iX5 hown hK.1 hP 0 rfl rfl 7 (by decide) (hts (.fieldLink RX5 40 "LightWheelModel" "stateCount" "I") (by decide +kernel)) (fun _ h9 => h9) rfl dX5_undo_12 ?_
    refine lv_iconst (v := (1 : Int32)) hx hb dX5_undo_15 (by decide) ?_
    refine lv_isub hx hb dX5_undo_16 ?_
    refine lv_topi (fun f_stateCount_2 e_f_stateCount_2 => ?_)
    replace h := h f_stateCount_2 e_f_stateCount_2
    refine va_put (D := g.1) (ci := 5) (v := .int f_stateCount_2) (ty := .int) (C := RX5) (T := TX5) (N := 16) hx hb hts iX5 tyX5 tyX5_ok nmX5 hown hK.1 hP hD hS 0 rfl rfl 7 (by decide) (hts (.fieldLink RX5 40 "LightWheelModel" "stateCount" "I") (by decide +kernel)) (fun _ h9 => h9) rfl (by decide +kernel) rfl rfl (Nat.le_of_ble_eq_true rfl) dX5_undo_17 (fun H locs hP hD hS => ?_)
    have hP : va_P g.1 vwCl (wM g q b_m b_written b_spare b_spareWritten b_states b_fifth b_oldest f_stateCount_2 b_text b_textLength b_at b_read b_columns b_told b_wants b_comes) H := hP
    have hD : va_D A (wM g q b_m b_written b_spare b_spareWritten b_states b_fifth b_oldest f_stateCount_2 b_text b_textLength b_at b_read b_columns b_told b_wants b_comes) := hD
    refine lv_aload_n hx hb dX5_undo_20 rfl (lv_at hl 0 rfl) ?_
    refine va_get (D := g.1) (ci := 5) (v := .int b_oldest) (C := RX5) (T := TX5) (N := 16) hx hb hts iX5 hown hK.1 hP 0 rfl rfl 6 (by decide) (hts (.fieldLink RX5 44 "LightWheelModel" "oldest" "I") (by decide +kernel)) (fun _ h9 => h9) rfl dX5_undo_21 ?_
    refine lv_aload_n hx hb dX5_undo_24 rfl (lv_at hl 0 rfl) ?_
    refine va_get (D := g.1) (ci := 5) (v := .int f_stateCount_2) (C := RX5) (T := TX5) (N := 16) hx hb hts iX5 hown hK.1 hP 0 rfl rfl 7 (by decide) (hts (.fieldLink RX5 40 "LightWheelModel" "stateCount" "I") (by decide +kernel)) (fun _ h9 => h9) rfl dX5_undo_25 ?_
    refine lv_iadd hx hb dX5_undo_28 ?_
    refine lv_iconst (v := (5 : Int32)) hx hb dX5_undo_29 (by decide) ?_
    refine lv_irem hx hb dX5_undo_30 (by decide) ?_
    refine lv_topi (fun v1_3 e_v1_3 => ?_)
    replace h := h v1_3 e_v1_3
    refine lv_istore_n (lv' := [(1, .int v1_3), (0, .ref (q 0))]) hx hb dX5_undo_31 rfl hl (by decide) rfl (fun ls hl => ?_)
    refine lv_iconst (v := (0 : Int32)) hx hb dX5_undo_32 (by decide) ?_
    refine lv_istore_n (lv' := [(2, .int (0 : Int32)), (1, .int v1_3), (0, .ref (q 0))]) hx hb dX5_undo_33 rfl hl (by decide) rfl (fun ls hl => ?_)
    have loop_1 : ∀ (kx_1 : Int32 → (Nat → Int32) → Prop), (∀ (v2_4 : Int32) (b_m_5 : Nat → Int32) (H : Heap) (locs : List Loc) (ls : Array Slot), kx_1 v2_4 b_m_5 → va_P g.1 vwCl (wM g q b_m_5 b_written b_spare b_spareWritten b_states b_fifth b_oldest f_stateCount_2 b_text b_textLength b_at b_read b_columns b_told b_wants b_comes) H → va_D A (wM g q b_m_5 b_written b_spare b_spareWritten b_states b_fifth b_oldest f_stateCount_2 b_text b_textLength b_at b_read b_columns b_told b_wants b_comes) → va_S A s.heap H locs → lv_has ls 4 [(2, .int v2_4), (1, .int v1_3), (0, .ref (q 0))] → W p l e (headSpec wsX5_undo ({ frames := 1, cells := 0, slots := 0, locals := 22 })).room s m ([.ref (q 0)] : List Value).toArray below meth c H locs 0 0 (MQ below (va_Qi (fun (r : Int32) (u : (Nat → Int32) × (Nat → Int32) × Int32) => k r u.1 u.2.1 u.2.2) (fun u t => PostB g A (wM g q u.1 u.2.1 b_spare b_spareWritten b_states b_fifth b_oldest u.2.2 b_text b_textLength b_at b_read b_columns b_told b_wants b_comes) t) A) ([.ref (q 0)] : List Value).toArray s 0 0 A) (F0 m 59 ls [])) → ∀ (n_1 : Nat) (v2_4 : Int32) (b_m_5 : Nat → Int32) (H : Heap) (locs : List Loc) (ls : Array Slot), PX5_undo_L1 b_states b_fifth v1_3 kx_1 n_1 v2_4 b_m_5 → va_P g.1 vwCl (wM g q b_m_5 b_written b_spare b_spareWritten b_states b_fifth b_oldest f_stateCount_2 b_text b_textLength b_at b_read b_columns b_told b_wants b_comes) H → va_D A (wM g q b_m_5 b_written b_spare b_spareWritten b_states b_fifth b_oldest f_stateCount_2 b_text b_textLength b_at b_read b_columns b_told b_wants b_comes) → va_S A s.heap H locs → lv_has ls 4 [(2, .int v2_4), (1, .int v1_3), (0, .ref (q 0))] → W p l e (headSpec wsX5_undo ({ frames := 1, cells := 0, slots := 0, locals := 22 })).room s m ([.ref (q 0)] : List Value).toArray below meth c H locs 0 0 (MQ below (va_Qi (fun (r : Int32) (u : (Nat → Int32) × (Nat → Int32) × Int32) => k r u.1 u.2.1 u.2.2) (fun u t => PostB g A (wM g q u.1 u.2.1 b_spare b_spareWritten b_states b_fifth b_oldest u.2.2 b_text b_textLength b_at b_read b_columns b_told b_wants b_comes) t) A) ([.ref (q 0)] : List Value).toArray s 0 0 A) (F0 m 34 ls []) := by
      intro kx_1 hexit_1 n_1
      induction n_1 with
      | zero => exact fun _ _ _ _ _ h _ _ _ _ => (h : False).elim
      | succ n_1 ih_1 =>
        intro v2_4 b_m_5 H locs ls h hP hD hS hl
        unfold PX5_undo_L1 at h
        refine lv_iload_n hx hb dX5_undo_34 rfl (lv_at hl 0 rfl) ?_
        refine lv_sipush (v := (348 : Int32)) hx hb dX5_undo_35 (by decide) ?_
        refine lv_icmp_ge (tgt := 59) hx hb dX5_undo_38 (by decide) (fun c_38_5 => ?_) (fun c_38_5 => ?_)
        · replace h := h.1 c_38_5
          exact hexit_1 v2_4 b_m_5 H locs ls h hP hD hS (lv_sub hl [0, 1, 2] rfl)
        · replace h := h.2 c_38_5
          refine lv_aload_n hx hb dX5_undo_41 rfl (lv_at hl 2 rfl) ?_
          refine va_get (D := g.1) (ci := 5) (v := .ref (q 1)) (C := RX5) (T := TX5) (N := 16) hx hb hts iX5 hown hK.1 hP 0 rfl rfl 0 (by decide) (hts (.fieldLink RX5 7 "LightWheelModel" "m" "[I") (by decide +kernel)) (fun _ h9 => h9) rfl dX5_undo_42 ?_
          refine lv_iload_n hx hb dX5_undo_45 rfl (lv_at hl 0 rfl) ?_
          refine lv_aload_n hx hb dX5_undo_46 rfl (lv_at hl 2 rfl) ?_
          refine lv_iload_n hx hb dX5_undo_47 rfl (lv_at hl 1 rfl) ?_
          refine lv_iload_n hx hb dX5_undo_48 rfl (lv_at hl 0 rfl) ?_
          refine vp_callSi (W.runV (As := [.int v1_3, .int v2_4]) (rest := [.int v2_4, .ref (q 1)]) ⟨hx, hb, hml, hown, hts⟩ (kX5_past l g q b_m_5 b_written b_spare b_spareWritten b_states b_fifth b_oldest f_stateCount_2 b_text b_textLength b_at b_read b_columns b_told b_wants b_comes v1_3 v2_4 _ h) (cwV 2 hts gX5_undo_X5_past rfl rfl rfl hdX5_past ⟨(Nat.le_of_ble_eq_true rfl), (Nat.le_of_ble_eq_true rfl)⟩) (preV_R (r := (RX5, TX5, 16)) hK hP (ci := 5) (q0 := 0) rfl rfl) rfl rfl hl.1 rfl (lv_room (Nat.le_of_ble_eq_true rfl)) dX5_undo_49 ⟨(Nat.le_of_ble_eq_true rfl), (Nat.le_of_ble_eq_true rfl)⟩) (fun r49_7 h => ?_)
          have o_52_7 := h.1
          replace h := h.2
          refine xs_iast hx hb hK.1 hP hD hS 1 0 rfl rfl o_52_7 dX5_undo_52 (fun b_m_9 e_b_m_9 H locs hP hD hS => ?_)
          replace h := h b_m_9 e_b_m_9
          have hP : va_P g.1 vwCl (wM g q b_m_9 b_written b_spare b_spareWritten b_states b_fifth b_oldest f_stateCount_2 b_text b_textLength b_at b_read b_columns b_told b_wants b_comes) H := hP
          have hD : va_D A (wM g q b_m_9 b_written b_spare b_spareWritten b_states b_fifth b_oldest f_stateCount_2 b_text b_textLength b_at b_read b_columns b_told b_wants b_comes) := hD
          obtain ⟨v2_10, e_v2_10⟩ : ∃ y : Int32, y = v2_4 + (1 : Int32) := ⟨_, rfl⟩
          replace h := h v2_10 e_v2_10
          refine lv_iinc (v := v2_10) (lv' := [(2, .int v2_10), (1, .int v1_3), (0, .ref (q 0))]) hx hb dX5_undo_53 hl (k := 0) rfl (by rw [e_v2_10]; rfl) (by decide) rfl (fun ls hl => ?_)
          refine lv_goto (tgt := 34) hx hb dX5_undo_56 (by decide) ?_
          exact ih_1 v2_10 b_m_9 H locs ls h hP hD hS (lv_sub hl [0, 1, 2] rfl)
    obtain ⟨n_1, h⟩ := h
    refine loop_1 _ ?_ n_1 (0 : Int32) b_m _ _ ls h hP hD hS (lv_sub hl [0, 1, 2] rfl)
    intro v2_4 b_m_5 H locs ls h hP hD hS hl
    refine lv_iconst (v := (0 : Int32)) hx hb dX5_undo_59 (by decide) ?_
    refine lv_istore_n (lv' := [(2, .int (0 : Int32)), (1, .int v1_3), (0, .ref (q 0))]) hx hb dX5_undo_60 rfl hl (by decide) rfl (fun ls hl => ?_)
    have loop_2 : ∀ (kx_2 : Int32 → (Nat → Int32) → Prop), (∀ (v2_11 : Int32) (b_written_12 : Nat → Int32) (H : Heap) (locs : List Loc) (ls : Array Slot), kx_2 v2_11 b_written_12 → va_P g.1 vwCl (wM g q b_m_5 b_written_12 b_spare b_spareWritten b_states b_fifth b_oldest f_stateCount_2 b_text b_textLength b_at b_read b_columns b_told b_wants b_comes) H → va_D A (wM g q b_m_5 b_written_12 b_spare b_spareWritten b_states b_fifth b_oldest f_stateCount_2 b_text b_textLength b_at b_read b_columns b_told b_wants b_comes) → va_S A s.heap H locs → lv_has ls 4 [(2, .int v2_11), (1, .int v1_3), (0, .ref (q 0))] → W p l e (headSpec wsX5_undo ({ frames := 1, cells := 0, slots := 0, locals := 22 })).room s m ([.ref (q 0)] : List Value).toArray below meth c H locs 0 0 (MQ below (va_Qi (fun (r : Int32) (u : (Nat → Int32) × (Nat → Int32) × Int32) => k r u.1 u.2.1 u.2.2) (fun u t => PostB g A (wM g q u.1 u.2.1 b_spare b_spareWritten b_states b_fifth b_oldest u.2.2 b_text b_textLength b_at b_read b_columns b_told b_wants b_comes) t) A) ([.ref (q 0)] : List Value).toArray s 0 0 A) (F0 m 109 ls [])) → ∀ (n_2 : Nat) (v2_11 : Int32) (b_written_12 : Nat → Int32) (H : Heap) (locs : List Loc) (ls : Array Slot), PX5_undo_L2 b_states b_fifth v1_3 kx_2 n_2 v2_11 b_written_12 → va_P g.1 vwCl (wM g q b_m_5 b_written_12 b_spare b_spareWritten b_states b_fifth b_oldest f_stateCount_2 b_text b_textLength b_at b_read b_columns b_told b_wants b_comes) H → va_D A (wM g q b_m_5 b_written_12 b_spare b_spareWritten b_states b_fifth b_oldest f_stateCount_2 b_text b_textLength b_at b_read b_columns b_told b_wants b_comes) → va_S A s.heap H locs → lv_has ls 4 [(2, .int v2_11), (1, .int v1_3), (0, .ref (q 0))] → W p l e (headSpec wsX5_undo ({ frames := 1, cells := 0, slots := 0, locals := 22 })).room s m ([.ref (q 0)] : List Value).toArray below meth c H locs 0 0 (MQ below (va_Qi (fun (r : Int32) (u : (Nat → Int32) × (Nat → Int32) × Int32) => k r u.1 u.2.1 u.2.2) (fun u t => PostB g A (wM g q u.1 u.2.1 b_spare b_spareWritten b_states b_fifth b_oldest u.2.2 b_text b_textLength b_at b_read b_columns b_told b_wants b_comes) t) A) ([.ref (q 0)] : List Value).toArray s 0 0 A) (F0 m 61 ls []) := by
      intro kx_2 hexit_2 n_2
      induction n_2 with
      | zero => exact fun _ _ _ _ _ h _ _ _ _ => (h : False).elim
      | succ n_2 ih_2 =>
        intro v2_11 b_written_12 H locs ls h hP hD hS hl
        unfold PX5_undo_L2 at h
        refine lv_iload_n hx hb dX5_undo_61 rfl (lv_at hl 0 rfl) ?_
        refine lv_sipush (v := (8640 : Int32)) hx hb dX5_undo_62 (by decide) ?_
        refine lv_icmp_ge (tgt := 109) hx hb dX5_undo_65 (by decide) (fun c_65_12 => ?_) (fun c_65_12 => ?_)
        · replace h := h.1 c_65_12
          exact hexit_2 v2_11 b_written_12 H locs ls h hP hD hS (lv_sub hl [0, 1, 2] rfl)
        · replace h := h.2 c_65_12
          refine lv_aload_n hx hb dX5_undo_68 rfl (lv_at hl 2 rfl) ?_
          refine lv_iload_n hx hb dX5_undo_69 rfl (lv_at hl 1 rfl) ?_
          refine lv_sipush (v := (348 : Int32)) hx hb dX5_undo_70 (by decide) ?_
          refine lv_iload_n hx hb dX5_undo_73 rfl (lv_at hl 0 rfl) ?_
          refine lv_iconst (v := (2 : Int32)) hx hb dX5_undo_74 (by decide) ?_
          refine lv_idiv hx hb dX5_undo_75 (by decide) ?_
          refine lv_iadd hx hb dX5_undo_76 ?_
          refine vp_callSi (W.runV (As := [.int v1_3, .int ((348 : Int32) + (v2_11 / (2 : Int32)))]) (rest := []) ⟨hx, hb, hml, hown, hts⟩ (kX5_past l g q b_m_5 b_written_12 b_spare b_spareWritten b_states b_fifth b_oldest f_stateCount_2 b_text b_textLength b_at b_read b_columns b_told b_wants b_comes v1_3 ((348 : Int32) + (v2_11 / (2 : Int32))) _ h) (cwV 2 hts gX5_undo_X5_past rfl rfl rfl hdX5_past ⟨(Nat.le_of_ble_eq_true rfl), (Nat.le_of_ble_eq_true rfl)⟩) (preV_R (r := (RX5, TX5, 16)) hK hP (ci := 5) (q0 := 0) rfl rfl) rfl rfl hl.1 rfl (lv_room (Nat.le_of_ble_eq_true rfl)) dX5_undo_77 ⟨(Nat.le_of_ble_eq_true rfl), (Nat.le_of_ble_eq_true rfl)⟩) (fun r77_14 h => ?_)
          refine lv_istore_n (lv' := [(3, .int r77_14), (2, .int v2_11), (1, .int v1_3), (0, .ref (q 0))]) hx hb dX5_undo_80 rfl hl (by decide) rfl (fun ls hl => ?_)
          refine lv_aload_n hx hb dX5_undo_81 rfl (lv_at hl 3 rfl) ?_
          refine va_get (D := g.1) (ci := 5) (v := .ref (q 2)) (C := RX5) (T := TX5) (N := 16) hx hb hts iX5 hown hK.1 hP 0 rfl rfl 1 (by decide) (hts (.fieldLink RX5 13 "LightWheelModel" "written" "[I") (by decide +kernel)) (fun _ h9 => h9) rfl dX5_undo_82 ?_
          refine lv_iload_n hx hb dX5_undo_85 rfl (lv_at hl 1 rfl) ?_
          refine lv_iload_n hx hb dX5_undo_86 rfl (lv_at hl 0 rfl) ?_
          refine lv_ldc (v := (65535 : Int32)) hx hb hown (hts (.constant RX5 55 (65535)) (by decide +kernel)) dX5_undo_87 ?_
          refine lv_iand hx hb dX5_undo_89 ?_
          have o_90_14 := h.1
          replace h := h.2
          refine xs_iast hx hb hK.1 hP hD hS 2 0 rfl rfl o_90_14 dX5_undo_90 (fun b_written_16 e_b_written_16 H locs hP hD hS => ?_)
          replace h := h b_written_16 e_b_written_16
          have hP : va_P g.1 vwCl (wM g q b_m_5 b_written_16 b_spare b_spareWritten b_states b_fifth b_oldest f_stateCount_2 b_text b_textLength b_at b_read b_columns b_told b_wants b_comes) H := hP
          have hD : va_D A (wM g q b_m_5 b_written_16 b_spare b_spareWritten b_states b_fifth b_oldest f_stateCount_2 b_text b_textLength b_at b_read b_columns b_told b_wants b_comes) := hD
          refine lv_aload_n hx hb dX5_undo_91 rfl (lv_at hl 3 rfl) ?_
          refine va_get (D := g.1) (ci := 5) (v := .ref (q 2)) (C := RX5) (T := TX5) (N := 16) hx hb hts iX5 hown hK.1 hP 0 rfl rfl 1 (by decide) (hts (.fieldLink RX5 13 "LightWheelModel" "written" "[I") (by decide +kernel)) (fun _ h9 => h9) rfl dX5_undo_92 ?_
          refine lv_iload_n hx hb dX5_undo_95 rfl (lv_at hl 1 rfl) ?_
          refine lv_iconst (v := (1 : Int32)) hx hb dX5_undo_96 (by decide) ?_
          refine lv_iadd hx hb dX5_undo_97 ?_
          refine lv_iload_n hx hb dX5_undo_98 rfl (lv_at hl 0 rfl) ?_
          refine lv_bipush (v := (16 : Int32)) hx hb dX5_undo_99 (by decide) ?_
          refine lv_iushr (v := ((r77_14.toUInt32 >>> ((16 : Int32).toUInt32 &&& Int32.toUInt32 31)).toInt32)) hx hb dX5_undo_101 rfl ?_
          have o_102_16 := h.1
          replace h := h.2
          refine xs_iast hx hb hK.1 hP hD hS 2 0 rfl rfl o_102_16 dX5_undo_102 (fun b_written_18 e_b_written_18 H locs hP hD hS => ?_)
          replace h := h b_written_18 e_b_written_18
          have hP : va_P g.1 vwCl (wM g q b_m_5 b_written_18 b_spare b_spareWritten b_states b_fifth b_oldest f_stateCount_2 b_text b_textLength b_at b_read b_columns b_told b_wants b_comes) H := hP
          have hD : va_D A (wM g q b_m_5 b_written_18 b_spare b_spareWritten b_states b_fifth b_oldest f_stateCount_2 b_text b_textLength b_at b_read b_columns b_told b_wants b_comes) := hD
          obtain ⟨v2_19, e_v2_19⟩ : ∃ y : Int32, y = v2_11 + (2 : Int32) := ⟨_, rfl⟩
          replace h := h v2_19 e_v2_19
          refine lv_iinc (v := v2_19) (lv' := [(2, .int v2_19), (3, .int r77_14), (1, .int v1_3), (0, .ref (q 0))]) hx hb dX5_undo_103 hl (k := 1) rfl (by rw [e_v2_19]; rfl) (by decide) rfl (fun ls hl => ?_)
          refine lv_goto (tgt := 61) hx hb dX5_undo_106 (by decide) ?_
          exact ih_2 v2_19 b_written_18 H locs ls h hP hD hS (lv_sub hl [0, 2, 3] rfl)
    obtain ⟨n_2, h⟩ := h
    refine loop_2 _ ?_ n_2 (0 : Int32) b_written _ _ ls h hP hD hS (lv_sub hl [0, 1, 2] rfl)
    intro v2_11 b_written_12 H locs ls h hP hD hS hl
    refine lv_aload_n hx hb dX5_undo_109 rfl (lv_at hl 2 rfl) ?_
    refine va_get (D := g.1) (ci := 5) (v := .int f_stateCount_2) (C := RX5) (T := TX5) (N := 16) hx hb hts iX5 hown hK.1 hP 0 rfl rfl 7 (by decide) (hts (.fieldLink RX5 40 "LightWheelModel" "stateCount" "I") (by decide +kernel)) (fun _ h9 => h9) rfl dX5_undo_110 ?_
    exact W.iret hx hb hr (fun t ht hW => ⟨⟨f_stateCount_2, (b_m_5, b_written_12, f_stateCount_2), rfl, h, by rw [ht]; exact hP, hD⟩, hS.F ht⟩) hS.2.2 dX5_undo_113
  · replace h := h.2 c_4_0
    refine lv_bipush (v := (-102 : Int32)) hx hb dX5_undo_7 (by decide) ?_
    exact W.iret hx hb hr (fun t ht hW => ⟨⟨(-102 : Int32), (b_m, b_written, b_stateCount), rfl, h, by rw [ht]; exact hP, hD⟩, hS.F ht⟩) hS.2.2 dX5_undo_9
theorem hdX5_setAside : yX5_setAside.cls = RX5 ∧ yX5_setAside.cls ≠ "java/lang/invoke/MethodHandle" ∧ yX5_setAside.cls ≠ "java/lang/invoke/VarHandle" ∧ (parseMethodDescriptor yX5_setAside.desc).map (fun d => d.parameters.length) = some 0 := by decide +kernel
set_option maxHeartbeats 4000000 in
set_option maxRecDepth 100000 in
theorem kX5_setAside (l : Launch) (g : GG) (q : Nat → Nat) (sz : Nat) (b_m : Nat → Int32) (b_written : Nat → Int32) (b_spare : Nat → Int32) (b_spareWritten : Nat → Int32) (b_states : Nat → Int32) (b_fifth : Nat → Int32) (b_oldest : Int32) (b_stateCount : Int32) (b_text : Nat → Int32) (b_textLength : Int32) (b_at : Int32) (b_read : Nat → Int32) (b_columns : Int32) (b_told : Int32) (b_wants : Nat → Int32) (b_comes : Nat → Int32)  (k : (Nat → Int32) → (Nat → Int32) → Prop) (h : PX5_setAside b_m b_written b_spare b_spareWritten  k) : Met l yX5_setAside wsX5_setAside ({ frames := 0, cells := 0, slots := 0, locals := 0 }) (PreM g [.ref (q 0)] (wM g q b_m b_written b_spare b_spareWritten b_states b_fifth b_oldest b_stateCount b_text b_textLength b_at b_read b_columns b_told b_wants b_comes) sz) (va_Qv (fun u : (Nat → Int32) × (Nat → Int32) => k u.1 u.2) (fun u t => PostB g (va_A (wM g q b_m b_written b_spare b_spareWritten b_states b_fifth b_oldest b_stateCount b_text b_textLength b_at b_read b_columns b_told b_wants b_comes) sz) (wM g q b_m b_written u.1 u.2 b_states b_fifth b_oldest b_stateCount b_text b_textLength b_at b_read b_columns b_told b_wants b_comes) t) (va_A (wM g q b_m b_written b_spare b_spareWritten b_states b_fifth b_oldest b_stateCount b_text b_textLength b_at b_read b_columns b_told b_wants b_comes) sz)) 0 0 (va_A (wM g q b_m b_written b_spare b_spareWritten b_states b_fifth b_oldest b_stateCount b_text b_textLength b_at b_read b_columns b_told b_wants b_comes) sz) := by
  refine Met.ofW (cc := cX5_setAside) (maxL := 2) (ret := none) (by decide) rfl ?_
  intro p e s m args below meth c s₁ B hml hv
  obtain ⟨rfl, hsz, hP, hK, hD0⟩ := hv
  have hx := B.exec
  have hb := B.bytes
  have hr := B.returns
  have hts := atoms_spec (ws := wsX5_setAside) B.pre
  have hown : s.vm.findClass RX5 = some m.cls := findClass_of_methodNamed B.named
  have hlocks := B.notSynchronized
  have iX5 : ∀ w ∈ wsX50, w ∈ wsX5_setAside := by decide +kernel
  subst hsz
  have hD := hD0.self (sz := s.heap.size)
  generalize hAe : va_A (wM g q b_m b_written b_spare b_spareWritten b_states b_fifth b_oldest b_stateCount b_text b_textLength b_at b_read b_columns b_told b_wants b_comes) s.heap.size = A at hD ⊢
  have hA : ∀ q : Nat, s.heap.size ≤ q → A q := fun q h => by rw [← hAe]; exact Or.inr h
  clear hAe hD0
  have hS : va_S A s.heap s.heap [] := va_S.rf
  have hl := lv_entry ([.ref (q 0)]) (n := 2) (Nat.le_of_ble_eq_true rfl)
  rw [lg_entry_eq]
  generalize (lg_sl ([.ref (q 0)]) ++ List.replicate (2 - (lg_sl ([.ref (q 0)])).length) Slot.unset).toArray = ls at hl ⊢
  have hl : lv_has ls 2 [(0, .ref (q 0))] := hl
  unfold PX5_setAside at h
  obtain ⟨H, hHe⟩ : ∃ y, y = s.heap := ⟨_, rfl⟩
  rw [← hHe] at hP
  have hS : va_S A s.heap H [] := by rw [hHe]; exact hS
  have hW0 : ∀ (Q : State → Prop), W p l e (headSpec wsX5_setAside ({ frames := 0, cells := 0, slots := 0, locals := 0 })).room s m ([.ref (q 0)] : List Value).toArray below meth c H [] 0 0 Q (F0 m 0 ls []) → W p l e (headSpec wsX5_setAside ({ frames := 0, cells := 0, slots := 0, locals := 0 })).room s m ([.ref (q 0)] : List Value).toArray below meth c s.heap [] 0 0 Q (F0 m 0 ls []) := by rw [hHe]; exact fun _ h9 => h9
  refine hW0 _ ?_
  clear hW0 hHe
  generalize ([] : List Loc) = locs at hS ⊢
  refine lv_iconst (v := (0 : Int32)) hx hb dX5_setAside_0 (by decide) ?_
  refine lv_istore_n (lv' := [(1, .int (0 : Int32)), (0, .ref (q 0))]) hx hb dX5_setAside_1 rfl hl (by decide) rfl (fun ls hl => ?_)
  have loop_1 : ∀ (kx_1 : Int32 → (Nat → Int32) → Prop), (∀ (v1_1 : Int32) (b_spare_2 : Nat → Int32) (H : Heap) (locs : List Loc) (ls : Array Slot), kx_1 v1_1 b_spare_2 → va_P g.1 vwCl (wM g q b_m b_written b_spare_2 b_spareWritten b_states b_fifth b_oldest b_stateCount b_text b_textLength b_at b_read b_columns b_told b_wants b_comes) H → va_D A (wM g q b_m b_written b_spare_2 b_spareWritten b_states b_fifth b_oldest b_stateCount b_text b_textLength b_at b_read b_columns b_told b_wants b_comes) → va_S A s.heap H locs → lv_has ls 2 [(1, .int v1_1), (0, .ref (q 0))] → W p l e (headSpec wsX5_setAside ({ frames := 0, cells := 0, slots := 0, locals := 0 })).room s m ([.ref (q 0)] : List Value).toArray below meth c H locs 0 0 (MQ below (va_Qv (fun u : (Nat → Int32) × (Nat → Int32) => k u.1 u.2) (fun u t => PostB g A (wM g q b_m b_written u.1 u.2 b_states b_fifth b_oldest b_stateCount b_text b_textLength b_at b_read b_columns b_told b_wants b_comes) t) A) ([.ref (q 0)] : List Value).toArray s 0 0 A) (F0 m 27 ls [])) → ∀ (n_1 : Nat) (v1_1 : Int32) (b_spare_2 : Nat → Int32) (H : Heap) (locs : List Loc) (ls : Array Slot), PX5_setAside_L1 b_m kx_1 n_1 v1_1 b_spare_2 → va_P g.1 vwCl (wM g q b_m b_written b_spare_2 b_spareWritten b_states b_fifth b_oldest b_stateCount b_text b_textLength b_at b_read b_columns b_told b_wants b_comes) H → va_D A (wM g q b_m b_written b_spare_2 b_spareWritten b_states b_fifth b_oldest b_stateCount b_text b_textLength b_at b_read b_columns b_told b_wants b_comes) → va_S A s.heap H locs → lv_has ls 2 [(1, .int v1_1), (0, .ref (q 0))] → W p l e (headSpec wsX5_setAside ({ frames := 0, cells := 0, slots := 0, locals := 0 })).room s m ([.ref (q 0)] : List Value).toArray below meth c H locs 0 0 (MQ below (va_Qv (fun u : (Nat → Int32) × (Nat → Int32) => k u.1 u.2) (fun u t => PostB g A (wM g q b_m b_written u.1 u.2 b_states b_fifth b_oldest b_stateCount b_text b_textLength b_at b_read b_columns b_told b_wants b_comes) t) A) ([.ref (q 0)] : List Value).toArray s 0 0 A) (F0 m 2 ls []) := by
    intro kx_1 hexit_1 n_1
    induction n_1 with
    | zero => exact fun _ _ _ _ _ h _ _ _ _ => (h : False).elim
    | succ n_1 ih_1 =>
      intro v1_1 b_spare_2 H locs ls h hP hD hS hl
      unfold PX5_setAside_L1 at h
      refine lv_iload_n hx hb dX5_setAside_2 rfl (lv_at hl 0 rfl) ?_
      refine lv_sipush (v := (348 : Int32)) hx hb dX5_setAside_3 (by decide) ?_
      refine lv_icmp_ge (tgt := 27) hx hb dX5_setAside_6 (by decide) (fun c_6_2 => ?_) (fun c_6_2 => ?_)
      · replace h := h.1 c_6_2
        exact hexit_1 v1_1 b_spare_2 H locs ls h hP hD hS (lv_sub hl [0, 1] rfl)
      · replace h := h.2 c_6_2
        refine lv_aload_n hx hb dX5_setAside_9 rfl (lv_at hl 1 rfl) ?_
        refine va_get (D := g.1) (ci := 5) (v := .ref (q 3)) (C := RX5) (T := TX5) (N := 16) hx hb hts iX5 hown hK.1 hP 0 rfl rfl 2 (by decide) (hts (.fieldLink RX5 16 "LightWheelModel" "spare" "[I") (by decide +kernel)) (fun _ h9 => h9) rfl dX5_setAside_10 ?_
        refine lv_iload_n hx hb dX5_setAside_13 rfl (lv_at hl 0 rfl) ?_
        refine lv_aload_n hx hb dX5_setAside_14 rfl (lv_at hl 1 rfl) ?_
        refine va_get (D := g.1) (ci := 5) (v := .ref (q 1)) (C := RX5) (T := TX5) (N := 16) hx hb hts iX5 hown hK.1 hP 0 rfl rfl 0 (by decide) (hts (.fieldLink RX5 7 "LightWheelModel" "m" "[I") (by decide +kernel)) (fun _ h9 => h9) rfl dX5_setAside_15 ?_
        refine lv_iload_n hx hb dX5_setAside_18 rfl (lv_at hl 0 rfl) ?_
        have o_19_3 := h.1
        replace h := h.2
        refine va_iald hx hb hK.1 hP 1 0 rfl rfl o_19_3 dX5_setAside_19 ?_
        have o_20_4 := h.1
        replace h := h.2
        refine xs_iast hx hb hK.1 hP hD hS 3 0 rfl rfl o_20_4 dX5_setAside_20 (fun b_spare_6 e_b_spare_6 H locs hP hD hS => ?_)
        replace h := h b_spare_6 e_b_spare_6
        have hP : va_P g.1 vwCl (wM g q b_m b_written b_spare_6 b_spareWritten b_states b_fifth b_oldest b_stateCount b_text b_textLength b_at b_read b_columns b_told b_wants b_comes) H := hP
        have hD : va_D A (wM g q b_m b_written b_spare_6 b_spareWritten b_states b_fifth b_oldest b_stateCount b_text b_textLength b_at b_read b_columns b_told b_wants b_comes) := hD
        obtain ⟨v1_7, e_v1_7⟩ : ∃ y : Int32, y = v1_1 + (1 : Int32) := ⟨_, rfl⟩
        replace h := h v1_7 e_v1_7
        refine lv_iinc (v := v1_7) (lv' := [(1, .int v1_7), (0, .ref (q 0))]) hx hb dX5_setAside_21 hl (k := 0) rfl (by rw [e_v1_7]; rfl) (by decide) rfl (fun ls hl => ?_)
        refine lv_goto (tgt := 2) hx hb dX5_setAside_24 (by decide) ?_
        exact ih_1 v1_7 b_spare_6 H locs ls h hP hD hS (lv_sub hl [0, 1] rfl)
  obtain ⟨n_1, h⟩ := h
  refine loop_1 _ ?_ n_1 (0 : Int32) b_spare _ _ ls h hP hD hS (lv_sub hl [0, 1] rfl)
  intro v1_1 b_spare_2 H locs ls h hP hD hS hl
  refine lv_iconst (v := (0 : Int32)) hx hb dX5_setAside_27 (by decide) ?_
  refine lv_istore_n (lv' := [(1, .int (0 : Int32)), (0, .ref (q 0))]) hx hb dX5_setAside_28 rfl hl (by decide) rfl (fun ls hl => ?_)
  have loop_2 : ∀ (kx_2 : Int32 → (Nat → Int32) → Prop), (∀ (v1_8 : Int32) (b_spareWritten_9 : Nat → Int32) (H : Heap) (locs : List Loc) (ls : Array Slot), kx_2 v1_8 b_spareWritten_9 → va_P g.1 vwCl (wM g q b_m b_written b_spare_2 b_spareWritten_9 b_states b_fifth b_oldest b_stateCount b_text b_textLength b_at b_read b_columns b_told b_wants b_comes) H → va_D A (wM g q b_m b_written b_spare_2 b_spareWritten_9 b_states b_fifth b_oldest b_stateCount b_text b_textLength b_at b_read b_columns b_told b_wants b_comes) → va_S A s.heap H locs → lv_has ls 2 [(1, .int v1_8), (0, .ref (q 0))] → W p l e (headSpec wsX5_setAside ({ frames := 0, cells := 0, slots := 0, locals := 0 })).room s m ([.ref (q 0)] : List Value).toArray below meth c H locs 0 0 (MQ below (va_Qv (fun u : (Nat → Int32) × (Nat → Int32) => k u.1 u.2) (fun u t => PostB g A (wM g q b_m b_written u.1 u.2 b_states b_fifth b_oldest b_stateCount b_text b_textLength b_at b_read b_columns b_told b_wants b_comes) t) A) ([.ref (q 0)] : List Value).toArray s 0 0 A) (F0 m 54 ls [])) → ∀ (n_2 : Nat) (v1_8 : Int32) (b_spareWritten_9 : Nat → Int32) (H : Heap) (locs : List Loc) (ls : Array Slot), PX5_setAside_L2 b_written kx_2 n_2 v1_8 b_spareWritten_9 → va_P g.1 vwCl (wM g q b_m b_written b_spare_2 b_spareWritten_9 b_states b_fifth b_oldest b_stateCount b_text b_textLength b_at b_read b_columns b_told b_wants b_comes) H → va_D A (wM g q b_m b_written b_spare_2 b_spareWritten_9 b_states b_fifth b_oldest b_stateCount b_text b_textLength b_at b_read b_columns b_told b_wants b_comes) → va_S A s.heap H locs → lv_has ls 2 [(1, .int v1_8), (0, .ref (q 0))] → W p l e (headSpec wsX5_setAside ({ frames := 0, cells := 0, slots := 0, locals := 0 })).room s m ([.ref (q 0)] : List Value).toArray below meth c H locs 0 0 (MQ below (va_Qv (fun u : (Nat → Int32) × (Nat → Int32) => k u.1 u.2) (fun u t => PostB g A (wM g q b_m b_written u.1 u.2 b_states b_fifth b_oldest b_stateCount b_text b_textLength b_at b_read b_columns b_told b_wants b_comes) t) A) ([.ref (q 0)] : List Value).toArray s 0 0 A) (F0 m 29 ls []) := by
    intro kx_2 hexit_2 n_2
    induction n_2 with
    | zero => exact fun _ _ _ _ _ h _ _ _ _ => (h : False).elim
    | succ n_2 ih_2 =>
      intro v1_8 b_spareWritten_9 H locs ls h hP hD hS hl
      unfold PX5_setAside_L2 at h
      refine lv_iload_n hx hb dX5_setAside_29 rfl (lv_at hl 0 rfl) ?_
      refine lv_sipush (v := (8640 : Int32)) hx hb dX5_setAside_30 (by decide) ?_
      refine lv_icmp_ge (tgt := 54) hx hb dX5_setAside_33 (by decide) (fun c_33_9 => ?_) (fun c_33_9 => ?_)
      · replace h := h.1 c_33_9
        exact hexit_2 v1_8 b_spareWritten_9 H locs ls h hP hD hS (lv_sub hl [0, 1] rfl)
      · replace h := h.2 c_33_9
        refine lv_aload_n hx hb dX5_setAside_36 rfl (lv_at hl 1 rfl) ?_
        refine va_get (D := g.1) (ci := 5) (v := .ref (q 4)) (C := RX5) (T := TX5) (N := 16) hx hb hts iX5 hown hK.1 hP 0 rfl rfl 3 (by decide) (hts (.fieldLink RX5 19 "LightWheelModel" "spareWritten" "[I") (by decide +kernel)) (fun _ h9 => h9) rfl dX5_setAside_37 ?_
        refine lv_iload_n hx hb dX5_setAside_40 rfl (lv_at hl 0 rfl) ?_
        refine lv_aload_n hx hb dX5_setAside_41 rfl (lv_at hl 1 rfl) ?_
        refine va_get (D := g.1) (ci := 5) (v := .ref (q 2)) (C := RX5) (T := TX5) (N := 16) hx hb hts iX5 hown hK.1 hP 0 rfl rfl 1 (by decide) (hts (.fieldLink RX5 13 "LightWheelModel" "written" "[I") (by decide +kernel)) (fun _ h9 => h9) rfl dX5_setAside_42 ?_
        refine lv_iload_n hx hb dX5_setAside_45 rfl (lv_at hl 0 rfl) ?_
        have o_46_10 := h.1
        replace h := h.2
        refine va_iald hx hb hK.1 hP 2 0 rfl rfl o_46_10 dX5_setAside_46 ?_
        have o_47_11 := h.1
        replace h := h.2
        refine xs_iast hx hb hK.1 hP hD hS 4 0 rfl rfl o_47_11 dX5_setAside_47 (fun b_spareWritten_13 e_b_spareWritten_13 H locs hP hD hS => ?_)
        replace h := h b_spareWritten_13 e_b_spareWritten_13
        have hP : va_P g.1 vwCl (wM g q b_m b_written b_spare_2 b_spareWritten_13 b_states b_fifth b_oldest b_stateCount b_text b_textLength b_at b_read b_columns b_told b_wants b_comes) H := hP
        have hD : va_D A (wM g q b_m b_written b_spare_2 b_spareWritten_13 b_states b_fifth b_oldest b_stateCount b_text b_textLength b_at b_read b_columns b_told b_wants b_comes) := hD
        obtain ⟨v1_14, e_v1_14⟩ : ∃ y : Int32, y = v1_8 + (1 : Int32) := ⟨_, rfl⟩
        replace h := h v1_14 e_v1_14
        refine lv_iinc (v := v1_14) (lv' := [(1, .int v1_14), (0, .ref (q 0))]) hx hb dX5_setAside_48 hl (k := 0) rfl (by rw [e_v1_14]; rfl) (by decide) rfl (fun ls hl => ?_)
        refine lv_goto (tgt := 29) hx hb dX5_setAside_51 (by decide) ?_
        exact ih_2 v1_14 b_spareWritten_13 H locs ls h hP hD hS (lv_sub hl [0, 1] rfl)
  obtain ⟨n_2, h⟩ := h
  refine loop_2 _ ?_ n_2 (0 : Int32) b_spareWritten _ _ ls h hP hD hS (lv_sub hl [0, 1] rfl)
  intro v1_8 b_spareWritten_9 H locs ls h hP hD hS hl
  exact W.vret hx hb hr (fun t ht hW => ⟨⟨(b_spare_2, b_spareWritten_9), rfl, h, by rw [ht]; exact hP, hD⟩, hS.F ht⟩) hS.2.2 dX5_setAside_54
theorem hdX5_bringBack : yX5_bringBack.cls = RX5 ∧ yX5_bringBack.cls ≠ "java/lang/invoke/MethodHandle" ∧ yX5_bringBack.cls ≠ "java/lang/invoke/VarHandle" ∧ (parseMethodDescriptor yX5_bringBack.desc).map (fun d => d.parameters.length) = some 0 := by decide +kernel
set_option maxHeartbeats 4000000 in
set_option maxRecDepth 100000 in
theorem kX5_bringBack (l : Launch) (g : GG) (q : Nat → Nat) (sz : Nat) (b_m : Nat → Int32) (b_written : Nat → Int32) (b_spare : Nat → Int32) (b_spareWritten : Nat → Int32) (b_states : Nat → Int32) (b_fifth : Nat → Int32) (b_oldest : Int32) (b_stateCount : Int32) (b_text : Nat → Int32) (b_textLength : Int32) (b_at : Int32) (b_read : Nat → Int32) (b_columns : Int32) (b_told : Int32) (b_wants : Nat → Int32) (b_comes : Nat → Int32)  (k : (Nat → Int32) → (Nat → Int32) → Prop) (h : PX5_bringBack b_m b_written b_spare b_spareWritten  k) : Met l yX5_bringBack wsX5_bringBack ({ frames := 0, cells := 0, slots := 0, locals := 0 }) (PreM g [.ref (q 0)] (wM g q b_m b_written b_spare b_spareWritten b_states b_fifth b_oldest b_stateCount b_text b_textLength b_at b_read b_columns b_told b_wants b_comes) sz) (va_Qv (fun u : (Nat → Int32) × (Nat → Int32) => k u.1 u.2) (fun u t => PostB g (va_A (wM g q b_m b_written b_spare b_spareWritten b_states b_fifth b_oldest b_stateCount b_text b_textLength b_at b_read b_columns b_told b_wants b_comes) sz) (wM g q u.1 u.2 b_spare b_spareWritten b_states b_fifth b_oldest b_stateCount b_text b_textLength b_at b_read b_columns b_told b_wants b_comes) t) (va_A (wM g q b_m b_written b_spare b_spareWritten b_states b_fifth b_oldest b_stateCount b_text b_textLength b_at b_read b_columns b_told b_wants b_comes) sz)) 0 0 (va_A (wM g q b_m b_written b_spare b_spareWritten b_states b_fifth b_oldest b_stateCount b_text b_textLength b_at b_read b_columns b_told b_wants b_comes) sz) := by
  refine Met.ofW (cc := cX5_bringBack) (maxL := 2) (ret := none) (by decide) rfl ?_
  intro p e s m args below meth c s₁ B hml hv
  obtain ⟨rfl, hsz, hP, hK, hD0⟩ := hv
  have hx := B.exec
  have hb := B.bytes
  have hr := B.returns
  have hts := atoms_spec (ws := wsX5_bringBack) B.pre
  have hown : s.vm.findClass RX5 = some m.cls := findClass_of_methodNamed B.named
  have hlocks := B.notSynchronized
  have iX5 : ∀ w ∈ wsX50, w ∈ wsX5_bringBack := by decide +kernel
  subst hsz
  have hD := hD0.self (sz := s.heap.size)
  generalize hAe : va_A (wM g q b_m b_written b_spare b_spareWritten b_states b_fifth b_oldest b_stateCount b_text b_textLength b_at b_read b_columns b_told b_wants b_comes) s.heap.size = A at hD ⊢
  have hA : ∀ q : Nat, s.heap.size ≤ q → A q := fun q h => by rw [← hAe]; exact Or.inr h
  clear hAe hD0
  have hS : va_S A s.heap s.heap [] := va_S.rf
  have hl := lv_entry ([.ref (q 0)]) (n := 2) (Nat.le_of_ble_eq_true rfl)
  rw [lg_entry_eq]
  generalize (lg_sl ([.ref (q 0)]) ++ List.replicate (2 - (lg_sl ([.ref (q 0)])).length) Slot.unset).toArray = ls at hl ⊢
  have hl : lv_has ls 2 [(0, .ref (q 0))] := hl
  unfold PX5_bringBack at h
  obtain ⟨H, hHe⟩ : ∃ y, y = s.heap := ⟨_, rfl⟩
  rw [← hHe] at hP
  have hS : va_S A s.heap H [] := by rw [hHe]; exact hS
  have hW0 : ∀ (Q : State → Prop), W p l e (headSpec wsX5_bringBack ({ frames := 0, cells := 0, slots := 0, locals := 0 })).room s m ([.ref (q 0)] : List Value).toArray below meth c H [] 0 0 Q (F0 m 0 ls []) → W p l e (headSpec wsX5_bringBack ({ frames := 0, cells := 0, slots := 0, locals := 0 })).room s m ([.ref (q 0)] : List Value).toArray below meth c s.heap [] 0 0 Q (F0 m 0 ls []) := by rw [hHe]; exact fun _ h9 => h9
  refine hW0 _ ?_
  clear hW0 hHe
  generalize ([] : List Loc) = locs at hS ⊢
  refine lv_iconst (v := (0 : Int32)) hx hb dX5_bringBack_0 (by decide) ?_
  refine lv_istore_n (lv' := [(1, .int (0 : Int32)), (0, .ref (q 0))]) hx hb dX5_bringBack_1 rfl hl (by decide) rfl (fun ls hl => ?_)
  have loop_1 : ∀ (kx_1 : Int32 → (Nat → Int32) → Prop), (∀ (v1_1 : Int32) (b_m_2 : Nat → Int32) (H : Heap) (locs : List Loc) (ls : Array Slot), kx_1 v1_1 b_m_2 → va_P g.1 vwCl (wM g q b_m_2 b_written b_spare b_spareWritten b_states b_fifth b_oldest b_stateCount b_text b_textLength b_at b_read b_columns b_told b_wants b_comes) H → va_D A (wM g q b_m_2 b_written b_spare b_spareWritten b_states b_fifth b_oldest b_stateCount b_text b_textLength b_at b_read b_columns b_told b_wants b_comes) → va_S A s.heap H locs → lv_has ls 2 [(1, .int v1_1), (0, .ref (q 0))] → W p l e (headSpec wsX5_bringBack ({ frames := 0, cells := 0, slots := 0, locals := 0 })).room s m ([.ref (q 0)] : List Value).toArray below meth c H locs 0 0 (MQ below (va_Qv (fun u : (Nat → Int32) × (Nat → Int32) => k u.1 u.2) (fun u t => PostB g A (wM g q u.1 u.2 b_spare b_spareWritten b_states b_fifth b_oldest b_stateCount b_text b_textLength b_at b_read b_columns b_told b_wants b_comes) t) A) ([.ref (q 0)] : List Value).toArray s 0 0 A) (F0 m 27 ls [])) → ∀ (n_1 : Nat) (v1_1 : Int32) (b_m_2 : Nat → Int32) (H : Heap) (locs : List Loc) (ls : Array Slot), PX5_bringBack_L1 b_spare kx_1 n_1 v1_1 b_m_2 → va_P g.1 vwCl (wM g q b_m_2 b_written b_spare b_spareWritten b_states b_fifth b_oldest b_stateCount b_text b_textLength b_at b_read b_columns b_told b_wants b_comes) H → va_D A (wM g q b_m_2 b_written b_spare b_spareWritten b_states b_fifth b_oldest b_stateCount b_text b_textLength b_at b_read b_columns b_told b_wants b_comes) → va_S A s.heap H locs → lv_has ls 2 [(1, .int v1_1), (0, .ref (q 0))] → W p l e (headSpec wsX5_bringBack ({ frames := 0, cells := 0, slots := 0, locals := 0 })).room s m ([.ref (q 0)] : List Value).toArray below meth c H locs 0 0 (MQ below (va_Qv (fun u : (Nat → Int32) × (Nat → Int32) => k u.1 u.2) (fun u t => PostB g A (wM g q u.1 u.2 b_spare b_spareWritten b_states b_fifth b_oldest b_stateCount b_text b_textLength b_at b_read b_columns b_told b_wants b_comes) t) A) ([.ref (q 0)] : List Value).toArray s 0 0 A) (F0 m 2 ls []) := by
    intro kx_1 hexit_1 n_1
    induction n_1 with
    | zero => exact fun _ _ _ _ _ h _ _ _ _ => (h : False).elim
    | succ n_1 ih_1 =>
      intro v1_1 b_m_2 H locs ls h hP hD hS hl
      unfold PX5_bringBack_L1 at h
      refine lv_iload_n hx hb dX5_bringBack_2 rfl (lv_at hl 0 rfl) ?_
      refine lv_sipush (v := (348 : Int32)) hx hb dX5_bringBack_3 (by decide) ?_
      refine lv_icmp_ge (tgt := 27) hx hb dX5_bringBack_6 (by decide) (fun c_6_2 => ?_) (fun c_6_2 => ?_)
      · replace h := h.1 c_6_2
        exact hexit_1 v1_1 b_m_2 H locs ls h hP hD hS (lv_sub hl [0, 1] rfl)
      · replace h := h.2 c_6_2
        refine lv_aload_n hx hb dX5_bringBack_9 rfl (lv_at hl 1 rfl) ?_
        refine va_get (D := g.1) (ci := 5) (v := .ref (q 1)) (C := RX5) (T := TX5) (N := 16) hx hb hts iX5 hown hK.1 hP 0 rfl rfl 0 (by decide) (hts (.fieldLink RX5 7 "LightWheelModel" "m" "[I") (by decide +kernel)) (fun _ h9 => h9) rfl dX5_bringBack_10 ?_
        refine lv_iload_n hx hb dX5_bringBack_13 rfl (lv_at hl 0 rfl) ?_
        refine lv_aload_n hx hb dX5_bringBack_14 rfl (lv_at hl 1 rfl) ?_
        refine va_get (D := g.1) (ci := 5) (v := .ref (q 3)) (C := RX5) (T := TX5) (N := 16) hx hb hts iX5 hown hK.1 hP 0 rfl rfl 2 (by decide) (hts (.fieldLink RX5 16 "LightWheelModel" "spare" "[I") (by decide +kernel)) (fun _ h9 => h9) rfl dX5_bringBack_15 ?_
        refine lv_iload_n hx hb dX5_bringBack_18 rfl (lv_at hl 0 rfl) ?_
        have o_19_3 := h.1
        replace h := h.2
        refine va_iald hx hb hK.1 hP 3 0 rfl rfl o_19_3 dX5_bringBack_19 ?_
        have o_20_4 := h.1
        replace h := h.2
        refine xs_iast hx hb hK.1 hP hD hS 1 0 rfl rfl o_20_4 dX5_bringBack_20 (fun b_m_6 e_b_m_6 H locs hP hD hS => ?_)
        replace h := h b_m_6 e_b_m_6
        have hP : va_P g.1 vwCl (wM g q b_m_6 b_written b_spare b_spareWritten b_states b_fifth b_oldest b_stateCount b_text b_textLength b_at b_read b_columns b_told b_wants b_comes) H := hP
        have hD : va_D A (wM g q b_m_6 b_written b_spare b_spareWritten b_states b_fifth b_oldest b_stateCount b_text b_textLength b_at b_read b_columns b_told b_wants b_comes) := hD
        obtain ⟨v1_7, e_v1_7⟩ : ∃ y : Int32, y = v1_1 + (1 : Int32) := ⟨_, rfl⟩
        replace h := h v1_7 e_v1_7
        refine lv_iinc (v := v1_7) (lv' := [(1, .int v1_7), (0, .ref (q 0))]) hx hb dX5_bringBack_21 hl (k := 0) rfl (by rw [e_v1_7]; rfl) (by decide) rfl (fun ls hl => ?_)
        refine lv_goto (tgt := 2) hx hb dX5_bringBack_24 (by decide) ?_
        exact ih_1 v1_7 b_m_6 H locs ls h hP hD hS (lv_sub hl [0, 1] rfl)
  obtain ⟨n_1, h⟩ := h
  refine loop_1 _ ?_ n_1 (0 : Int32) b_m _ _ ls h hP hD hS (lv_sub hl [0, 1] rfl)
  intro v1_1 b_m_2 H locs ls h hP hD hS hl
  refine lv_iconst (v := (0 : Int32)) hx hb dX5_bringBack_27 (by decide) ?_
  refine lv_istore_n (lv' := [(1, .int (0 : Int32)), (0, .ref (q 0))]) hx hb dX5_bringBack_28 rfl hl (by decide) rfl (fun ls hl => ?_)
  have loop_2 : ∀ (kx_2 : Int32 → (Nat → Int32) → Prop), (∀ (v1_8 : Int32) (b_written_9 : Nat → Int32) (H : Heap) (locs : List Loc) (ls : Array Slot), kx_2 v1_8 b_written_9 → va_P g.1 vwCl (wM g q b_m_2 b_written_9 b_spare b_spareWritten b_states b_fifth b_oldest b_stateCount b_text b_textLength b_at b_read b_columns b_told b_wants b_comes) H → va_D A (wM g q b_m_2 b_written_9 b_spare b_spareWritten b_states b_fifth b_oldest b_stateCount b_text b_textLength b_at b_read b_columns b_told b_wants b_comes) → va_S A s.heap H locs → lv_has ls 2 [(1, .int v1_8), (0, .ref (q 0))] → W p l e (headSpec wsX5_bringBack ({ frames := 0, cells := 0, slots := 0, locals := 0 })).room s m ([.ref (q 0)] : List Value).toArray below meth c H locs 0 0 (MQ below (va_Qv (fun u : (Nat → Int32) × (Nat → Int32) => k u.1 u.2) (fun u t => PostB g A (wM g q u.1 u.2 b_spare b_spareWritten b_states b_fifth b_oldest b_stateCount b_text b_textLength b_at b_read b_columns b_told b_wants b_comes) t) A) ([.ref (q 0)] : List Value).toArray s 0 0 A) (F0 m 54 ls [])) → ∀ (n_2 : Nat) (v1_8 : Int32) (b_written_9 : Nat → Int32) (H : Heap) (locs : List Loc) (ls : Array Slot), PX5_bringBack_L2 b_spareWritten kx_2 n_2 v1_8 b_written_9 → va_P g.1 vwCl (wM g q b_m_2 b_written_9 b_spare b_spareWritten b_states b_fifth b_oldest b_stateCount b_text b_textLength b_at b_read b_columns b_told b_wants b_comes) H → va_D A (wM g q b_m_2 b_written_9 b_spare b_spareWritten b_states b_fifth b_oldest b_stateCount b_text b_textLength b_at b_read b_columns b_told b_wants b_comes) → va_S A s.heap H locs → lv_has ls 2 [(1, .int v1_8), (0, .ref (q 0))] → W p l e (headSpec wsX5_bringBack ({ frames := 0, cells := 0, slots := 0, locals := 0 })).room s m ([.ref (q 0)] : List Value).toArray below meth c H locs 0 0 (MQ below (va_Qv (fun u : (Nat → Int32) × (Nat → Int32) => k u.1 u.2) (fun u t => PostB g A (wM g q u.1 u.2 b_spare b_spareWritten b_states b_fifth b_oldest b_stateCount b_text b_textLength b_at b_read b_columns b_told b_wants b_comes) t) A) ([.ref (q 0)] : List Value).toArray s 0 0 A) (F0 m 29 ls []) := by
    intro kx_2 hexit_2 n_2
    induction n_2 with
    | zero => exact fun _ _ _ _ _ h _ _ _ _ => (h : False).elim
    | succ n_2 ih_2 =>
      intro v1_8 b_written_9 H locs ls h hP hD hS hl
      unfold PX5_bringBack_L2 at h
      refine lv_iload_n hx hb dX5_bringBack_29 rfl (lv_at hl 0 rfl) ?_
      refine lv_sipush (v := (8640 : Int32)) hx hb dX5_bringBack_30 (by decide) ?_
      refine lv_icmp_ge (tgt := 54) hx hb dX5_bringBack_33 (by decide) (fun c_33_9 => ?_) (fun c_33_9 => ?_)
      · replace h := h.1 c_33_9
        exact hexit_2 v1_8 b_written_9 H locs ls h hP hD hS (lv_sub hl [0, 1] rfl)
      · replace h := h.2 c_33_9
        refine lv_aload_n hx hb dX5_bringBack_36 rfl (lv_at hl 1 rfl) ?_
        refine va_get (D := g.1) (ci := 5) (v := .ref (q 2)) (C := RX5) (T := TX5) (N := 16) hx hb hts iX5 hown hK.1 hP 0 rfl rfl 1 (by decide) (hts (.fieldLink RX5 13 "LightWheelModel" "written" "[I") (by decide +kernel)) (fun _ h9 => h9) rfl dX5_bringBack_37 ?_
        refine lv_iload_n hx hb dX5_bringBack_40 rfl (lv_at hl 0 rfl) ?_
        refine lv_aload_n hx hb dX5_bringBack_41 rfl (lv_at hl 1 rfl) ?_
        refine va_get (D := g.1) (ci := 5) (v := .ref (q 4)) (C := RX5) (T := TX5) (N := 16) hx hb hts iX5 hown hK.1 hP 0 rfl rfl 3 (by decide) (hts (.fieldLink RX5 19 "LightWheelModel" "spareWritten" "[I") (by decide +kernel)) (fun _ h9 => h9) rfl dX5_bringBack_42 ?_
        refine lv_iload_n hx hb dX5_bringBack_45 rfl (lv_at hl 0 rfl) ?_
        have o_46_10 := h.1
        replace h := h.2
        refine va_iald hx hb hK.1 hP 4 0 rfl rfl o_46_10 dX5_bringBack_46 ?_
        have o_47_11 := h.1
        replace h := h.2
        refine xs_iast hx hb hK.1 hP hD hS 2 0 rfl rfl o_47_11 dX5_bringBack_47 (fun b_written_13 e_b_written_13 H locs hP hD hS => ?_)
        replace h := h b_written_13 e_b_written_13
        have hP : va_P g.1 vwCl (wM g q b_m_2 b_written_13 b_spare b_spareWritten b_states b_fifth b_oldest b_stateCount b_text b_textLength b_at b_read b_columns b_told b_wants b_comes) H := hP
        have hD : va_D A (wM g q b_m_2 b_written_13 b_spare b_spareWritten b_states b_fifth b_oldest b_stateCount b_text b_textLength b_at b_read b_columns b_told b_wants b_comes) := hD
        obtain ⟨v1_14, e_v1_14⟩ : ∃ y : Int32, y = v1_8 + (1 : Int32) := ⟨_, rfl⟩
        replace h := h v1_14 e_v1_14
        refine lv_iinc (v := v1_14) (lv' := [(1, .int v1_14), (0, .ref (q 0))]) hx hb dX5_bringBack_48 hl (k := 0) rfl (by rw [e_v1_14]; rfl) (by decide) rfl (fun ls hl => ?_)
        refine lv_goto (tgt := 29) hx hb dX5_bringBack_51 (by decide) ?_
        exact ih_2 v1_14 b_written_13 H locs ls h hP hD hS (lv_sub hl [0, 1] rfl)
  obtain ⟨n_2, h⟩ := h
  refine loop_2 _ ?_ n_2 (0 : Int32) b_written _ _ ls h hP hD hS (lv_sub hl [0, 1] rfl)
  intro v1_8 b_written_9 H locs ls h hP hD hS hl
  exact W.vret hx hb hr (fun t ht hW => ⟨⟨(b_m_2, b_written_9), rfl, h, by rw [ht]; exact hP, hD⟩, hS.F ht⟩) hS.2.2 dX5_bringBack_54
theorem hdX5_putColor : yX5_putColor.cls = RX5 ∧ yX5_putColor.cls ≠ "java/lang/invoke/MethodHandle" ∧ yX5_putColor.cls ≠ "java/lang/invoke/VarHandle" ∧ (parseMethodDescriptor yX5_putColor.desc).map (fun d => d.parameters.length) = some 4 := by decide +kernel
set_option maxHeartbeats 4000000 in
set_option maxRecDepth 100000 in
theorem kX5_putColor (l : Launch) (g : GG) (q : Nat → Nat) (sz : Nat) (b_m : Nat → Int32) (b_written : Nat → Int32) (b_spare : Nat → Int32) (b_spareWritten : Nat → Int32) (b_states : Nat → Int32) (b_fifth : Nat → Int32) (b_oldest : Int32) (b_stateCount : Int32) (b_text : Nat → Int32) (b_textLength : Int32) (b_at : Int32) (b_read : Nat → Int32) (b_columns : Int32) (b_told : Int32) (b_wants : Nat → Int32) (b_comes : Nat → Int32) (a_1 : Int32) (a_2 : Int32) (a_3 : Int32) (a_4 : Int32) (k : (Nat → Int32) → Prop) (h : PX5_putColor b_m a_1 a_2 a_3 a_4 k) : Met l yX5_putColor wsX5_putColor ({ frames := 1, cells := 0, slots := 0, locals := 22 }) (PreM g [.ref (q 0), .int a_1, .int a_2, .int a_3, .int a_4] (wM g q b_m b_written b_spare b_spareWritten b_states b_fifth b_oldest b_stateCount b_text b_textLength b_at b_read b_columns b_told b_wants b_comes) sz) (va_Qv (fun u : (Nat → Int32) => k u) (fun u t => PostB g (va_A (wM g q b_m b_written b_spare b_spareWritten b_states b_fifth b_oldest b_stateCount b_text b_textLength b_at b_read b_columns b_told b_wants b_comes) sz) (wM g q u b_written b_spare b_spareWritten b_states b_fifth b_oldest b_stateCount b_text b_textLength b_at b_read b_columns b_told b_wants b_comes) t) (va_A (wM g q b_m b_written b_spare b_spareWritten b_states b_fifth b_oldest b_stateCount b_text b_textLength b_at b_read b_columns b_told b_wants b_comes) sz)) 0 0 (va_A (wM g q b_m b_written b_spare b_spareWritten b_states b_fifth b_oldest b_stateCount b_text b_textLength b_at b_read b_columns b_told b_wants b_comes) sz) := by
  refine Met.ofW (cc := cX5_putColor) (maxL := 7) (ret := none) (by decide) rfl ?_
  intro p e s m args below meth c s₁ B hml hv
  obtain ⟨rfl, hsz, hP, hK, hD0⟩ := hv
  have hx := B.exec
  have hb := B.bytes
  have hr := B.returns
  have hts := atoms_spec (ws := wsX5_putColor) B.pre
  have hown : s.vm.findClass RX5 = some m.cls := findClass_of_methodNamed B.named
  have hlocks := B.notSynchronized
  have iX5 : ∀ w ∈ wsX50, w ∈ wsX5_putColor := by decide +kernel
  subst hsz
  have hD := hD0.self (sz := s.heap.size)
  generalize hAe : va_A (wM g q b_m b_written b_spare b_spareWritten b_states b_fifth b_oldest b_stateCount b_text b_textLength b_at b_read b_columns b_told b_wants b_comes) s.heap.size = A at hD ⊢
  have hA : ∀ q : Nat, s.heap.size ≤ q → A q := fun q h => by rw [← hAe]; exact Or.inr h
  clear hAe hD0
  have hS : va_S A s.heap s.heap [] := va_S.rf
  have hl := lv_entry ([.ref (q 0), .int a_1, .int a_2, .int a_3, .int a_4]) (n := 7) (Nat.le_of_ble_eq_true rfl)
  rw [lg_entry_eq]
  generalize (lg_sl ([.ref (q 0), .int a_1, .int a_2, .int a_3, .int a_4]) ++ List.replicate (7 - (lg_sl ([.ref (q 0), .int a_1, .int a_2, .int a_3, .int a_4])).length) Slot.unset).toArray = ls at hl ⊢
  have hl : lv_has ls 7 [(0, .ref (q 0)), (1, .int a_1), (2, .int a_2), (3, .int a_3), (4, .int a_4)] := hl
  unfold PX5_putColor at h
  obtain ⟨H, hHe⟩ : ∃ y, y = s.heap := ⟨_, rfl⟩
  rw [← hHe] at hP
  have hS : va_S A s.heap H [] := by rw [hHe]; exact hS
  have hW0 : ∀ (Q : State → Prop), W p l e (headSpec wsX5_putColor ({ frames := 1, cells := 0, slots := 0, locals := 22 })).room s m ([.ref (q 0), .int a_1, .int a_2, .int a_3, .int a_4] : List Value).toArray below meth c H [] 0 0 Q (F0 m 0 ls []) → W p l e (headSpec wsX5_putColor ({ frames := 1, cells := 0, slots := 0, locals := 22 })).room s m ([.ref (q 0), .int a_1, .int a_2, .int a_3, .int a_4] : List Value).toArray below meth c s.heap [] 0 0 Q (F0 m 0 ls []) := by rw [hHe]; exact fun _ h9 => h9
  refine hW0 _ ?_
  clear hW0 hHe
  generalize ([] : List Loc) = locs at hS ⊢
  refine lv_iload_n hx hb dX5_putColor_0 rfl (lv_at hl 1 rfl) ?_
  refine lv_iload_n hx hb dX5_putColor_1 rfl (lv_at hl 2 rfl) ?_
  refine lv_iload_n hx hb dX5_putColor_2 rfl (lv_at hl 3 rfl) ?_
  refine vp_callSi (W.runS (As := [.int a_1, .int a_2, .int a_3]) (rest := []) ⟨hx, hb, hml, hown, hts⟩ (kX5_cellOf l g  a_1 a_2 a_3 _ h) (va_cwS 3 hts gX5_putColor_X5_cellOf rfl rfl rfl hdX5_cellOf.2 ⟨(Nat.le_of_ble_eq_true rfl), (Nat.le_of_ble_eq_true rfl)⟩) (preS_R hK (va_P_nil (D := g.1) (cl := vwCl))) rfl rfl hl.1 rfl (lv_room (Nat.le_of_ble_eq_true rfl)) dX5_putColor_3 ⟨(Nat.le_of_ble_eq_true rfl), (Nat.le_of_ble_eq_true rfl)⟩) (fun r3_1 h => ?_)
  refine lv_istore (lv' := [(5, .int r3_1), (0, .ref (q 0)), (1, .int a_1), (2, .int a_2), (3, .int a_3), (4, .int a_4)]) hx hb dX5_putColor_6 hl (by decide) rfl (fun ls hl => ?_)
  refine lv_iconst (v := (3 : Int32)) hx hb dX5_putColor_8 (by decide) ?_
  refine lv_iload_n hx hb dX5_putColor_9 rfl (lv_at hl 4 rfl) ?_
  refine lv_bipush (v := (6 : Int32)) hx hb dX5_putColor_10 (by decide) ?_
  refine lv_irem hx hb dX5_putColor_12 (by decide) ?_
  refine lv_imul hx hb dX5_putColor_13 ?_
  refine lv_topi (fun v6_2 e_v6_2 => ?_)
  replace h := h v6_2 e_v6_2
  refine lv_istore (lv' := [(6, .int v6_2), (5, .int r3_1), (0, .ref (q 0)), (1, .int a_1), (2, .int a_2), (3, .int a_3), (4, .int a_4)]) hx hb dX5_putColor_14 hl (by decide) rfl (fun ls hl => ?_)
  refine lv_aload_n hx hb dX5_putColor_16 rfl (lv_at hl 2 rfl) ?_
  refine va_get (D := g.1) (ci := 5) (v := .ref (q 1)) (C := RX5) (T := TX5) (N := 16) hx hb hts iX5 hown hK.1 hP 0 rfl rfl 0 (by decide) (hts (.fieldLink RX5 7 "LightWheelModel" "m" "[I") (by decide +kernel)) (fun _ h9 => h9) rfl dX5_putColor_17 ?_
  refine lv_iload hx hb dX5_putColor_20 (lv_at hl 1 rfl) ?_
  refine lv_aload_n hx hb dX5_putColor_22 rfl (lv_at hl 2 rfl) ?_
  refine va_get (D := g.1) (ci := 5) (v := .ref (q 1)) (C := RX5) (T := TX5) (N := 16) hx hb hts iX5 hown hK.1 hP 0 rfl rfl 0 (by decide) (hts (.fieldLink RX5 7 "LightWheelModel" "m" "[I") (by decide +kernel)) (fun _ h9 => h9) rfl dX5_putColor_23 ?_
  refine lv_iload hx hb dX5_putColor_26 (lv_at hl 1 rfl) ?_
  have o_28_2 := h.1
  replace h := h.2
  refine va_iald hx hb hK.1 hP 1 0 rfl rfl o_28_2 dX5_putColor_28 ?_
  refine lv_bipush (v := (7 : Int32)) hx hb dX5_putColor_29 (by decide) ?_
  refine lv_iload hx hb dX5_putColor_31 (lv_at hl 0 rfl) ?_
  refine lv_ishl hx hb dX5_putColor_33 ?_
  refine lv_iconst (v := (-1 : Int32)) hx hb dX5_putColor_34 (by decide) ?_
  refine lv_ixor hx hb dX5_putColor_35 ?_
  refine lv_iand hx hb dX5_putColor_36 ?_
  refine lv_iload hx hb dX5_putColor_37 (lv_at hl 6 rfl) ?_
  refine lv_iload hx hb dX5_putColor_39 (lv_at hl 0 rfl) ?_
  refine lv_ishl hx hb dX5_putColor_41 ?_
  refine lv_ior hx hb dX5_putColor_42 ?_
  have o_43_3 := h.1
  replace h := h.2
  refine xs_iast hx hb hK.1 hP hD hS 1 0 rfl rfl o_43_3 dX5_putColor_43 (fun b_m_5 e_b_m_5 H locs hP hD hS => ?_)
  replace h := h b_m_5 e_b_m_5
  have hP : va_P g.1 vwCl (wM g q b_m_5 b_written b_spare b_spareWritten b_states b_fifth b_oldest b_stateCount b_text b_textLength b_at b_read b_columns b_told b_wants b_comes) H := hP
  have hD : va_D A (wM g q b_m_5 b_written b_spare b_spareWritten b_states b_fifth b_oldest b_stateCount b_text b_textLength b_at b_read b_columns b_told b_wants b_comes) := hD
  exact W.vret hx hb hr (fun t ht hW => ⟨⟨b_m_5, rfl, h, by rw [ht]; exact hP, hD⟩, hS.F ht⟩) hS.2.2 dX5_putColor_44
theorem hdX5_addPicture : yX5_addPicture.cls = RX5 ∧ yX5_addPicture.cls ≠ "java/lang/invoke/MethodHandle" ∧ yX5_addPicture.cls ≠ "java/lang/invoke/VarHandle" ∧ (parseMethodDescriptor yX5_addPicture.desc).map (fun d => d.parameters.length) = some 1 := by decide +kernel
set_option maxHeartbeats 4000000 in
set_option maxRecDepth 100000 in
theorem kX5_addPicture (l : Launch) (g : GG) (q : Nat → Nat) (sz : Nat) (b_m : Nat → Int32) (b_written : Nat → Int32) (b_spare : Nat → Int32) (b_spareWritten : Nat → Int32) (b_states : Nat → Int32) (b_fifth : Nat → Int32) (b_oldest : Int32) (b_stateCount : Int32) (b_text : Nat → Int32) (b_textLength : Int32) (b_at : Int32) (b_read : Nat → Int32) (b_columns : Int32) (b_told : Int32) (b_wants : Nat → Int32) (b_comes : Nat → Int32) (a_1 : Int32) (k : Int32 → (Nat → Int32) → (Nat → Int32) → (Nat → Int32) → Int32 → Int32 → Prop) (h : PX5_addPicture b_m b_written b_states b_fifth b_oldest b_stateCount a_1 k) : Met l yX5_addPicture wsX5_addPicture ({ frames := 2, cells := 0, slots := 0, locals := 45 }) (PreM g [.ref (q 0), .int a_1] (wM g q b_m b_written b_spare b_spareWritten b_states b_fifth b_oldest b_stateCount b_text b_textLength b_at b_read b_columns b_told b_wants b_comes) sz) (va_Qi (fun (r : Int32) (u : (Nat → Int32) × (Nat → Int32) × (Nat → Int32) × Int32 × Int32) => k r u.1 u.2.1 u.2.2.1 u.2.2.2.1 u.2.2.2.2) (fun u t => PostB g (va_A (wM g q b_m b_written b_spare b_spareWritten b_states b_fifth b_oldest b_stateCount b_text b_textLength b_at b_read b_columns b_told b_wants b_comes) sz) (wM g q u.1 b_written b_spare b_spareWritten u.2.1 u.2.2.1 u.2.2.2.1 u.2.2.2.2 b_text b_textLength b_at b_read b_columns b_told b_wants b_comes) t) (va_A (wM g q b_m b_written b_spare b_spareWritten b_states b_fifth b_oldest b_stateCount b_text b_textLength b_at b_read b_columns b_told b_wants b_comes) sz)) 0 0 (va_A (wM g q b_m b_written b_spare b_spareWritten b_states b_fifth b_oldest b_stateCount b_text b_textLength b_at b_read b_columns b_told b_wants b_comes) sz) := by
  refine Met.ofW (cc := cX5_addPicture) (maxL := 4) (ret := (some .int)) (by decide) rfl ?_
  intro p e s m args below meth c s₁ B hml hv
  obtain ⟨rfl, hsz, hP, hK, hD0⟩ := hv
  have hx := B.exec
  have hb := B.bytes
  have hr := B.returns
  have hts := atoms_spec (ws := wsX5_addPicture) B.pre
  have hown : s.vm.findClass RX5 = some m.cls := findClass_of_methodNamed B.named
  have hlocks := B.notSynchronized
  have iX5 : ∀ w ∈ wsX50, w ∈ wsX5_addPicture := by decide +kernel
  subst hsz
  have hD := hD0.self (sz := s.heap.size)
  generalize hAe : va_A (wM g q b_m b_written b_spare b_spareWritten b_states b_fifth b_oldest b_stateCount b_text b_textLength b_at b_read b_columns b_told b_wants b_comes) s.heap.size = A at hD ⊢
  have hA : ∀ q : Nat, s.heap.size ≤ q → A q := fun q h => by rw [← hAe]; exact Or.inr h
  clear hAe hD0
  have hS : va_S A s.heap s.heap [] := va_S.rf
  have hl := lv_entry ([.ref (q 0), .int a_1]) (n := 4) (Nat.le_of_ble_eq_true rfl)
  rw [lg_entry_eq]
  generalize (lg_sl ([.ref (q 0), .int a_1]) ++ List.replicate (4 - (lg_sl ([.ref (q 0), .int a_1])).length) Slot.unset).toArray = ls at hl ⊢
  have hl : lv_has ls 4 [(0, .ref (q 0)), (1, .int a_1)] := hl
  unfold PX5_addPicture at h
  obtain ⟨H, hHe⟩ : ∃ y, y = s.heap := ⟨_, rfl⟩
  rw [← hHe] at hP
  have hS : va_S A s.heap H [] := by rw [hHe]; exact hS
  have hW0 : ∀ (Q : State → Prop), W p l e (headSpec wsX5_addPicture ({ frames := 2, cells := 0, slots := 0, locals := 45 })).room s m ([.ref (q 0), .int a_1] : List Value).toArray below meth c H [] 0 0 Q (F0 m 0 ls []) → W p l e (headSpec wsX5_addPicture ({ frames := 2, cells := 0, slots := 0, locals := 45 })).room s m ([.ref (q 0), .int a_1] : List Value).toArray below meth c s.heap [] 0 0 Q (F0 m 0 ls []) := by rw [hHe]; exact fun _ h9 => h9
  refine hW0 _ ?_
  clear hW0 hHe
  generalize ([] : List Loc) = locs at hS ⊢
  refine lv_iload_n hx hb dX5_addPicture_0 rfl (lv_at hl 1 rfl) ?_
  refine lv_iconst (v := (1 : Int32)) hx hb dX5_addPicture_1 (by decide) ?_
  refine lv_bipush (v := (40 : Int32)) hx hb dX5_addPicture_2 (by decide) ?_
  refine vp_callSi (W.runS (As := [.int a_1, .int (1 : Int32), .int (40 : Int32)]) (rest := []) ⟨hx, hb, hml, hown, hts⟩ (kX5_in l g  a_1 (1 : Int32) (40 : Int32) _ h) (va_cwS 3 hts gX5_addPicture_X5_in rfl rfl rfl hdX5_in.2 ⟨(Nat.le_of_ble_eq_true rfl), (Nat.le_of_ble_eq_true rfl)⟩) (preS_R hK (va_P_nil (D := g.1) (cl := vwCl))) rfl rfl hl.1 rfl (lv_room (Nat.le_of_ble_eq_true rfl)) dX5_addPicture_4 ⟨(Nat.le_of_ble_eq_true rfl), (Nat.le_of_ble_eq_true rfl)⟩) (fun r4_1 h => ?_)
  refine lv_if_ne (tgt := 13) hx hb dX5_addPicture_7 (by decide) (fun c_7_1 => ?_) (fun c_7_1 => ?_)
  · replace h := h.1 c_7_1
    refine lv_aload_n hx hb dX5_addPicture_13 rfl (lv_at hl 0 rfl) ?_
    refine va_get (D := g.1) (ci := 5) (v := .ref (q 1)) (C := RX5) (T := TX5) (N := 16) hx hb hts iX5 hown hK.1 hP 0 rfl rfl 0 (by decide) (hts (.fieldLink RX5 7 "LightWheelModel" "m" "[I") (by decide +kernel)) (fun _ h9 => h9) rfl dX5_addPicture_14 ?_
    refine lv_bipush (v := (11 : Int32)) hx hb dX5_addPicture_17 (by decide) ?_
    refine xr_iald hx hb hK.1 hP 1 0 rfl rfl 11 rfl (Nat.le_of_ble_eq_true rfl) (Nat.le_of_ble_eq_true rfl) dX5_addPicture_19 ?_
    refine lv_iconst (v := (4 : Int32)) hx hb dX5_addPicture_20 (by decide) ?_
    refine lv_icmp_ne (tgt := 27) hx hb dX5_addPicture_21 (by decide) (fun c_21_2 => ?_) (fun c_21_2 => ?_)
    · replace h := h.1 c_21_2
      refine lv_aload_n hx hb dX5_addPicture_27 rfl (lv_at hl 0 rfl) ?_
      have hFc := va_freeA hD hS hA
      refine va_callv (va_runV (As := []) (rest := []) ⟨hx, hb, hml, hown, hts⟩ (kX5_record l g q H.size b_m b_written b_spare b_spareWritten b_states b_fifth b_oldest b_stateCount b_text b_textLength b_at b_read b_columns b_told b_wants b_comes _ h) (cwV 0 hts gX5_addPicture_X5_record rfl rfl rfl hdX5_record ⟨(Nat.le_of_ble_eq_true rfl), (Nat.le_of_ble_eq_true rfl)⟩) (preV_M (r := (RX5, TX5, 16)) hK hP hD (ci := 5) (q0 := 0) rfl rfl) rfl rfl hl.1 rfl (lv_room (Nat.le_of_ble_eq_true rfl)) dX5_addPicture_28 ⟨(Nat.le_of_ble_eq_true rfl), (Nat.le_of_ble_eq_true rfl)⟩) hS (fun q _ h9 => hFc q h9) hFc (fun u t H1 locs ht hvm hw hB hz1 hk1 hS => ?_)
      obtain ⟨b_states_4, b_fifth_5, b_oldest_6, b_stateCount_7⟩ := u
      replace h := hw
      try dsimp only at h
      obtain ⟨hP, hD⟩ := jn0 (wf := (wM g q b_m b_written b_spare b_spareWritten b_states_4 b_fifth_5 b_oldest_6 b_stateCount_7 b_text b_textLength b_at b_read b_columns b_told b_wants b_comes)) hB ht hFc
      have hP : va_P g.1 vwCl (wM g q b_m b_written b_spare b_spareWritten b_states_4 b_fifth_5 b_oldest_6 b_stateCount_7 b_text b_textLength b_at b_read b_columns b_told b_wants b_comes) H1 := hP
      have hD : va_D A (wM g q b_m b_written b_spare b_spareWritten b_states_4 b_fifth_5 b_oldest_6 b_stateCount_7 b_text b_textLength b_at b_read b_columns b_told b_wants b_comes) := hD
      clear hk1 hz1 hB ht hw hFc
      generalize H1 = H at hP hS ⊢
      refine lv_aload_n hx hb dX5_addPicture_31 rfl (lv_at hl 0 rfl) ?_
      refine va_get (D := g.1) (ci := 5) (v := .ref (q 1)) (C := RX5) (T := TX5) (N := 16) hx hb hts iX5 hown hK.1 hP 0 rfl rfl 0 (by decide) (hts (.fieldLink RX5 7 "LightWheelModel" "m" "[I") (by decide +kernel)) (fun _ h9 => h9) rfl dX5_addPicture_32 ?_
      refine lv_bipush (v := (11 : Int32)) hx hb dX5_addPicture_35 (by decide) ?_
      refine xr_iald hx hb hK.1 hP 1 0 rfl rfl 11 rfl (Nat.le_of_ble_eq_true rfl) (Nat.le_of_ble_eq_true rfl) dX5_addPicture_37 ?_
      refine lv_topi (fun v2_8 e_v2_8 => ?_)
      replace h := h v2_8 e_v2_8
      refine lv_istore_n (lv' := [(2, .int v2_8), (0, .ref (q 0)), (1, .int a_1)]) hx hb dX5_addPicture_38 rfl hl (by decide) rfl (fun ls hl => ?_)
      refine lv_aload_n hx hb dX5_addPicture_39 rfl (lv_at hl 1 rfl) ?_
      refine va_get (D := g.1) (ci := 5) (v := .ref (q 1)) (C := RX5) (T := TX5) (N := 16) hx hb hts iX5 hown hK.1 hP 0 rfl rfl 0 (by decide) (hts (.fieldLink RX5 7 "LightWheelModel" "m" "[I") (by decide +kernel)) (fun _ h9 => h9) rfl dX5_addPicture_40 ?_
      refine lv_bipush (v := (11 : Int32)) hx hb dX5_addPicture_43 (by decide) ?_
      refine lv_dup2_11 hx hb dX5_addPicture_45 rfl rfl ?_
      refine xr_iald hx hb hK.1 hP 1 0 rfl rfl 11 rfl (Nat.le_of_ble_eq_true rfl) (Nat.le_of_ble_eq_true rfl) dX5_addPicture_46 ?_
      refine lv_iconst (v := (1 : Int32)) hx hb dX5_addPicture_47 (by decide) ?_
      refine lv_iadd hx hb dX5_addPicture_48 ?_
      refine xr_iast hx hb hK.1 hP hD hS 1 0 rfl rfl 11 rfl (Nat.le_of_ble_eq_true rfl) (Nat.le_of_ble_eq_true rfl) dX5_addPicture_49 (fun b_m_9 e_b_m_9 H locs hP hD hS => ?_)
      replace h := h b_m_9 e_b_m_9
      have hP : va_P g.1 vwCl (wM g q b_m_9 b_written b_spare b_spareWritten b_states_4 b_fifth_5 b_oldest_6 b_stateCount_7 b_text b_textLength b_at b_read b_columns b_told b_wants b_comes) H := hP
      have hD : va_D A (wM g q b_m_9 b_written b_spare b_spareWritten b_states_4 b_fifth_5 b_oldest_6 b_stateCount_7 b_text b_textLength b_at b_read b_columns b_told b_wants b_comes) := hD
      refine lv_aload_n hx hb dX5_addPicture_50 rfl (lv_at hl 1 rfl) ?_
      refine va_get (D := g.1) (ci := 5) (v := .ref (q 1)) (C := RX5) (T := TX5) (N := 16) hx hb hts iX5 hown hK.1 hP 0 rfl rfl 0 (by decide) (hts (.fieldLink RX5 7 "LightWheelModel" "m" "[I") (by decide +kernel)) (fun _ h9 => h9) rfl dX5_addPicture_51 ?_
      refine lv_bipush (v := (12 : Int32)) hx hb dX5_addPicture_54 (by decide) ?_
      refine lv_iconst (v := (4 : Int32)) hx hb dX5_addPicture_56 (by decide) ?_
      refine lv_iload_n hx hb dX5_addPicture_57 rfl (lv_at hl 0 rfl) ?_
      refine lv_imul hx hb dX5_addPicture_58 ?_
      refine lv_iadd hx hb dX5_addPicture_59 ?_
      refine lv_iconst (v := (0 : Int32)) hx hb dX5_addPicture_60 (by decide) ?_
      refine lv_iadd hx hb dX5_addPicture_61 ?_
      refine lv_iload_n hx hb dX5_addPicture_62 rfl (lv_at hl 2 rfl) ?_
      have o_63_9 := h.1
      replace h := h.2
      refine xs_iast hx hb hK.1 hP hD hS 1 0 rfl rfl o_63_9 dX5_addPicture_63 (fun b_m_11 e_b_m_11 H locs hP hD hS => ?_)
      replace h := h b_m_11 e_b_m_11
      have hP : va_P g.1 vwCl (wM g q b_m_11 b_written b_spare b_spareWritten b_states_4 b_fifth_5 b_oldest_6 b_stateCount_7 b_text b_textLength b_at b_read b_columns b_told b_wants b_comes) H := hP
      have hD : va_D A (wM g q b_m_11 b_written b_spare b_spareWritten b_states_4 b_fifth_5 b_oldest_6 b_stateCount_7 b_text b_textLength b_at b_read b_columns b_told b_wants b_comes) := hD
      refine lv_aload_n hx hb dX5_addPicture_64 rfl (lv_at hl 1 rfl) ?_
      refine va_get (D := g.1) (ci := 5) (v := .ref (q 1)) (C := RX5) (T := TX5) (N := 16) hx hb hts iX5 hown hK.1 hP 0 rfl rfl 0 (by decide) (hts (.fieldLink RX5 7 "LightWheelModel" "m" "[I") (by decide +kernel)) (fun _ h9 => h9) rfl dX5_addPicture_65 ?_
      refine lv_bipush (v := (12 : Int32)) hx hb dX5_addPicture_68 (by decide) ?_
      refine lv_iconst (v := (4 : Int32)) hx hb dX5_addPicture_70 (by decide) ?_
      refine lv_iload_n hx hb dX5_addPicture_71 rfl (lv_at hl 0 rfl) ?_
      refine lv_imul hx hb dX5_addPicture_72 ?_
      refine lv_iadd hx hb dX5_addPicture_73 ?_
      refine lv_iconst (v := (1 : Int32)) hx hb dX5_addPicture_74 (by decide) ?_
      refine lv_iadd hx hb dX5_addPicture_75 ?_
      refine lv_iconst (v := (0 : Int32)) hx hb dX5_addPicture_76 (by decide) ?_
      have o_77_11 := h.1
      replace h := h.2
      refine xs_iast hx hb hK.1 hP hD hS 1 0 rfl rfl o_77_11 dX5_addPicture_77 (fun b_m_13 e_b_m_13 H locs hP hD hS => ?_)
      replace h := h b_m_13 e_b_m_13
      have hP : va_P g.1 vwCl (wM g q b_m_13 b_written b_spare b_spareWritten b_states_4 b_fifth_5 b_oldest_6 b_stateCount_7 b_text b_textLength b_at b_read b_columns b_told b_wants b_comes) H := hP
      have hD : va_D A (wM g q b_m_13 b_written b_spare b_spareWritten b_states_4 b_fifth_5 b_oldest_6 b_stateCount_7 b_text b_textLength b_at b_read b_columns b_told b_wants b_comes) := hD
      refine lv_aload_n hx hb dX5_addPicture_78 rfl (lv_at hl 1 rfl) ?_
      refine va_get (D := g.1) (ci := 5) (v := .ref (q 1)) (C := RX5) (T := TX5) (N := 16) hx hb hts iX5 hown hK.1 hP 0 rfl rfl 0 (by decide) (hts (.fieldLink RX5 7 "LightWheelModel" "m" "[I") (by decide +kernel)) (fun _ h9 => h9) rfl dX5_addPicture_79 ?_
      refine lv_bipush (v := (12 : Int32)) hx hb dX5_addPicture_82 (by decide) ?_
      refine lv_iconst (v := (4 : Int32)) hx hb dX5_addPicture_84 (by decide) ?_
      refine lv_iload_n hx hb dX5_addPicture_85 rfl (lv_at hl 0 rfl) ?_
      refine lv_imul hx hb dX5_addPicture_86 ?_
      refine lv_iadd hx hb dX5_addPicture_87 ?_
      refine lv_iconst (v := (2 : Int32)) hx hb dX5_addPicture_88 (by decide) ?_
      refine lv_iadd hx hb dX5_addPicture_89 ?_
      refine lv_bipush (v := (6 : Int32)) hx hb dX5_addPicture_90 (by decide) ?_
      have o_92_13 := h.1
      replace h := h.2
      refine xs_iast hx hb hK.1 hP hD hS 1 0 rfl rfl o_92_13 dX5_addPicture_92 (fun b_m_15 e_b_m_15 H locs hP hD hS => ?_)
      replace h := h b_m_15 e_b_m_15
      have hP : va_P g.1 vwCl (wM g q b_m_15 b_written b_spare b_spareWritten b_states_4 b_fifth_5 b_oldest_6 b_stateCount_7 b_text b_textLength b_at b_read b_columns b_told b_wants b_comes) H := hP
      have hD : va_D A (wM g q b_m_15 b_written b_spare b_spareWritten b_states_4 b_fifth_5 b_oldest_6 b_stateCount_7 b_text b_textLength b_at b_read b_columns b_told b_wants b_comes) := hD
      refine lv_aload_n hx hb dX5_addPicture_93 rfl (lv_at hl 1 rfl) ?_
      refine va_get (D := g.1) (ci := 5) (v := .ref (q 1)) (C := RX5) (T := TX5) (N := 16) hx hb hts iX5 hown hK.1 hP 0 rfl rfl 0 (by decide) (hts (.fieldLink RX5 7 "LightWheelModel" "m" "[I") (by decide +kernel)) (fun _ h9 => h9) rfl dX5_addPicture_94 ?_
      refine lv_bipush (v := (12 : Int32)) hx hb dX5_addPicture_97 (by decide) ?_
      refine lv_iconst (v := (4 : Int32)) hx hb dX5_addPicture_99 (by decide) ?_
      refine lv_iload_n hx hb dX5_addPicture_100 rfl (lv_at hl 0 rfl) ?_
      refine lv_imul hx hb dX5_addPicture_101 ?_
      refine lv_iadd hx hb dX5_addPicture_102 ?_
      refine lv_iconst (v := (3 : Int32)) hx hb dX5_addPicture_103 (by decide) ?_
      refine lv_iadd hx hb dX5_addPicture_104 ?_
      refine lv_iconst (v := (0 : Int32)) hx hb dX5_addPicture_105 (by decide) ?_
      have o_106_15 := h.1
      replace h := h.2
      refine xs_iast hx hb hK.1 hP hD hS 1 0 rfl rfl o_106_15 dX5_addPicture_106 (fun b_m_17 e_b_m_17 H locs hP hD hS => ?_)
      replace h := h b_m_17 e_b_m_17
      have hP : va_P g.1 vwCl (wM g q b_m_17 b_written b_spare b_spareWritten b_states_4 b_fifth_5 b_oldest_6 b_stateCount_7 b_text b_textLength b_at b_read b_columns b_told b_wants b_comes) H := hP
      have hD : va_D A (wM g q b_m_17 b_written b_spare b_spareWritten b_states_4 b_fifth_5 b_oldest_6 b_stateCount_7 b_text b_textLength b_at b_read b_columns b_told b_wants b_comes) := hD
      refine lv_iconst (v := (0 : Int32)) hx hb dX5_addPicture_107 (by decide) ?_
      refine lv_istore_n (lv' := [(3, .int (0 : Int32)), (2, .int v2_8), (0, .ref (q 0)), (1, .int a_1)]) hx hb dX5_addPicture_108 rfl hl (by decide) rfl (fun ls hl => ?_)
      have loop_1 : ∀ (kx_1 : Int32 → (Nat → Int32) → Prop), (∀ (v3_18 : Int32) (b_m_19 : Nat → Int32) (H : Heap) (locs : List Loc) (ls : Array Slot), kx_1 v3_18 b_m_19 → va_P g.1 vwCl (wM g q b_m_19 b_written b_spare b_spareWritten b_states_4 b_fifth_5 b_oldest_6 b_stateCount_7 b_text b_textLength b_at b_read b_columns b_told b_wants b_comes) H → va_D A (wM g q b_m_19 b_written b_spare b_spareWritten b_states_4 b_fifth_5 b_oldest_6 b_stateCount_7 b_text b_textLength b_at b_read b_columns b_told b_wants b_comes) → va_S A s.heap H locs → lv_has ls 4 [(3, .int v3_18), (2, .int v2_8), (0, .ref (q 0)), (1, .int a_1)] → W p l e (headSpec wsX5_addPicture ({ frames := 2, cells := 0, slots := 0, locals := 45 })).room s m ([.ref (q 0), .int a_1] : List Value).toArray below meth c H locs 0 0 (MQ below (va_Qi (fun (r : Int32) (u : (Nat → Int32) × (Nat → Int32) × (Nat → Int32) × Int32 × Int32) => k r u.1 u.2.1 u.2.2.1 u.2.2.2.1 u.2.2.2.2) (fun u t => PostB g A (wM g q u.1 b_written b_spare b_spareWritten u.2.1 u.2.2.1 u.2.2.2.1 u.2.2.2.2 b_text b_textLength b_at b_read b_columns b_told b_wants b_comes) t) A) ([.ref (q 0), .int a_1] : List Value).toArray s 0 0 A) (F0 m 136 ls [])) → ∀ (n_1 : Nat) (v3_18 : Int32) (b_m_19 : Nat → Int32) (H : Heap) (locs : List Loc) (ls : Array Slot), PX5_addPicture_L1 v2_8 kx_1 n_1 v3_18 b_m_19 → va_P g.1 vwCl (wM g q b_m_19 b_written b_spare b_spareWritten b_states_4 b_fifth_5 b_oldest_6 b_stateCount_7 b_text b_textLength b_at b_read b_columns b_told b_wants b_comes) H → va_D A (wM g q b_m_19 b_written b_spare b_spareWritten b_states_4 b_fifth_5 b_oldest_6 b_stateCount_7 b_text b_textLength b_at b_read b_columns b_told b_wants b_comes) → va_S A s.heap H locs → lv_has ls 4 [(3, .int v3_18), (2, .int v2_8), (0, .ref (q 0)), (1, .int a_1)] → W p l e (headSpec wsX5_addPicture ({ frames := 2, cells := 0, slots := 0, locals := 45 })).room s m ([.ref (q 0), .int a_1] : List Value).toArray below meth c H locs 0 0 (MQ below (va_Qi (fun (r : Int32) (u : (Nat → Int32) × (Nat → Int32) × (Nat → Int32) × Int32 × Int32) => k r u.1 u.2.1 u.2.2.1 u.2.2.2.1 u.2.2.2.2) (fun u t => PostB g A (wM g q u.1 b_written b_spare b_spareWritten u.2.1 u.2.2.1 u.2.2.2.1 u.2.2.2.2 b_text b_textLength b_at b_read b_columns b_told b_wants b_comes) t) A) ([.ref (q 0), .int a_1] : List Value).toArray s 0 0 A) (F0 m 109 ls []) := by
        intro kx_1 hexit_1 n_1
        induction n_1 with
        | zero => exact fun _ _ _ _ _ h _ _ _ _ => (h : False).elim
        | succ n_1 ih_1 =>
          intro v3_18 b_m_19 H locs ls h hP hD hS hl
          unfold PX5_addPicture_L1 at h
          refine lv_iload_n hx hb dX5_addPicture_109 rfl (lv_at hl 0 rfl) ?_
          refine lv_bipush (v := (80 : Int32)) hx hb dX5_addPicture_110 (by decide) ?_
          refine lv_icmp_ge (tgt := 136) hx hb dX5_addPicture_112 (by decide) (fun c_112_19 => ?_) (fun c_112_19 => ?_)
          · replace h := h.1 c_112_19
            exact hexit_1 v3_18 b_m_19 H locs ls h hP hD hS (lv_sub hl [0, 1, 2, 3] rfl)
          · replace h := h.2 c_112_19
            refine lv_aload_n hx hb dX5_addPicture_115 rfl (lv_at hl 2 rfl) ?_
            refine va_get (D := g.1) (ci := 5) (v := .ref (q 1)) (C := RX5) (T := TX5) (N := 16) hx hb hts iX5 hown hK.1 hP 0 rfl rfl 0 (by decide) (hts (.fieldLink RX5 7 "LightWheelModel" "m" "[I") (by decide +kernel)) (fun _ h9 => h9) rfl dX5_addPicture_116 ?_
            refine lv_bipush (v := (28 : Int32)) hx hb dX5_addPicture_119 (by decide) ?_
            refine lv_bipush (v := (80 : Int32)) hx hb dX5_addPicture_121 (by decide) ?_
            refine lv_iload_n hx hb dX5_addPicture_123 rfl (lv_at hl 1 rfl) ?_
            refine lv_imul hx hb dX5_addPicture_124 ?_
            refine lv_iadd hx hb dX5_addPicture_125 ?_
            refine lv_iload_n hx hb dX5_addPicture_126 rfl (lv_at hl 0 rfl) ?_
            refine lv_iadd hx hb dX5_addPicture_127 ?_
            refine lv_iconst (v := (0 : Int32)) hx hb dX5_addPicture_128 (by decide) ?_
            have o_129_20 := h.1
            replace h := h.2
            refine xs_iast hx hb hK.1 hP hD hS 1 0 rfl rfl o_129_20 dX5_addPicture_129 (fun b_m_22 e_b_m_22 H locs hP hD hS => ?_)
            replace h := h b_m_22 e_b_m_22
            have hP : va_P g.1 vwCl (wM g q b_m_22 b_written b_spare b_spareWritten b_states_4 b_fifth_5 b_oldest_6 b_stateCount_7 b_text b_textLength b_at b_read b_columns b_told b_wants b_comes) H := hP
            have hD : va_D A (wM g q b_m_22 b_written b_spare b_spareWritten b_states_4 b_fifth_5 b_oldest_6 b_stateCount_7 b_text b_textLength b_at b_read b_columns b_told b_wants b_comes) := hD
            obtain ⟨v3_23, e_v3_23⟩ : ∃ y : Int32, y = v3_18 + (1 : Int32) := ⟨_, rfl⟩
            replace h := h v3_23 e_v3_23
            refine lv_iinc (v := v3_23) (lv' := [(3, .int v3_23), (2, .int v2_8), (0, .ref (q 0)), (1, .int a_1)]) hx hb dX5_addPicture_130 hl (k := 0) rfl (by rw [e_v3_23]; rfl) (by decide) rfl (fun ls hl => ?_)
            refine lv_goto (tgt := 109) hx hb dX5_addPicture_133 (by decide) ?_
            exact ih_1 v3_23 b_m_22 H locs ls h hP hD hS (lv_sub hl [0, 1, 2, 3] rfl)
      obtain ⟨n_1, h⟩ := h
      refine loop_1 _ ?_ n_1 (0 : Int32) b_m_17 _ _ ls h hP hD hS (lv_sub hl [0, 1, 2, 3] rfl)
      intro v3_18 b_m_19 H locs ls h hP hD hS hl
      refine lv_iload_n hx hb dX5_addPicture_136 rfl (lv_at hl 1 rfl) ?_
      exact W.iret hx hb hr (fun t ht hW => ⟨⟨v2_8, (b_m_19, b_states_4, b_fifth_5, b_oldest_6, b_stateCount_7), rfl, h, by rw [ht]; exact hP, hD⟩, hS.F ht⟩) hS.2.2 dX5_addPicture_137
    · replace h := h.2 c_21_2
      refine lv_bipush (v := (-103 : Int32)) hx hb dX5_addPicture_24 (by decide) ?_
      exact W.iret hx hb hr (fun t ht hW => ⟨⟨(-103 : Int32), (b_m, b_states, b_fifth, b_oldest, b_stateCount), rfl, h, by rw [ht]; exact hP, hD⟩, hS.F ht⟩) hS.2.2 dX5_addPicture_26
  · replace h := h.2 c_7_1
    refine lv_bipush (v := (-101 : Int32)) hx hb dX5_addPicture_10 (by decide) ?_
    exact W.iret hx hb hr (fun t ht hW => ⟨⟨(-101 : Int32), (b_m, b_states, b_fifth, b_oldest, b_stateCount), rfl, h, by rw [ht]; exact hP, hD⟩, hS.F ht⟩) hS.2.2 dX5_addPicture_12
