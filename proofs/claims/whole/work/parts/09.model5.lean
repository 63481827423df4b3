def PX5_ticksAround_L1 (b_wants_3 : Nat → Int32) (kx_1 : Int32 → Int32 → (Nat → Int32) → (Nat → Int32) → Prop) : Nat → Int32 → Int32 → (Nat → Int32) → (Nat → Int32) → Prop
  | 0, _, _, _, _ => False
  | n_1 + 1, v1_4, v2_5, b_m_6, b_written_7 => (((720 : Int32) ≤ v1_4 → kx_1 v1_4 v2_5 b_m_6 b_written_7) ∧ (¬ (720 : Int32) ≤ v1_4 → (((500 : Int32) ≤ v2_5 → kx_1 v1_4 v2_5 b_m_6 b_written_7) ∧ (¬ (500 : Int32) ≤ v2_5 → PX5_tick b_m_6 b_written_7 b_wants_3  (fun b_m_10 b_written_11 => PX5_size (b_m_10 5) (fun r37_12 => (∀ v1_13 : Int32, v1_13 = (v1_4 + r37_12) → (∀ v2_14 : Int32, v2_14 = v2_5 + (1 : Int32) → PX5_ticksAround_L1 b_wants_3 kx_1 n_1 v1_13 v2_14 b_m_10 b_written_11))))))))
def PX5_ticksAround (b_m : Nat → Int32) (b_written : Nat → Int32) (b_spare : Nat → Int32) (b_spareWritten : Nat → Int32) (b_wants : Nat → Int32)  (k : Int32 → (Nat → Int32) → (Nat → Int32) → (Nat → Int32) → (Nat → Int32) → (Nat → Int32) → Prop) : Prop := PX5_setAside b_m b_written b_spare b_spareWritten  (fun b_spare_1 b_spareWritten_2 => PX5_layWants b_m b_wants  (fun b_wants_3 => (∃ n_1, PX5_ticksAround_L1 b_wants_3 (fun v1_4 v2_5 b_m_6 b_written_7 => PX5_bringBack b_m_6 b_written_7 b_spare_1 b_spareWritten_2  (fun b_m_15 b_written_16 => (((720 : Int32) ≤ v1_4 → (k v2_5 b_m_15 b_written_16 b_spare_1 b_spareWritten_2 b_wants_3)) ∧ (¬ (720 : Int32) ≤ v1_4 → (k (-109 : Int32) b_m_15 b_written_16 b_spare_1 b_spareWritten_2 b_wants_3))))) n_1 (0 : Int32) (0 : Int32) b_m b_written)))
def PX5_mark_L2 (b_m_2 : Nat → Int32) (t_4 : Int32) (kx_2 : Int32 → (Nat → Int32) → Prop) : Nat → Int32 → (Nat → Int32) → Prop
  | 0, _, _ => False
  | n_2 + 1, v1_5, b_comes_6 => ((v1_5 = (b_m_2 4) → kx_2 v1_5 b_comes_6) ∧ (¬ v1_5 = (b_m_2 4) → PX5_around (v1_5 + t_4) (fun r39_8 => (vp_in r39_8 720 ∧ (∀ b_comes_10 : Nat → Int32, b_comes_10 = upd b_comes_6 (Int32.toNatClampNeg r39_8) (1 : Int32) → (vp_in ((r39_8 + (360 : Int32)) - (r39_8 + (360 : Int32)) / (720 : Int32) * (720 : Int32)) 720 ∧ (vp_in ((r39_8 + (360 : Int32)) - (r39_8 + (360 : Int32)) / (720 : Int32) * (720 : Int32)) 720 ∧ (∀ b_comes_13 : Nat → Int32, b_comes_13 = upd b_comes_10 (Int32.toNatClampNeg ((r39_8 + (360 : Int32)) - (r39_8 + (360 : Int32)) / (720 : Int32) * (720 : Int32))) ((b_comes_10 (Int32.toNatClampNeg ((r39_8 + (360 : Int32)) - (r39_8 + (360 : Int32)) / (720 : Int32) * (720 : Int32)))) ||| (b_m_2 8)) → PX5_mark_L2 b_m_2 t_4 kx_2 n_2 r39_8 b_comes_13))))))))
def PX5_mark_J1 (b_comes : Nat → Int32) (k : (Nat → Int32) → (Nat → Int32) → (Nat → Int32) → Prop) (v1_1 : Int32) (b_m_2 : Nat → Int32) (b_written_3 : Nat → Int32) (t_4 : Int32) : Prop := (∃ n_2, PX5_mark_L2 b_m_2 t_4 (fun v1_5 b_comes_6 => (k b_m_2 b_written_3 b_comes_6)) n_2 v1_1 b_comes)
def PX5_mark (b_m : Nat → Int32) (b_written : Nat → Int32) (b_wants : Nat → Int32) (b_comes : Nat → Int32)  (k : (Nat → Int32) → (Nat → Int32) → (Nat → Int32) → Prop) : Prop := (∀ v1_1 : Int32, v1_1 = (b_m 4) → PX5_tick b_m b_written b_wants  (fun b_m_2 b_written_3 => ((0 ≤ (b_m_2 5) → PX5_mark_J1 b_comes k v1_1 b_m_2 b_written_3 (1 : Int32)) ∧ (¬ 0 ≤ (b_m_2 5) → PX5_mark_J1 b_comes k v1_1 b_m_2 b_written_3 (-1 : Int32)))))
def PX5_gaps_L1  (kx_1 : Int32 → (Nat → Int32) → Prop) : Nat → Int32 → (Nat → Int32) → Prop
  | 0, _, _ => False
  | n_1 + 1, v2_6, b_comes_7 => (((720 : Int32) ≤ v2_6 → kx_1 v2_6 b_comes_7) ∧ (¬ (720 : Int32) ≤ v2_6 → (vp_in v2_6 720 ∧ (∀ b_comes_10 : Nat → Int32, b_comes_10 = upd b_comes_7 (Int32.toNatClampNeg v2_6) (0 : Int32) → (∀ v2_11 : Int32, v2_11 = v2_6 + (1 : Int32) → PX5_gaps_L1  kx_1 n_1 v2_11 b_comes_10)))))
def PX5_gaps_L2 (a_1 : Int32) (b_wants_5 : Nat → Int32) (kx_2 : Int32 → (Nat → Int32) → (Nat → Int32) → (Nat → Int32) → Prop) : Nat → Int32 → (Nat → Int32) → (Nat → Int32) → (Nat → Int32) → Prop
  | 0, _, _, _, _ => False
  | n_2 + 1, v2_12, b_m_13, b_written_14, b_comes_15 => ((a_1 ≤ v2_12 → kx_2 v2_12 b_m_13 b_written_14 b_comes_15) ∧ (¬ a_1 ≤ v2_12 → PX5_mark b_m_13 b_written_14 b_wants_5 b_comes_15  (fun b_m_17 b_written_18 b_comes_19 => (∀ v2_20 : Int32, v2_20 = v2_12 + (1 : Int32) → PX5_gaps_L2 a_1 b_wants_5 kx_2 n_2 v2_20 b_m_17 b_written_18 b_comes_19))))
def PX5_gaps_L3 (b_comes_15 : Nat → Int32) (b_m_21 : Nat → Int32) (kx_3 : Int32 → Int32 → Prop) : Nat → Int32 → Int32 → Prop
  | 0, _, _ => False
  | n_3 + 1, v2_23, v3_24 => (((720 : Int32) ≤ v3_24 → kx_3 v2_23 v3_24) ∧ (¬ (720 : Int32) ≤ v3_24 → (vp_in v3_24 720 ∧ ((¬ (b_comes_15 (Int32.toNatClampNeg v3_24)) = 0 → (∀ v2_28 : Int32, v2_28 = (v2_23 + (0 : Int32)) → (∀ v3_29 : Int32, v3_29 = v3_24 + (1 : Int32) → PX5_gaps_L3 b_comes_15 b_m_21 kx_3 n_3 v2_28 v3_29))) ∧ ((b_comes_15 (Int32.toNatClampNeg v3_24)) = 0 → PX5_isCovered b_m_21 v3_24 (fun r88_30 => ((r88_30 = 0 → (∀ v2_32 : Int32, v2_32 = (v2_23 + (0 : Int32)) → (∀ v3_33 : Int32, v3_33 = v3_24 + (1 : Int32) → PX5_gaps_L3 b_comes_15 b_m_21 kx_3 n_3 v2_32 v3_33))) ∧ (¬ r88_30 = 0 → (∀ v2_34 : Int32, v2_34 = (v2_23 + (1 : Int32)) → (∀ v3_35 : Int32, v3_35 = v3_24 + (1 : Int32) → PX5_gaps_L3 b_comes_15 b_m_21 kx_3 n_3 v2_34 v3_35))))))))))
def PX5_gaps (b_m : Nat → Int32) (b_written : Nat → Int32) (b_spare : Nat → Int32) (b_spareWritten : Nat → Int32) (b_wants : Nat → Int32) (b_comes : Nat → Int32) (a_1 : Int32) (k : Int32 → (Nat → Int32) → (Nat → Int32) → (Nat → Int32) → (Nat → Int32) → (Nat → Int32) → (Nat → Int32) → Prop) : Prop := PX5_in a_1 (0 : Int32) (200 : Int32) (fun r5_1 => ((¬ r5_1 = 0 → PX5_setAside b_m b_written b_spare b_spareWritten  (fun b_spare_3 b_spareWritten_4 => PX5_layWants b_m b_wants  (fun b_wants_5 => (∃ n_1, PX5_gaps_L1  (fun v2_6 b_comes_7 => (∃ n_2, PX5_gaps_L2 a_1 b_wants_5 (fun v2_12 b_m_13 b_written_14 b_comes_15 => PX5_bringBack b_m_13 b_written_14 b_spare_3 b_spareWritten_4  (fun b_m_21 b_written_22 => (∃ n_3, PX5_gaps_L3 b_comes_15 b_m_21 (fun v2_23 v3_24 => (k v2_23 b_m_21 b_written_22 b_spare_3 b_spareWritten_4 b_wants_5 b_comes_15)) n_3 (0 : Int32) (0 : Int32)))) n_2 (0 : Int32) b_m b_written b_comes_7)) n_1 (0 : Int32) b_comes)))) ∧ (r5_1 = 0 → (k (-101 : Int32) b_m b_written b_spare b_spareWritten b_wants b_comes))))
def PX5_bestSpeed_L1 (a_1 : Int32) (b_spare_3 : Nat → Int32) (b_spareWritten_4 : Nat → Int32) (b_wants_5 : Nat → Int32) (kx_1 : Int32 → Int32 → Int32 → (Nat → Int32) → (Nat → Int32) → Prop) : Nat → Int32 → Int32 → Int32 → (Nat → Int32) → (Nat → Int32) → Prop
  | 0, _, _, _, _, _ => False
  | n_1 + 1, v2_6, v3_7, v4_8, b_m_9, b_written_10 => (((60 : Int32) < v4_8 → kx_1 v2_6 v3_7 v4_8 b_m_9 b_written_10) ∧ (¬ (60 : Int32) < v4_8 → (∀ b_m_12 : Nat → Int32, b_m_12 = upd b_m_9 0 v4_8 → PX5_goOn b_m_12 b_written_10 b_wants_5 a_1 (fun b_m_13 b_written_14 => PX5_litPlaces b_m_13 b_written_14 b_wants_5 (1 : Int32) (fun r51_15 => ((r51_15 ≤ v3_7 → ((r51_15 ≤ v3_7 → PX5_bringBack b_m_13 b_written_14 b_spare_3 b_spareWritten_4  (fun b_m_18 b_written_19 => (∀ v4_20 : Int32, v4_20 = v4_8 + (10 : Int32) → PX5_bestSpeed_L1 a_1 b_spare_3 b_spareWritten_4 b_wants_5 kx_1 n_1 v2_6 v3_7 v4_20 b_m_18 b_written_19))) ∧ (¬ r51_15 ≤ v3_7 → PX5_bringBack b_m_13 b_written_14 b_spare_3 b_spareWritten_4  (fun b_m_21 b_written_22 => (∀ v4_23 : Int32, v4_23 = v4_8 + (10 : Int32) → PX5_bestSpeed_L1 a_1 b_spare_3 b_spareWritten_4 b_wants_5 kx_1 n_1 v2_6 r51_15 v4_23 b_m_21 b_written_22))))) ∧ (¬ r51_15 ≤ v3_7 → ((r51_15 ≤ v3_7 → PX5_bringBack b_m_13 b_written_14 b_spare_3 b_spareWritten_4  (fun b_m_25 b_written_26 => (∀ v4_27 : Int32, v4_27 = v4_8 + (10 : Int32) → PX5_bestSpeed_L1 a_1 b_spare_3 b_spareWritten_4 b_wants_5 kx_1 n_1 v4_8 v3_7 v4_27 b_m_25 b_written_26))) ∧ (¬ r51_15 ≤ v3_7 → PX5_bringBack b_m_13 b_written_14 b_spare_3 b_spareWritten_4  (fun b_m_28 b_written_29 => (∀ v4_30 : Int32, v4_30 = v4_8 + (10 : Int32) → PX5_bestSpeed_L1 a_1 b_spare_3 b_spareWritten_4 b_wants_5 kx_1 n_1 v4_8 r51_15 v4_30 b_m_28 b_written_29)))))))))))
def PX5_bestSpeed (b_m : Nat → Int32) (b_written : Nat → Int32) (b_spare : Nat → Int32) (b_spareWritten : Nat → Int32) (b_wants : Nat → Int32) (a_1 : Int32) (k : Int32 → (Nat → Int32) → (Nat → Int32) → (Nat → Int32) → (Nat → Int32) → (Nat → Int32) → Prop) : Prop := PX5_in a_1 (1 : Int32) (40 : Int32) (fun r4_1 => ((¬ r4_1 = 0 → PX5_setAside b_m b_written b_spare b_spareWritten  (fun b_spare_3 b_spareWritten_4 => PX5_layWants b_m b_wants  (fun b_wants_5 => (∃ n_1, PX5_bestSpeed_L1 a_1 b_spare_3 b_spareWritten_4 b_wants_5 (fun v2_6 v3_7 v4_8 b_m_9 b_written_10 => (k v2_6 b_m_9 b_written_10 b_spare_3 b_spareWritten_4 b_wants_5)) n_1 (0 : Int32) (-1 : Int32) (-60 : Int32) b_m b_written)))) ∧ (r4_1 = 0 → (k (-101 : Int32) b_m b_written b_spare b_spareWritten b_wants))))
theorem hdX5_ticksAround : yX5_ticksAround.cls = RX5 ∧ yX5_ticksAround.cls ≠ "java/lang/invoke/MethodHandle" ∧ yX5_ticksAround.cls ≠ "java/lang/invoke/VarHandle" ∧ (parseMethodDescriptor yX5_ticksAround.desc).map (fun d => d.parameters.length) = some 0 := by decide +kernel
set_option maxHeartbeats 4000000 in
set_option maxRecDepth 100000 in
theorem kX5_ticksAround (l : Launch) (g : GG) (q : Nat → Nat) (sz : Nat) (b_m : Nat → Int32) (b_written : Nat → Int32) (b_spare : Nat → Int32) (b_spareWritten : Nat → Int32) (b_states : Nat → Int32) (b_fifth : Nat → Int32) (b_oldest : Int32) (b_stateCount : Int32) (b_text : Nat → Int32) (b_textLength : Int32) (b_at : Int32) (b_read : Nat → Int32) (b_columns : Int32) (b_told : Int32) (b_wants : Nat → Int32) (b_comes : Nat → Int32)  (k : Int32 → (Nat → Int32) → (Nat → Int32) → (Nat → Int32) → (Nat → Int32) → (Nat → Int32) → Prop) (h : PX5_ticksAround b_m b_written b_spare b_spareWritten b_wants  k) : Met l yX5_ticksAround wsX5_ticksAround ({ frames := 5, cells := 0, slots := 0, locals := 113 }) (PreM g [.ref (q 0)] (wM g q b_m b_written b_spare b_spareWritten b_states b_fifth b_oldest b_stateCount b_text b_textLength b_at b_read b_columns b_told b_wants b_comes) sz) (va_Qi (fun (r : Int32) (u : (Nat → Int32) × (Nat → Int32) × (Nat → Int32) × (Nat → Int32) × (Nat → Int32)) => k r u.1 u.2.1 u.2.2.1 u.2.2.2.1 u.2.2.2.2) (fun u t => PostB g (va_A (wM g q b_m b_written b_spare b_spareWritten b_states b_fifth b_oldest b_stateCount b_text b_textLength b_at b_read b_columns b_told b_wants b_comes) sz) (wM g q u.1 u.2.1 u.2.2.1 u.2.2.2.1 b_states b_fifth b_oldest b_stateCount b_text b_textLength b_at b_read b_columns b_told u.2.2.2.2 b_comes) t) (va_A (wM g q b_m b_written b_spare b_spareWritten b_states b_fifth b_oldest b_stateCount b_text b_textLength b_at b_read b_columns b_told b_wants b_comes) sz)) 0 0 (va_A (wM g q b_m b_written b_spare b_spareWritten b_states b_fifth b_oldest b_stateCount b_text b_textLength b_at b_read b_columns b_told b_wants b_comes) sz) := by
  refine Met.ofW (cc := cX5_ticksAround) (maxL := 3) (ret := (some .int)) (by decide) rfl ?_
  intro p e s m args below meth c s₁ B hml hv
  obtain ⟨rfl, hsz, hP, hK, hD0⟩ := hv
  have hx := B.exec
  have hb := B.bytes
  have hr := B.returns
  have hts := atoms_spec (ws := wsX5_ticksAround) B.pre
  have hown : s.vm.findClass RX5 = some m.cls := findClass_of_methodNamed B.named
  have hlocks := B.notSynchronized
  have iX5 : ∀ w ∈ wsX50, w ∈ wsX5_ticksAround := by decide +kernel
  subst hsz
  have hD := hD0.self (sz := s.heap.size)
  generalize hAe : va_A (wM g q b_m b_written b_spare b_spareWritten b_states b_fifth b_oldest b_stateCount b_text b_textLength b_at b_read b_columns b_told b_wants b_comes) s.heap.size = A at hD ⊢
  have hA : ∀ q : Nat, s.heap.size ≤ q → A q := fun q h => by rw [← hAe]; exact Or.inr h
  clear hAe hD0
  have hS : va_S A s.heap s.heap [] := va_S.rf
  have hl := lv_entry ([.ref (q 0)]) (n := 3) (Nat.le_of_ble_eq_true rfl)
  rw [lg_entry_eq]
  generalize (lg_sl ([.ref (q 0)]) ++ List.replicate (3 - (lg_sl ([.ref (q 0)])).length) Slot.unset).toArray = ls at hl ⊢
  have hl : lv_has ls 3 [(0, .ref (q 0))] := hl
  unfold PX5_ticksAround at h
  obtain ⟨H, hHe⟩ : ∃ y, y = s.heap := ⟨_, rfl⟩
  rw [← hHe] at hP
  have hS : va_S A s.heap H [] := by rw [hHe]; exact hS
  have hW0 : ∀ (Q : State → Prop), W p l e (headSpec wsX5_ticksAround ({ frames := 5, cells := 0, slots := 0, locals := 113 })).room s m ([.ref (q 0)] : List Value).toArray below meth c H [] 0 0 Q (F0 m 0 ls []) → W p l e (headSpec wsX5_ticksAround ({ frames := 5, cells := 0, slots := 0, locals := 113 })).room s m ([.ref (q 0)] : List Value).toArray below meth c s.heap [] 0 0 Q (F0 m 0 ls []) := by rw [hHe]; exact fun _ h9 => h9
  refine hW0 _ ?_
  clear hW0 hHe
  generalize ([] : List Loc) = locs at hS ⊢
  refine lv_aload_n hx hb dX5_ticksAround_0 rfl (lv_at hl 0 rfl) ?_
  have hFc := va_freeA hD hS hA
  refine va_callv (va_runV (As := []) (rest := []) ⟨hx, hb, hml, hown, hts⟩ (kX5_setAside l g q H.size b_m b_written b_spare b_spareWritten b_states b_fifth b_oldest b_stateCount b_text b_textLength b_at b_read b_columns b_told b_wants b_comes _ h) (cwV 0 hts gX5_ticksAround_X5_setAside rfl rfl rfl hdX5_setAside ⟨(Nat.le_of_ble_eq_true rfl), (Nat.le_of_ble_eq_true rfl)⟩) (preV_M (r := (RX5, TX5, 16)) hK hP hD (ci := 5) (q0 := 0) rfl rfl) rfl rfl hl.1 rfl (lv_room (Nat.le_of_ble_eq_true rfl)) dX5_ticksAround_1 ⟨(Nat.le_of_ble_eq_true rfl), (Nat.le_of_ble_eq_true rfl)⟩) hS (fun q _ h9 => hFc q h9) hFc (fun u t H1 locs ht hvm hw hB hz1 hk1 hS => ?_)
  obtain ⟨b_spare_1, b_spareWritten_2⟩ := u
  replace h := hw
  try dsimp only at h
  obtain ⟨hP, hD⟩ := jn0 (wf := (wM g q b_m b_written b_spare_1 b_spareWritten_2 b_states b_fifth b_oldest b_stateCount b_text b_textLength b_at b_read b_columns b_told b_wants b_comes)) hB ht hFc
  have hP : va_P g.1 vwCl (wM g q b_m b_written b_spare_1 b_spareWritten_2 b_states b_fifth b_oldest b_stateCount b_text b_textLength b_at b_read b_columns b_told b_wants b_comes) H1 := hP
  have hD : va_D A (wM g q b_m b_written b_spare_1 b_spareWritten_2 b_states b_fifth b_oldest b_stateCount b_text b_textLength b_at b_read b_columns b_told b_wants b_comes) := hD
  clear hk1 hz1 hB ht hw hFc
  generalize H1 = H at hP hS ⊢
  refine lv_aload_n hx hb dX5_ticksAround_4 rfl (lv_at hl 0 rfl) ?_
  have hFc := va_freeA hD hS hA
  refine va_callv (va_runV (As := []) (rest := []) ⟨hx, hb, hml, hown, hts⟩ (kX5_layWants l g q H.size b_m b_written b_spare_1 b_spareWritten_2 b_states b_fifth b_oldest b_stateCount b_text b_textLength b_at b_read b_columns b_told b_wants b_comes _ h) (cwV 0 hts gX5_ticksAround_X5_layWants rfl rfl rfl hdX5_layWants ⟨(Nat.le_of_ble_eq_true rfl), (Nat.le_of_ble_eq_true rfl)⟩) (preV_M (r := (RX5, TX5, 16)) hK hP hD (ci := 5) (q0 := 0) rfl rfl) rfl rfl hl.1 rfl (lv_room (Nat.le_of_ble_eq_true rfl)) dX5_ticksAround_5 ⟨(Nat.le_of_ble_eq_true rfl), (Nat.le_of_ble_eq_true rfl)⟩) hS (fun q _ h9 => hFc q h9) hFc (fun u t H1 locs ht hvm hw hB hz1 hk1 hS => ?_)
  obtain ⟨b_wants_3, ez9⟩ : ∃ y, y = u := ⟨_, rfl⟩
  subst ez9
  replace h := hw
  try dsimp only at h
  obtain ⟨hP, hD⟩ := jn0 (wf := (wM g q b_m b_written b_spare_1 b_spareWritten_2 b_states b_fifth b_oldest b_stateCount b_text b_textLength b_at b_read b_columns b_told b_wants_3 b_comes)) hB ht hFc
  have hP : va_P g.1 vwCl (wM g q b_m b_written b_spare_1 b_spareWritten_2 b_states b_fifth b_oldest b_stateCount b_text b_textLength b_at b_read b_columns b_told b_wants_3 b_comes) H1 := hP
  have hD : va_D A (wM g q b_m b_written b_spare_1 b_spareWritten_2 b_states b_fifth b_oldest b_stateCount b_text b_textLength b_at b_read b_columns b_told b_wants_3 b_comes) := hD
  clear hk1 hz1 hB ht hw hFc
  generalize H1 = H at hP hS ⊢
  refine lv_iconst (v := (0 : Int32)) hx hb dX5_ticksAround_8 (by decide) ?_
  refine lv_istore_n (lv' := [(1, .int (0 : Int32)), (0, .ref (q 0))]) hx hb dX5_ticksAround_9 rfl hl (by decide) rfl (fun ls hl => ?_)
  refine lv_iconst (v := (0 : Int32)) hx hb dX5_ticksAround_10 (by decide) ?_
  refine lv_istore_n (lv' := [(2, .int (0 : Int32)), (1, .int (0 : Int32)), (0, .ref (q 0))]) hx hb dX5_ticksAround_11 rfl hl (by decide) rfl (fun ls hl => ?_)
  have loop_1 : ∀ (kx_1 : Int32 → Int32 → (Nat → Int32) → (Nat → Int32) → Prop), (∀ (v1_4 : Int32) (v2_5 : Int32) (b_m_6 : Nat → Int32) (b_written_7 : Nat → Int32) (H : Heap) (locs : List Loc) (ls : Array Slot), kx_1 v1_4 v2_5 b_m_6 b_written_7 → va_P g.1 vwCl (wM g q b_m_6 b_written_7 b_spare_1 b_spareWritten_2 b_states b_fifth b_oldest b_stateCount b_text b_textLength b_at b_read b_columns b_told b_wants_3 b_comes) H → va_D A (wM g q b_m_6 b_written_7 b_spare_1 b_spareWritten_2 b_states b_fifth b_oldest b_stateCount b_text b_textLength b_at b_read b_columns b_told b_wants_3 b_comes) → va_S A s.heap H locs → lv_has ls 3 [(2, .int v2_5), (1, .int v1_4), (0, .ref (q 0))] → W p l e (headSpec wsX5_ticksAround ({ frames := 5, cells := 0, slots := 0, locals := 113 })).room s m ([.ref (q 0)] : List Value).toArray below meth c H locs 0 0 (MQ below (va_Qi (fun (r : Int32) (u : (Nat → Int32) × (Nat → Int32) × (Nat → Int32) × (Nat → Int32) × (Nat → Int32)) => k r u.1 u.2.1 u.2.2.1 u.2.2.2.1 u.2.2.2.2) (fun u t => PostB g A (wM g q u.1 u.2.1 u.2.2.1 u.2.2.2.1 b_states b_fifth b_oldest b_stateCount b_text b_textLength b_at b_read b_columns b_told u.2.2.2.2 b_comes) t) A) ([.ref (q 0)] : List Value).toArray s 0 0 A) (F0 m 48 ls [])) → ∀ (n_1 : Nat) (v1_4 : Int32) (v2_5 : Int32) (b_m_6 : Nat → Int32) (b_written_7 : Nat → Int32) (H : Heap) (locs : List Loc) (ls : Array Slot), PX5_ticksAround_L1 b_wants_3 kx_1 n_1 v1_4 v2_5 b_m_6 b_written_7 → va_P g.1 vwCl (wM g q b_m_6 b_written_7 b_spare_1 b_spareWritten_2 b_states b_fifth b_oldest b_stateCount b_text b_textLength b_at b_read b_columns b_told b_wants_3 b_comes) H → va_D A (wM g q b_m_6 b_written_7 b_spare_1 b_spareWritten_2 b_states b_fifth b_oldest b_stateCount b_text b_textLength b_at b_read b_columns b_told b_wants_3 b_comes) → va_S A s.heap H locs → lv_has ls 3 [(2, .int v2_5), (1, .int v1_4), (0, .ref (q 0))] → W p l e (headSpec wsX5_ticksAround ({ frames := 5, cells := 0, slots := 0, locals := 113 })).room s m ([.ref (q 0)] : List Value).toArray below meth c H locs 0 0 (MQ below (va_Qi (fun (r : Int32) (u : (Nat → Int32) × (Nat → Int32) × (Nat → Int32) × (Nat → Int32) × (Nat → Int32)) => k r u.1 u.2.1 u.2.2.1 u.2.2.2.1 u.2.2.2.2) (fun u t => PostB g A (wM g q u.1 u.2.1 u.2.2.1 u.2.2.2.1 b_states b_fifth b_oldest b_stateCount b_text b_textLength b_at b_read b_columns b_told u.2.2.2.2 b_comes) t) A) ([.ref (q 0)] : List Value).toArray s 0 0 A) (F0 m 12 ls []) := by
    intro kx_1 hexit_1 n_1
    induction n_1 with
    | zero => exact fun _ _ _ _ _ _ _ h _ _ _ _ => (h : False).elim
    | succ n_1 ih_1 =>
      intro v1_4 v2_5 b_m_6 b_written_7 H locs ls h hP hD hS hl
      unfold PX5_ticksAround_L1 at h
      refine lv_iload_n hx hb dX5_ticksAround_12 rfl (lv_at hl 1 rfl) ?_
      refine lv_sipush (v := (720 : Int32)) hx hb dX5_ticksAround_13 (by decide) ?_
      refine lv_icmp_ge (tgt := 48) hx hb dX5_ticksAround_16 (by decide) (fun c_16_7 => ?_) (fun c_16_7 => ?_)
      · replace h := h.1 c_16_7
        exact hexit_1 v1_4 v2_5 b_m_6 b_written_7 H locs ls h hP hD hS (lv_sub hl [0, 1, 2] rfl)
      · replace h := h.2 c_16_7
        refine lv_iload_n hx hb dX5_ticksAround_19 rfl (lv_at hl 0 rfl) ?_
        refine lv_sipush (v := (500 : Int32)) hx hb dX5_ticksAround_20 (by decide) ?_
        refine lv_icmp_ge (tgt := 48) hx hb dX5_ticksAround_23 (by decide) (fun c_23_8 => ?_) (fun c_23_8 => ?_)
        · replace h := h.1 c_23_8
          exact hexit_1 v1_4 v2_5 b_m_6 b_written_7 H locs ls h hP hD hS (lv_sub hl [0, 1, 2] rfl)
        · replace h := h.2 c_23_8
          refine lv_aload_n hx hb dX5_ticksAround_26 rfl (lv_at hl 2 rfl) ?_
          have hFc := va_freeA hD hS hA
          refine va_callv (va_runV (As := []) (rest := []) ⟨hx, hb, hml, hown, hts⟩ (kX5_tick l g q H.size b_m_6 b_written_7 b_spare_1 b_spareWritten_2 b_states b_fifth b_oldest b_stateCount b_text b_textLength b_at b_read b_columns b_told b_wants_3 b_comes _ h) (cwV 0 hts gX5_ticksAround_X5_tick rfl rfl rfl hdX5_tick ⟨(Nat.le_of_ble_eq_true rfl), (Nat.le_of_ble_eq_true rfl)⟩) (preV_M (r := (RX5, TX5, 16)) hK hP hD (ci := 5) (q0 := 0) rfl rfl) rfl rfl hl.1 rfl (lv_room (Nat.le_of_ble_eq_true rfl)) dX5_ticksAround_27 ⟨(Nat.le_of_ble_eq_true rfl), (Nat.le_of_ble_eq_true rfl)⟩) hS (fun q _ h9 => hFc q h9) hFc (fun u t H1 locs ht hvm hw hB hz1 hk1 hS => ?_)
          obtain ⟨b_m_10, b_written_11⟩ := u
          replace h := hw
          try dsimp only at h
          obtain ⟨hP, hD⟩ := jn0 (wf := (wM g q b_m_10 b_written_11 b_spare_1 b_spareWritten_2 b_states b_fifth b_oldest b_stateCount b_text b_textLength b_at b_read b_columns b_told b_wants_3 b_comes)) hB ht hFc
          have hP : va_P g.1 vwCl (wM g q b_m_10 b_written_11 b_spare_1 b_spareWritten_2 b_states b_fifth b_oldest b_stateCount b_text b_textLength b_at b_read b_columns b_told b_wants_3 b_comes) H1 := hP
          have hD : va_D A (wM g q b_m_10 b_written_11 b_spare_1 b_spareWritten_2 b_states b_fifth b_oldest b_stateCount b_text b_textLength b_at b_read b_columns b_told b_wants_3 b_comes) := hD
          clear hk1 hz1 hB ht hw hFc
          generalize H1 = H at hP hS ⊢
          refine lv_iload_n hx hb dX5_ticksAround_30 rfl (lv_at hl 1 rfl) ?_
          refine lv_aload_n hx hb dX5_ticksAround_31 rfl (lv_at hl 2 rfl) ?_
          refine va_get (D := g.1) (ci := 5) (v := .ref (q 1)) (C := RX5) (T := TX5) (N := 16) hx hb hts iX5 hown hK.1 hP 0 rfl rfl 0 (by decide) (hts (.fieldLink RX5 7 "LightWheelModel" "m" "[I") (by decide +kernel)) (fun _ h9 => h9) rfl dX5_ticksAround_32 ?_
          refine lv_iconst (v := (5 : Int32)) hx hb dX5_ticksAround_35 (by decide) ?_
          refine xr_iald hx hb hK.1 hP 1 0 rfl rfl 5 rfl (Nat.le_of_ble_eq_true rfl) (Nat.le_of_ble_eq_true rfl) dX5_ticksAround_36 ?_
          refine vp_callSi (W.runS (As := [.int (b_m_10 5)]) (rest := [.int v1_4]) ⟨hx, hb, hml, hown, hts⟩ (kX5_size l g  (b_m_10 5) _ h) (va_cwS 1 hts gX5_ticksAround_X5_size rfl rfl rfl hdX5_size.2 ⟨(Nat.le_of_ble_eq_true rfl), (Nat.le_of_ble_eq_true rfl)⟩) (preS_R hK (va_P_nil (D := g.1) (cl := vwCl))) rfl rfl hl.1 rfl (lv_room (Nat.le_of_ble_eq_true rfl)) dX5_ticksAround_37 ⟨(Nat.le_of_ble_eq_true rfl), (Nat.le_of_ble_eq_true rfl)⟩) (fun r37_12 h => ?_)
          refine lv_iadd hx hb dX5_ticksAround_40 ?_
          refine lv_topi (fun v1_13 e_v1_13 => ?_)
          replace h := h v1_13 e_v1_13
          refine lv_istore_n (lv' := [(1, .int v1_13), (2, .int v2_5), (0, .ref (q 0))]) hx hb dX5_ticksAround_41 rfl hl (by decide) rfl (fun ls hl => ?_)
          obtain ⟨v2_14, e_v2_14⟩ : ∃ y : Int32, y = v2_5 + (1 : Int32) := ⟨_, rfl⟩
          replace h := h v2_14 e_v2_14
          refine lv_iinc (v := v2_14) (lv' := [(2, .int v2_14), (1, .int v1_13), (0, .ref (q 0))]) hx hb dX5_ticksAround_42 hl (k := 1) rfl (by rw [e_v2_14]; rfl) (by decide) rfl (fun ls hl => ?_)
          refine lv_goto (tgt := 12) hx hb dX5_ticksAround_45 (by decide) ?_
          exact ih_1 v1_13 v2_14 b_m_10 b_written_11 H locs ls h hP hD hS (lv_sub hl [0, 1, 2] rfl)
  obtain ⟨n_1, h⟩ := h
  refine loop_1 _ ?_ n_1 (0 : Int32) (0 : Int32) b_m b_written _ _ ls h hP hD hS (lv_sub hl [0, 1, 2] rfl)
  intro v1_4 v2_5 b_m_6 b_written_7 H locs ls h hP hD hS hl
  refine lv_aload_n hx hb dX5_ticksAround_48 rfl (lv_at hl 2 rfl) ?_
  have hFc := va_freeA hD hS hA
  refine va_callv (va_runV (As := []) (rest := []) ⟨hx, hb, hml, hown, hts⟩ (kX5_bringBack l g q H.size b_m_6 b_written_7 b_spare_1 b_spareWritten_2 b_states b_fifth b_oldest b_stateCount b_text b_textLength b_at b_read b_columns b_told b_wants_3 b_comes _ h) (cwV 0 hts gX5_ticksAround_X5_bringBack rfl rfl rfl hdX5_bringBack ⟨(Nat.le_of_ble_eq_true rfl), (Nat.le_of_ble_eq_true rfl)⟩) (preV_M (r := (RX5, TX5, 16)) hK hP hD (ci := 5) (q0 := 0) rfl rfl) rfl rfl hl.1 rfl (lv_room (Nat.le_of_ble_eq_true rfl)) dX5_ticksAround_49 ⟨(Nat.le_of_ble_eq_true rfl), (Nat.le_of_ble_eq_true rfl)⟩) hS (fun q _ h9 => hFc q h9) hFc (fun u t H1 locs ht hvm hw hB hz1 hk1 hS => ?_)
  obtain ⟨b_m_15, b_written_16⟩ := u
  replace h := hw
  try dsimp only at h
  obtain ⟨hP, hD⟩ := jn0 (wf := (wM g q b_m_15 b_written_16 b_spare_1 b_spareWritten_2 b_states b_fifth b_oldest b_stateCount b_text b_textLength b_at b_read b_columns b_told b_wants_3 b_comes)) hB ht hFc
  have hP : va_P g.1 vwCl (wM g q b_m_15 b_written_16 b_spare_1 b_spareWritten_2 b_states b_fifth b_oldest b_stateCount b_text b_textLength b_at b_read b_columns b_told b_wants_3 b_comes) H1 := hP
  have hD : va_D A (wM g q b_m_15 b_written_16 b_spare_1 b_spareWritten_2 b_states b_fifth b_oldest b_stateCount b_text b_textLength b_at b_read b_columns b_told b_wants_3 b_comes) := hD
  clear hk1 hz1 hB ht hw hFc
  generalize H1 = H at hP hS ⊢
  refine lv_iload_n hx hb dX5_ticksAround_52 rfl (lv_at hl 1 rfl) ?_
  refine lv_sipush (v := (720 : Int32)) hx hb dX5_ticksAround_53 (by decide) ?_
  refine lv_icmp_ge (tgt := 64) hx hb dX5_ticksAround_56 (by decide) (fun c_56_16 => ?_) (fun c_56_16 => ?_)
  · replace h := h.1 c_56_16
    refine lv_iload_n hx hb dX5_ticksAround_64 rfl (lv_at hl 0 rfl) ?_
    exact W.iret hx hb hr (fun t ht hW => ⟨⟨v2_5, (b_m_15, b_written_16, b_spare_1, b_spareWritten_2, b_wants_3), rfl, h, by rw [ht]; exact hP, hD⟩, hS.F ht⟩) hS.2.2 dX5_ticksAround_65
  · replace h := h.2 c_56_16
    refine lv_bipush (v := (-109 : Int32)) hx hb dX5_ticksAround_59 (by decide) ?_
    refine lv_goto (tgt := 65) hx hb dX5_ticksAround_61 (by decide) ?_
    exact W.iret hx hb hr (fun t ht hW => ⟨⟨(-109 : Int32), (b_m_15, b_written_16, b_spare_1, b_spareWritten_2, b_wants_3), rfl, h, by rw [ht]; exact hP, hD⟩, hS.F ht⟩) hS.2.2 dX5_ticksAround_65
theorem hdX5_mark : yX5_mark.cls = RX5 ∧ yX5_mark.cls ≠ "java/lang/invoke/MethodHandle" ∧ yX5_mark.cls ≠ "java/lang/invoke/VarHandle" ∧ (parseMethodDescriptor yX5_mark.desc).map (fun d => d.parameters.length) = some 0 := by decide +kernel
set_option maxHeartbeats 4000000 in
set_option maxRecDepth 100000 in
theorem kX5_mark (l : Launch) (g : GG) (q : Nat → Nat) (sz : Nat) (b_m : Nat → Int32) (b_written : Nat → Int32) (b_spare : Nat → Int32) (b_spareWritten : Nat → Int32) (b_states : Nat → Int32) (b_fifth : Nat → Int32) (b_oldest : Int32) (b_stateCount : Int32) (b_text : Nat → Int32) (b_textLength : Int32) (b_at : Int32) (b_read : Nat → Int32) (b_columns : Int32) (b_told : Int32) (b_wants : Nat → Int32) (b_comes : Nat → Int32)  (k : (Nat → Int32) → (Nat → Int32) → (Nat → Int32) → Prop) (h : PX5_mark b_m b_written b_wants b_comes  k) : Met l yX5_mark wsX5_mark ({ frames := 3, cells := 0, slots := 0, locals := 69 }) (PreM g [.ref (q 0)] (wM g q b_m b_written b_spare b_spareWritten b_states b_fifth b_oldest b_stateCount b_text b_textLength b_at b_read b_columns b_told b_wants b_comes) sz) (va_Qv (fun u : (Nat → Int32) × (Nat → Int32) × (Nat → Int32) => k u.1 u.2.1 u.2.2) (fun u t => PostB g (va_A (wM g q b_m b_written b_spare b_spareWritten b_states b_fifth b_oldest b_stateCount b_text b_textLength b_at b_read b_columns b_told b_wants b_comes) sz) (wM g q u.1 u.2.1 b_spare b_spareWritten b_states b_fifth b_oldest b_stateCount b_text b_textLength b_at b_read b_columns b_told b_wants u.2.2) t) (va_A (wM g q b_m b_written b_spare b_spareWritten b_states b_fifth b_oldest b_stateCount b_text b_textLength b_at b_read b_columns b_told b_wants b_comes) sz)) 0 0 (va_A (wM g q b_m b_written b_spare b_spareWritten b_states b_fifth b_oldest b_stateCount b_text b_textLength b_at b_read b_columns b_told b_wants b_comes) sz) := by
  refine Met.ofW (cc := cX5_mark) (maxL := 3) (ret := none) (by decide) rfl ?_
  intro p e s m args below meth c s₁ B hml hv
  obtain ⟨rfl, hsz, hP, hK, hD0⟩ := hv
  have hx := B.exec
  have hb := B.bytes
  have hr := B.returns
  have hts := atoms_spec (ws := wsX5_mark) B.pre
  have hown : s.vm.findClass RX5 = some m.cls := findClass_of_methodNamed B.named
  have hlocks := B.notSynchronized
  have iX5 : ∀ w ∈ wsX50, w ∈ wsX5_mark := by decide +kernel
  subst hsz
  have hD := hD0.self (sz := s.heap.size)
  generalize hAe : va_A (wM g q b_m b_written b_spare b_spareWritten b_states b_fifth b_oldest b_stateCount b_text b_textLength b_at b_read b_columns b_told b_wants b_comes) s.heap.size = A at hD ⊢
  have hA : ∀ q : Nat, s.heap.size ≤ q → A q := fun q h => by rw [← hAe]; exact Or.inr h
  clear hAe hD0
  have hS : va_S A s.heap s.heap [] := va_S.rf
  have hl := lv_entry ([.ref (q 0)]) (n := 3) (Nat.le_of_ble_eq_true rfl)
  rw [lg_entry_eq]
  generalize (lg_sl ([.ref (q 0)]) ++ List.replicate (3 - (lg_sl ([.ref (q 0)])).length) Slot.unset).toArray = ls at hl ⊢
  have hl : lv_has ls 3 [(0, .ref (q 0))] := hl
  unfold PX5_mark at h
  obtain ⟨H, hHe⟩ : ∃ y, y = s.heap := ⟨_, rfl⟩
  rw [← hHe] at hP
  have hS : va_S A s.heap H [] := by rw [hHe]; exact hS
  have hW0 : ∀ (Q : State → Prop), W p l e (headSpec wsX5_mark ({ frames := 3, cells := 0, slots := 0, locals := 69 })).room s m ([.ref (q 0)] : List Value).toArray below meth c H [] 0 0 Q (F0 m 0 ls []) → W p l e (headSpec wsX5_mark ({ frames := 3, cells := 0, slots := 0, locals := 69 })).room s m ([.ref (q 0)] : List Value).toArray below meth c s.heap [] 0 0 Q (F0 m 0 ls []) := by rw [hHe]; exact fun _ h9 => h9
  refine hW0 _ ?_
  clear hW0 hHe
  generalize ([] : List Loc) = locs at hS ⊢
  refine lv_aload_n hx hb dX5_mark_0 rfl (lv_at hl 0 rfl) ?_
  refine va_get (D := g.1) (ci := 5) (v := .ref (q 1)) (C := RX5) (T := TX5) (N := 16) hx hb hts iX5 hown hK.1 hP 0 rfl rfl 0 (by decide) (hts (.fieldLink RX5 7 "LightWheelModel" "m" "[I") (by decide +kernel)) (fun _ h9 => h9) rfl dX5_mark_1 ?_
  refine lv_iconst (v := (4 : Int32)) hx hb dX5_mark_4 (by decide) ?_
  refine xr_iald hx hb hK.1 hP 1 0 rfl rfl 4 rfl (Nat.le_of_ble_eq_true rfl) (Nat.le_of_ble_eq_true rfl) dX5_mark_5 ?_
  refine lv_topi (fun v1_1 e_v1_1 => ?_)
  replace h := h v1_1 e_v1_1
  refine lv_istore_n (lv' := [(1, .int v1_1), (0, .ref (q 0))]) hx hb dX5_mark_6 rfl hl (by decide) rfl (fun ls hl => ?_)
  refine lv_aload_n hx hb dX5_mark_7 rfl (lv_at hl 1 rfl) ?_
  have hFc := va_freeA hD hS hA
  refine va_callv (va_runV (As := []) (rest := []) ⟨hx, hb, hml, hown, hts⟩ (kX5_tick l g q H.size b_m b_written b_spare b_spareWritten b_states b_fifth b_oldest b_stateCount b_text b_textLength b_at b_read b_columns b_told b_wants b_comes _ h) (cwV 0 hts gX5_mark_X5_tick rfl rfl rfl hdX5_tick ⟨(Nat.le_of_ble_eq_true rfl), (Nat.le_of_ble_eq_true rfl)⟩) (preV_M (r := (RX5, TX5, 16)) hK hP hD (ci := 5) (q0 := 0) rfl rfl) rfl rfl hl.1 rfl (lv_room (Nat.le_of_ble_eq_true rfl)) dX5_mark_8 ⟨(Nat.le_of_ble_eq_true rfl), (Nat.le_of_ble_eq_true rfl)⟩) hS (fun q _ h9 => hFc q h9) hFc (fun u t H1 locs ht hvm hw hB hz1 hk1 hS => ?_)
  obtain ⟨b_m_2, b_written_3⟩ := u
  replace h := hw
  try dsimp only at h
  obtain ⟨hP, hD⟩ := jn0 (wf := (wM g q b_m_2 b_written_3 b_spare b_spareWritten b_states b_fifth b_oldest b_stateCount b_text b_textLength b_at b_read b_columns b_told b_wants b_comes)) hB ht hFc
  have hP : va_P g.1 vwCl (wM g q b_m_2 b_written_3 b_spare b_spareWritten b_states b_fifth b_oldest b_stateCount b_text b_textLength b_at b_read b_columns b_told b_wants b_comes) H1 := hP
  have hD : va_D A (wM g q b_m_2 b_written_3 b_spare b_spareWritten b_states b_fifth b_oldest b_stateCount b_text b_textLength b_at b_read b_columns b_told b_wants b_comes) := hD
  clear hk1 hz1 hB ht hw hFc
  generalize H1 = H at hP hS ⊢
  refine lv_aload_n hx hb dX5_mark_11 rfl (lv_at hl 1 rfl) ?_
  refine va_get (D := g.1) (ci := 5) (v := .ref (q 1)) (C := RX5) (T := TX5) (N := 16) hx hb hts iX5 hown hK.1 hP 0 rfl rfl 0 (by decide) (hts (.fieldLink RX5 7 "LightWheelModel" "m" "[I") (by decide +kernel)) (fun _ h9 => h9) rfl dX5_mark_12 ?_
  refine lv_iconst (v := (5 : Int32)) hx hb dX5_mark_15 (by decide) ?_
  refine xr_iald hx hb hK.1 hP 1 0 rfl rfl 5 rfl (Nat.le_of_ble_eq_true rfl) (Nat.le_of_ble_eq_true rfl) dX5_mark_16 ?_
  have tail_1 : ∀ (t_4 : Int32) (H : Heap) (locs : List Loc) (ls : Array Slot), PX5_mark_J1 b_comes k v1_1 b_m_2 b_written_3 t_4 → va_P g.1 vwCl (wM g q b_m_2 b_written_3 b_spare b_spareWritten b_states b_fifth b_oldest b_stateCount b_text b_textLength b_at b_read b_columns b_told b_wants b_comes) H → va_D A (wM g q b_m_2 b_written_3 b_spare b_spareWritten b_states b_fifth b_oldest b_stateCount b_text b_textLength b_at b_read b_columns b_told b_wants b_comes) → va_S A s.heap H locs → lv_has ls 3 [(1, .int v1_1), (0, .ref (q 0))] → W p l e (headSpec wsX5_mark ({ frames := 3, cells := 0, slots := 0, locals := 69 })).room s m ([.ref (q 0)] : List Value).toArray below meth c H locs 0 0 (MQ below (va_Qv (fun u : (Nat → Int32) × (Nat → Int32) × (Nat → Int32) => k u.1 u.2.1 u.2.2) (fun u t => PostB g A (wM g q u.1 u.2.1 b_spare b_spareWritten b_states b_fifth b_oldest b_stateCount b_text b_textLength b_at b_read b_columns b_told b_wants u.2.2) t) A) ([.ref (q 0)] : List Value).toArray s 0 0 A) (F0 m 25 ls [.int t_4]) := by
    intro t_4 H locs ls h hP hD hS hl
    unfold PX5_mark_J1 at h
    refine lv_istore_n (lv' := [(2, .int t_4), (1, .int v1_1), (0, .ref (q 0))]) hx hb dX5_mark_25 rfl hl (by decide) rfl (fun ls hl => ?_)
    have loop_2 : ∀ (kx_2 : Int32 → (Nat → Int32) → Prop), (∀ (v1_5 : Int32) (b_comes_6 : Nat → Int32) (H : Heap) (locs : List Loc) (ls : Array Slot), kx_2 v1_5 b_comes_6 → va_P g.1 vwCl (wM g q b_m_2 b_written_3 b_spare b_spareWritten b_states b_fifth b_oldest b_stateCount b_text b_textLength b_at b_read b_columns b_told b_wants b_comes_6) H → va_D A (wM g q b_m_2 b_written_3 b_spare b_spareWritten b_states b_fifth b_oldest b_stateCount b_text b_textLength b_at b_read b_columns b_told b_wants b_comes_6) → va_S A s.heap H locs → lv_has ls 3 [(2, .int t_4), (1, .int v1_5), (0, .ref (q 0))] → W p l e (headSpec wsX5_mark ({ frames := 3, cells := 0, slots := 0, locals := 69 })).room s m ([.ref (q 0)] : List Value).toArray below meth c H locs 0 0 (MQ below (va_Qv (fun u : (Nat → Int32) × (Nat → Int32) × (Nat → Int32) => k u.1 u.2.1 u.2.2) (fun u t => PostB g A (wM g q u.1 u.2.1 b_spare b_spareWritten b_states b_fifth b_oldest b_stateCount b_text b_textLength b_at b_read b_columns b_told b_wants u.2.2) t) A) ([.ref (q 0)] : List Value).toArray s 0 0 A) (F0 m 77 ls [])) → ∀ (n_2 : Nat) (v1_5 : Int32) (b_comes_6 : Nat → Int32) (H : Heap) (locs : List Loc) (ls : Array Slot), PX5_mark_L2 b_m_2 t_4 kx_2 n_2 v1_5 b_comes_6 → va_P g.1 vwCl (wM g q b_m_2 b_written_3 b_spare b_spareWritten b_states b_fifth b_oldest b_stateCount b_text b_textLength b_at b_read b_columns b_told b_wants b_comes_6) H → va_D A (wM g q b_m_2 b_written_3 b_spare b_spareWritten b_states b_fifth b_oldest b_stateCount b_text b_textLength b_at b_read b_columns b_told b_wants b_comes_6) → va_S A s.heap H locs → lv_has ls 3 [(2, .int t_4), (1, .int v1_5), (0, .ref (q 0))] → W p l e (headSpec wsX5_mark ({ frames := 3, cells := 0, slots := 0, locals := 69 })).room s m ([.ref (q 0)] : List Value).toArray below meth c H locs 0 0 (MQ below (va_Qv (fun u : (Nat → Int32) × (Nat → Int32) × (Nat → Int32) => k u.1 u.2.1 u.2.2) (fun u t => PostB g A (wM g q u.1 u.2.1 b_spare b_spareWritten b_states b_fifth b_oldest b_stateCount b_text b_textLength b_at b_read b_columns b_told b_wants u.2.2) t) A) ([.ref (q 0)] : List Value).toArray s 0 0 A) (F0 m 26 ls []) := by
      intro kx_2 hexit_2 n_2
      induction n_2 with
      | zero => exact fun _ _ _ _ _ h _ _ _ _ => (h : False).elim
      | succ n_2 ih_2 =>
        intro v1_5 b_comes_6 H locs ls h hP hD hS hl
        unfold PX5_mark_L2 at h
        refine lv_iload_n hx hb dX5_mark_26 rfl (lv_at hl 1 rfl) ?_
        refine lv_aload_n hx hb dX5_mark_27 rfl (lv_at hl 2 rfl) ?_
        refine va_get (D := g.1) (ci := 5) (v := .ref (q 1)) (C := RX5) (T := TX5) (N := 16) hx hb hts iX5 hown hK.1 hP 0 rfl rfl 0 (by decide) (hts (.fieldLink RX5 7 "LightWheelModel" "m" "[I") (by decide +kernel)) (fun _ h9 => h9) rfl dX5_mark_28 ?_
        refine lv_iconst (v := (4 : Int32)) hx hb dX5_mark_31 (by decide) ?_
        refine xr_iald hx hb hK.1 hP 1 0 rfl rfl 4 rfl (Nat.le_of_ble_eq_true rfl) (Nat.le_of_ble_eq_true rfl) dX5_mark_32 ?_
        refine lv_icmp_eq (tgt := 77) hx hb dX5_mark_33 (by decide) (fun c_33_6 => ?_) (fun c_33_6 => ?_)
        · replace h := h.1 c_33_6
          exact hexit_2 v1_5 b_comes_6 H locs ls h hP hD hS (lv_sub hl [0, 1, 2] rfl)
        · replace h := h.2 c_33_6
          refine lv_iload_n hx hb dX5_mark_36 rfl (lv_at hl 1 rfl) ?_
          refine lv_iload_n hx hb dX5_mark_37 rfl (lv_at hl 0 rfl) ?_
          refine lv_iadd hx hb dX5_mark_38 ?_
          refine vp_callSi (W.runS (As := [.int (v1_5 + t_4)]) (rest := []) ⟨hx, hb, hml, hown, hts⟩ (kX5_around l g  (v1_5 + t_4) _ h) (va_cwS 1 hts gX5_mark_X5_around rfl rfl rfl hdX5_around.2 ⟨(Nat.le_of_ble_eq_true rfl), (Nat.le_of_ble_eq_true rfl)⟩) (preS_R hK (va_P_nil (D := g.1) (cl := vwCl))) rfl rfl hl.1 rfl (lv_room (Nat.le_of_ble_eq_true rfl)) dX5_mark_39 ⟨(Nat.le_of_ble_eq_true rfl), (Nat.le_of_ble_eq_true rfl)⟩) (fun r39_8 h => ?_)
          refine lv_istore_n (lv' := [(1, .int r39_8), (2, .int t_4), (0, .ref (q 0))]) hx hb dX5_mark_42 rfl hl (by decide) rfl (fun ls hl => ?_)
          refine lv_aload_n hx hb dX5_mark_43 rfl (lv_at hl 2 rfl) ?_
          refine va_get (D := g.1) (ci := 5) (v := .ref (q 10)) (C := RX5) (T := TX5) (N := 16) hx hb hts iX5 hown hK.1 hP 0 rfl rfl 15 (by decide) (hts (.fieldLink RX5 37 "LightWheelModel" "comes" "[I") (by decide +kernel)) (fun _ h9 => h9) rfl dX5_mark_44 ?_
          refine lv_iload_n hx hb dX5_mark_47 rfl (lv_at hl 0 rfl) ?_
          refine lv_iconst (v := (1 : Int32)) hx hb dX5_mark_48 (by decide) ?_
          have o_49_8 := h.1
          replace h := h.2
          refine xs_iast hx hb hK.1 hP hD hS 10 0 rfl rfl o_49_8 dX5_mark_49 (fun b_comes_10 e_b_comes_10 H locs hP hD hS => ?_)
          replace h := h b_comes_10 e_b_comes_10
          have hP : va_P g.1 vwCl (wM g q b_m_2 b_written_3 b_spare b_spareWritten b_states b_fifth b_oldest b_stateCount b_text b_textLength b_at b_read b_columns b_told b_wants b_comes_10) H := hP
          have hD : va_D A (wM g q b_m_2 b_written_3 b_spare b_spareWritten b_states b_fifth b_oldest b_stateCount b_text b_textLength b_at b_read b_columns b_told b_wants b_comes_10) := hD
          refine lv_aload_n hx hb dX5_mark_50 rfl (lv_at hl 2 rfl) ?_
          refine va_get (D := g.1) (ci := 5) (v := .ref (q 10)) (C := RX5) (T := TX5) (N := 16) hx hb hts iX5 hown hK.1 hP 0 rfl rfl 15 (by decide) (hts (.fieldLink RX5 37 "LightWheelModel" "comes" "[I") (by decide +kernel)) (fun _ h9 => h9) rfl dX5_mark_51 ?_
          refine lv_iload_n hx hb dX5_mark_54 rfl (lv_at hl 0 rfl) ?_
          refine lv_sipush (v := (360 : Int32)) hx hb dX5_mark_55 (by decide) ?_
          refine lv_iadd hx hb dX5_mark_58 ?_
          refine lv_sipush (v := (720 : Int32)) hx hb dX5_mark_59 (by decide) ?_
          refine lv_irem hx hb dX5_mark_62 (by decide) ?_
          refine lv_dup2_11 hx hb dX5_mark_63 rfl rfl ?_
          have o_64_10 := h.1
          replace h := h.2
          refine va_iald hx hb hK.1 hP 10 0 rfl rfl o_64_10 dX5_mark_64 ?_
          refine lv_aload_n hx hb dX5_mark_65 rfl (lv_at hl 2 rfl) ?_
          refine va_get (D := g.1) (ci := 5) (v := .ref (q 1)) (C := RX5) (T := TX5) (N := 16) hx hb hts iX5 hown hK.1 hP 0 rfl rfl 0 (by decide) (hts (.fieldLink RX5 7 "LightWheelModel" "m" "[I") (by decide +kernel)) (fun _ h9 => h9) rfl dX5_mark_66 ?_
          refine lv_bipush (v := (8 : Int32)) hx hb dX5_mark_69 (by decide) ?_
          refine xr_iald hx hb hK.1 hP 1 0 rfl rfl 8 rfl (Nat.le_of_ble_eq_true rfl) (Nat.le_of_ble_eq_true rfl) dX5_mark_71 ?_
          refine lv_ior hx hb dX5_mark_72 ?_
          have o_73_11 := h.1
          replace h := h.2
          refine xs_iast hx hb hK.1 hP hD hS 10 0 rfl rfl o_73_11 dX5_mark_73 (fun b_comes_13 e_b_comes_13 H locs hP hD hS => ?_)
          replace h := h b_comes_13 e_b_comes_13
          have hP : va_P g.1 vwCl (wM g q b_m_2 b_written_3 b_spare b_spareWritten b_states b_fifth b_oldest b_stateCount b_text b_textLength b_at b_read b_columns b_told b_wants b_comes_13) H := hP
          have hD : va_D A (wM g q b_m_2 b_written_3 b_spare b_spareWritten b_states b_fifth b_oldest b_stateCount b_text b_textLength b_at b_read b_columns b_told b_wants b_comes_13) := hD
          refine lv_goto (tgt := 26) hx hb dX5_mark_74 (by decide) ?_
          exact ih_2 r39_8 b_comes_13 H locs ls h hP hD hS (lv_sub hl [1, 0, 2] rfl)
    obtain ⟨n_2, h⟩ := h
    refine loop_2 _ ?_ n_2 v1_1 b_comes _ _ ls h hP hD hS (lv_sub hl [0, 1, 2] rfl)
    intro v1_5 b_comes_6 H locs ls h hP hD hS hl
    exact W.vret hx hb hr (fun t ht hW => ⟨⟨(b_m_2, b_written_3, b_comes_6), rfl, h, by rw [ht]; exact hP, hD⟩, hS.F ht⟩) hS.2.2 dX5_mark_77
  refine lv_if_ge (tgt := 24) hx hb dX5_mark_17 (by decide) (fun c_17_13 => ?_) (fun c_17_13 => ?_)
  · replace h := h.1 c_17_13
    refine lv_iconst (v := (1 : Int32)) hx hb dX5_mark_24 (by decide) ?_
    exact tail_1 (1 : Int32) H locs ls h hP hD hS (lv_sub hl [0, 1] rfl)
  · replace h := h.2 c_17_13
    refine lv_iconst (v := (-1 : Int32)) hx hb dX5_mark_20 (by decide) ?_
    refine lv_goto (tgt := 25) hx hb dX5_mark_21 (by decide) ?_
    exact tail_1 (-1 : Int32) H locs ls h hP hD hS (lv_sub hl [0, 1] rfl)
theorem hdX5_gaps : yX5_gaps.cls = RX5 ∧ yX5_gaps.cls ≠ "java/lang/invoke/MethodHandle" ∧ yX5_gaps.cls ≠ "java/lang/invoke/VarHandle" ∧ (parseMethodDescriptor yX5_gaps.desc).map (fun d => d.parameters.length) = some 1 := by decide +kernel
set_option maxHeartbeats 4000000 in
set_option maxRecDepth 100000 in
theorem kX5_gaps (l : Launch) (g : GG) (q : Nat → Nat) (sz : Nat) (b_m : Nat → Int32) (b_written : Nat → Int32) (b_spare : Nat → Int32) (b_spareWritten : Nat → Int32) (b_states : Nat → Int32) (b_fifth : Nat → Int32) (b_oldest : Int32) (b_stateCount : Int32) (b_text : Nat → Int32) (b_textLength : Int32) (b_at : Int32) (b_read : Nat → Int32) (b_columns : Int32) (b_told : Int32) (b_wants : Nat → Int32) (b_comes : Nat → Int32) (a_1 : Int32) (k : Int32 → (Nat → Int32) → (Nat → Int32) → (Nat → Int32) → (Nat → Int32) → (Nat → Int32) → (Nat → Int32) → Prop) (h : PX5_gaps b_m b_written b_spare b_spareWritten b_wants b_comes a_1 k) : Met l yX5_gaps wsX5_gaps ({ frames := 5, cells := 0, slots := 0, locals := 113 }) (PreM g [.ref (q 0), .int a_1] (wM g q b_m b_written b_spare b_spareWritten b_states b_fifth b_oldest b_stateCount b_text b_textLength b_at b_read b_columns b_told b_wants b_comes) sz) (va_Qi (fun (r : Int32) (u : (Nat → Int32) × (Nat → Int32) × (Nat → Int32) × (Nat → Int32) × (Nat → Int32) × (Nat → Int32)) => k r u.1 u.2.1 u.2.2.1 u.2.2.2.1 u.2.2.2.2.1 u.2.2.2.2.2) (fun u t => PostB g (va_A (wM g q b_m b_written b_spare b_spareWritten b_states b_fifth b_oldest b_stateCount b_text b_textLength b_at b_read b_columns b_told b_wants b_comes) sz) (wM g q u.1 u.2.1 u.2.2.1 u.2.2.2.1 b_states b_fifth b_oldest b_stateCount b_text b_textLength b_at b_read b_columns b_told u.2.2.2.2.1 u.2.2.2.2.2) t) (va_A (wM g q b_m b_written b_spare b_spareWritten b_states b_fifth b_oldest b_stateCount b_text b_textLength b_at b_read b_columns b_told b_wants b_comes) sz)) 0 0 (va_A (wM g q b_m b_written b_spare b_spareWritten b_states b_fifth b_oldest b_stateCount b_text b_textLength b_at b_read b_columns b_told b_wants b_comes) sz) := by
  refine Met.ofW (cc := cX5_gaps) (maxL := 4) (ret := (some .int)) (by decide) rfl ?_
  intro p e s m args below meth c s₁ B hml hv
  obtain ⟨rfl, hsz, hP, hK, hD0⟩ := hv
  have hx := B.exec
  have hb := B.bytes
  have hr := B.returns
  have hts := atoms_spec (ws := wsX5_gaps) B.pre
  have hown : s.vm.findClass RX5 = some m.cls := findClass_of_methodNamed B.named
  have hlocks := B.notSynchronized
  have iX5 : ∀ w ∈ wsX50, w ∈ wsX5_gaps := by decide +kernel
  subst hsz
  have hD := hD0.self (sz := s.heap.size)
  generalize hAe : va_A (wM g q b_m b_written b_spare b_spareWritten b_states b_fifth b_oldest b_stateCount b_text b_textLength b_at b_read b_columns b_told b_wants b_comes) s.heap.size = A at hD ⊢
  have hA : ∀ q : Nat, s.heap.size ≤ q → A q := fun q h => by rw [← hAe]; exact Or.inr h
  clear hAe hD0
  have hS : va_S A s.heap s.heap [] := va_S.rf
  have hl := lv_entry ([.ref (q 0), .int a_1]) (n := 4) (Nat.le_of_ble_eq_true rfl)
  rw [lg_entry_eq]
  generalize (lg_sl ([.ref (q 0), .int a_1]) ++ List.replicate (4 - (lg_sl ([.ref (q 0), .int a_1])).length) Slot.unset).toArray = ls at hl ⊢
  have hl : lv_has ls 4 [(0, .ref (q 0)), (1, .int a_1)] := hl
  unfold PX5_gaps at h
  obtain ⟨H, hHe⟩ : ∃ y, y = s.heap := ⟨_, rfl⟩
  rw [← hHe] at hP
  have hS : va_S A s.heap H [] := by rw [hHe]; exact hS
  have hW0 : ∀ (Q : State → Prop), W p l e (headSpec wsX5_gaps ({ frames := 5, cells := 0, slots := 0, locals := 113 })).room s m ([.ref (q 0), .int a_1] : List Value).toArray below meth c H [] 0 0 Q (F0 m 0 ls []) → W p l e (headSpec wsX5_gaps ({ frames := 5, cells := 0, slots := 0, locals := 113 })).room s m ([.ref (q 0), .int a_1] : List Value).toArray below meth c s.heap [] 0 0 Q (F0 m 0 ls []) := by rw [hHe]; exact fun _ h9 => h9
  refine hW0 _ ?_
  clear hW0 hHe
  generalize ([] : List Loc) = locs at hS ⊢
  refine lv_iload_n hx hb dX5_gaps_0 rfl (lv_at hl 1 rfl) ?_
  refine lv_iconst (v := (0 : Int32)) hx hb dX5_gaps_1 (by decide) ?_
  refine lv_sipush (v := (200 : Int32)) hx hb dX5_gaps_2 (by decide) ?_
  refine vp_callSi (W.runS (As := [.int a_1, .int (0 : Int32), .int (200 : Int32)]) (rest := []) ⟨hx, hb, hml, hown, hts⟩ (kX5_in l g  a_1 (0 : Int32) (200 : Int32) _ h) (va_cwS 3 hts gX5_gaps_X5_in rfl rfl rfl hdX5_in.2 ⟨(Nat.le_of_ble_eq_true rfl), (Nat.le_of_ble_eq_true rfl)⟩) (preS_R hK (va_P_nil (D := g.1) (cl := vwCl))) rfl rfl hl.1 rfl (lv_room (Nat.le_of_ble_eq_true rfl)) dX5_gaps_5 ⟨(Nat.le_of_ble_eq_true rfl), (Nat.le_of_ble_eq_true rfl)⟩) (fun r5_1 h => ?_)
  refine lv_if_ne (tgt := 14) hx hb dX5_gaps_8 (by decide) (fun c_8_1 => ?_) (fun c_8_1 => ?_)
  · replace h := h.1 c_8_1
    refine lv_aload_n hx hb dX5_gaps_14 rfl (lv_at hl 0 rfl) ?_
    have hFc := va_freeA hD hS hA
    refine va_callv (va_runV (As := []) (rest := []) ⟨hx, hb, hml, hown, hts⟩ (kX5_setAside l g q H.size b_m b_written b_spare b_spareWritten b_states b_fifth b_oldest b_stateCount b_text b_textLength b_at b_read b_columns b_told b_wants b_comes _ h) (cwV 0 hts gX5_gaps_X5_setAside rfl rfl rfl hdX5_setAside ⟨(Nat.le_of_ble_eq_true rfl), (Nat.le_of_ble_eq_true rfl)⟩) (preV_M (r := (RX5, TX5, 16)) hK hP hD (ci := 5) (q0 := 0) rfl rfl) rfl rfl hl.1 rfl (lv_room (Nat.le_of_ble_eq_true rfl)) dX5_gaps_15 ⟨(Nat.le_of_ble_eq_true rfl), (Nat.le_of_ble_eq_true rfl)⟩) hS (fun q _ h9 => hFc q h9) hFc (fun u t H1 locs ht hvm hw hB hz1 hk1 hS => ?_)
    obtain ⟨b_spare_3, b_spareWritten_4⟩ := u
    replace h := hw
    try dsimp only at h
    obtain ⟨hP, hD⟩ := jn0 (wf := (wM g q b_m b_written b_spare_3 b_spareWritten_4 b_states b_fifth b_oldest b_stateCount b_text b_textLength b_at b_read b_columns b_told b_wants b_comes)) hB ht hFc
    have hP : va_P g.1 vwCl (wM g q b_m b_written b_spare_3 b_spareWritten_4 b_states b_fifth b_oldest b_stateCount b_text b_textLength b_at b_read b_columns b_told b_wants b_comes) H1 := hP
    have hD : va_D A (wM g q b_m b_written b_spare_3 b_spareWritten_4 b_states b_fifth b_oldest b_stateCount b_text b_textLength b_at b_read b_columns b_told b_wants b_comes) := hD
    clear hk1 hz1 hB ht hw hFc
    generalize H1 = H at hP hS ⊢
    refine lv_aload_n hx hb dX5_gaps_18 rfl (lv_at hl 0 rfl) ?_
    have hFc := va_freeA hD hS hA
    refine va_callv (va_runV (As := []) (rest := []) ⟨hx, hb, hml, hown, hts⟩ (kX5_layWants l g q H.size b_m b_written b_spare_3 b_spareWritten_4 b_states b_fifth b_oldest b_stateCount b_text b_textLength b_at b_read b_columns b_told b_wants b_comes _ h) (cwV 0 hts gX5_gaps_X5_layWants rfl rfl rfl hdX5_layWants ⟨(Nat.le_of_ble_eq_true rfl), (Nat.le_of_ble_eq_true rfl)⟩) (preV_M (r := (RX5, TX5, 16)) hK hP hD (ci := 5) (q0 := 0) rfl rfl) rfl rfl hl.1 rfl (lv_room (Nat.le_of_ble_eq_true rfl)) dX5_gaps_19 ⟨(Nat.le_of_ble_eq_true rfl), (Nat.le_of_ble_eq_true rfl)⟩) hS (fun q _ h9 => hFc q h9) hFc (fun u t H1 locs ht hvm hw hB hz1 hk1 hS => ?_)
    obtain ⟨b_wants_5, ez9⟩ : ∃ y, y = u := ⟨_, rfl⟩
    subst ez9
    replace h := hw
    try dsimp only at h
    obtain ⟨hP, hD⟩ := jn0 (wf := (wM g q b_m b_written b_spare_3 b_spareWritten_4 b_states b_fifth b_oldest b_stateCount b_text b_textLength b_at b_read b_columns b_told b_wants_5 b_comes)) hB ht hFc
    have hP : va_P g.1 vwCl (wM g q b_m b_written b_spare_3 b_spareWritten_4 b_states b_fifth b_oldest b_stateCount b_text b_textLength b_at b_read b_columns b_told b_wants_5 b_comes) H1 := hP
    have hD : va_D A (wM g q b_m b_written b_spare_3 b_spareWritten_4 b_states b_fifth b_oldest b_stateCount b_text b_textLength b_at b_read b_columns b_told b_wants_5 b_comes) := hD
    clear hk1 hz1 hB ht hw hFc
    generalize H1 = H at hP hS ⊢
    refine lv_iconst (v := (0 : Int32)) hx hb dX5_gaps_22 (by decide) ?_
    refine lv_istore_n (lv' := [(2, .int (0 : Int32)), (0, .ref (q 0)), (1, .int a_1)]) hx hb dX5_gaps_23 rfl hl (by decide) rfl (fun ls hl => ?_)
    have loop_1 : ∀ (kx_1 : Int32 → (Nat → Int32) → Prop), (∀ (v2_6 : Int32) (b_comes_7 : Nat → Int32) (H : Heap) (locs : List Loc) (ls : Array Slot), kx_1 v2_6 b_comes_7 → va_P g.1 vwCl (wM g q b_m b_written b_spare_3 b_spareWritten_4 b_states b_fifth b_oldest b_stateCount b_text b_textLength b_at b_read b_columns b_told b_wants_5 b_comes_7) H → va_D A (wM g q b_m b_written b_spare_3 b_spareWritten_4 b_states b_fifth b_oldest b_stateCount b_text b_textLength b_at b_read b_columns b_told b_wants_5 b_comes_7) → va_S A s.heap H locs → lv_has ls 4 [(2, .int v2_6), (0, .ref (q 0)), (1, .int a_1)] → W p l e (headSpec wsX5_gaps ({ frames := 5, cells := 0, slots := 0, locals := 113 })).room s m ([.ref (q 0), .int a_1] : List Value).toArray below meth c H locs 0 0 (MQ below (va_Qi (fun (r : Int32) (u : (Nat → Int32) × (Nat → Int32) × (Nat → Int32) × (Nat → Int32) × (Nat → Int32) × (Nat → Int32)) => k r u.1 u.2.1 u.2.2.1 u.2.2.2.1 u.2.2.2.2.1 u.2.2.2.2.2) (fun u t => PostB g A (wM g q u.1 u.2.1 u.2.2.1 u.2.2.2.1 b_states b_fifth b_oldest b_stateCount b_text b_textLength b_at b_read b_columns b_told u.2.2.2.2.1 u.2.2.2.2.2) t) A) ([.ref (q 0), .int a_1] : List Value).toArray s 0 0 A) (F0 m 44 ls [])) → ∀ (n_1 : Nat) (v2_6 : Int32) (b_comes_7 : Nat → Int32) (H : Heap) (locs : List Loc) (ls : Array Slot), PX5_gaps_L1  kx_1 n_1 v2_6 b_comes_7 → va_P g.1 vwCl (wM g q b_m b_written b_spare_3 b_spareWritten_4 b_states b_fifth b_oldest b_stateCount b_text b_textLength b_at b_read b_columns b_told b_wants_5 b_comes_7) H → va_D A (wM g q b_m b_written b_spare_3 b_spareWritten_4 b_states b_fifth b_oldest b_stateCount b_text b_textLength b_at b_read b_columns b_told b_wants_5 b_comes_7) → va_S A s.heap H locs → lv_has ls 4 [(2, .int v2_6), (0, .ref (q 0)), (1, .int a_1)] → W p l e (headSpec wsX5_gaps ({ frames := 5, cells := 0, slots := 0, locals := 113 })).room s m ([.ref (q 0), .int a_1] : List Value).toArray below meth c H locs 0 0 (MQ below (va_Qi (fun (r : Int32) (u : (Nat → Int32) × (Nat → Int32) × (Nat → Int32) × (Nat → Int32) × (Nat → Int32) × (Nat → Int32)) => k r u.1 u.2.1 u.2.2.1 u.2.2.2.1 u.2.2.2.2.1 u.2.2.2.2.2) (fun u t => PostB g A (wM g q u.1 u.2.1 u.2.2.1 u.2.2.2.1 b_states b_fifth b_oldest b_stateCount b_text b_textLength b_at b_read b_columns b_told u.2.2.2.2.1 u.2.2.2.2.2) t) A) ([.ref (q 0), .int a_1] : List Value).toArray s 0 0 A) (F0 m 24 ls []) := by
      intro kx_1 hexit_1 n_1
      induction n_1 with
      | zero => exact fun _ _ _ _ _ h _ _ _ _ => (h : False).elim
      | succ n_1 ih_1 =>
        intro v2_6 b_comes_7 H locs ls h hP hD hS hl
        unfold PX5_gaps_L1 at h
        refine lv_iload_n hx hb dX5_gaps_24 rfl (lv_at hl 0 rfl) ?_
        refine lv_sipush (v := (720 : Int32)) hx hb dX5_gaps_25 (by decide) ?_
        refine lv_icmp_ge (tgt := 44) hx hb dX5_gaps_28 (by decide) (fun c_28_7 => ?_) (fun c_28_7 => ?_)
        · replace h := h.1 c_28_7
          exact hexit_1 v2_6 b_comes_7 H locs ls h hP hD hS (lv_sub hl [0, 1, 2] rfl)
        · replace h := h.2 c_28_7
          refine lv_aload_n hx hb dX5_gaps_31 rfl (lv_at hl 1 rfl) ?_
          refine va_get (D := g.1) (ci := 5) (v := .ref (q 10)) (C := RX5) (T := TX5) (N := 16) hx hb hts iX5 hown hK.1 hP 0 rfl rfl 15 (by decide) (hts (.fieldLink RX5 37 "LightWheelModel" "comes" "[I") (by decide +kernel)) (fun _ h9 => h9) rfl dX5_gaps_32 ?_
          refine lv_iload_n hx hb dX5_gaps_35 rfl (lv_at hl 0 rfl) ?_
          refine lv_iconst (v := (0 : Int32)) hx hb dX5_gaps_36 (by decide) ?_
          have o_37_8 := h.1
          replace h := h.2
          refine xs_iast hx hb hK.1 hP hD hS 10 0 rfl rfl o_37_8 dX5_gaps_37 (fun b_comes_10 e_b_comes_10 H locs hP hD hS => ?_)
          replace h := h b_comes_10 e_b_comes_10
          have hP : va_P g.1 vwCl (wM g q b_m b_written b_spare_3 b_spareWritten_4 b_states b_fifth b_oldest b_stateCount b_text b_textLength b_at b_read b_columns b_told b_wants_5 b_comes_10) H := hP
          have hD : va_D A (wM g q b_m b_written b_spare_3 b_spareWritten_4 b_states b_fifth b_oldest b_stateCount b_text b_textLength b_at b_read b_columns b_told b_wants_5 b_comes_10) := hD
          obtain ⟨v2_11, e_v2_11⟩ : ∃ y : Int32, y = v2_6 + (1 : Int32) := ⟨_, rfl⟩
          replace h := h v2_11 e_v2_11
          refine lv_iinc (v := v2_11) (lv' := [(2, .int v2_11), (0, .ref (q 0)), (1, .int a_1)]) hx hb dX5_gaps_38 hl (k := 0) rfl (by rw [e_v2_11]; rfl) (by decide) rfl (fun ls hl => ?_)
          refine lv_goto (tgt := 24) hx hb dX5_gaps_41 (by decide) ?_
          exact ih_1 v2_11 b_comes_10 H locs ls h hP hD hS (lv_sub hl [0, 1, 2] rfl)
    obtain ⟨n_1, h⟩ := h
    refine loop_1 _ ?_ n_1 (0 : Int32) b_comes _ _ ls h hP hD hS (lv_sub hl [0, 1, 2] rfl)
    intro v2_6 b_comes_7 H locs ls h hP hD hS hl
    refine lv_iconst (v := (0 : Int32)) hx hb dX5_gaps_44 (by decide) ?_
    refine lv_istore_n (lv' := [(2, .int (0 : Int32)), (0, .ref (q 0)), (1, .int a_1)]) hx hb dX5_gaps_45 rfl hl (by decide) rfl (fun ls hl => ?_)
    have loop_2 : ∀ (kx_2 : Int32 → (Nat → Int32) → (Nat → Int32) → (Nat → Int32) → Prop), (∀ (v2_12 : Int32) (b_m_13 : Nat → Int32) (b_written_14 : Nat → Int32) (b_comes_15 : Nat → Int32) (H : Heap) (locs : List Loc) (ls : Array Slot), kx_2 v2_12 b_m_13 b_written_14 b_comes_15 → va_P g.1 vwCl (wM g q b_m_13 b_written_14 b_spare_3 b_spareWritten_4 b_states b_fifth b_oldest b_stateCount b_text b_textLength b_at b_read b_columns b_told b_wants_5 b_comes_15) H → va_D A (wM g q b_m_13 b_written_14 b_spare_3 b_spareWritten_4 b_states b_fifth b_oldest b_stateCount b_text b_textLength b_at b_read b_columns b_told b_wants_5 b_comes_15) → va_S A s.heap H locs → lv_has ls 4 [(2, .int v2_12), (0, .ref (q 0)), (1, .int a_1)] → W p l e (headSpec wsX5_gaps ({ frames := 5, cells := 0, slots := 0, locals := 113 })).room s m ([.ref (q 0), .int a_1] : List Value).toArray below meth c H locs 0 0 (MQ below (va_Qi (fun (r : Int32) (u : (Nat → Int32) × (Nat → Int32) × (Nat → Int32) × (Nat → Int32) × (Nat → Int32) × (Nat → Int32)) => k r u.1 u.2.1 u.2.2.1 u.2.2.2.1 u.2.2.2.2.1 u.2.2.2.2.2) (fun u t => PostB g A (wM g q u.1 u.2.1 u.2.2.1 u.2.2.2.1 b_states b_fifth b_oldest b_stateCount b_text b_textLength b_at b_read b_columns b_told u.2.2.2.2.1 u.2.2.2.2.2) t) A) ([.ref (q 0), .int a_1] : List Value).toArray s 0 0 A) (F0 m 61 ls [])) → ∀ (n_2 : Nat) (v2_12 : Int32) (b_m_13 : Nat → Int32) (b_written_14 : Nat → Int32) (b_comes_15 : Nat → Int32) (H : Heap) (locs : List Loc) (ls : Array Slot), PX5_gaps_L2 a_1 b_wants_5 kx_2 n_2 v2_12 b_m_13 b_written_14 b_comes_15 → va_P g.1 vwCl (wM g q b_m_13 b_written_14 b_spare_3 b_spareWritten_4 b_states b_fifth b_oldest b_stateCount b_text b_textLength b_at b_read b_columns b_told b_wants_5 b_comes_15) H → va_D A (wM g q b_m_13 b_written_14 b_spare_3 b_spareWritten_4 b_states b_fifth b_oldest b_stateCount b_text b_textLength b_at b_read b_columns b_told b_wants_5 b_comes_15) → va_S A s.heap H locs → lv_has ls 4 [(2, .int v2_12), (0, .ref (q 0)), (1, .int a_1)] → W p l e (headSpec wsX5_gaps ({ frames := 5, cells := 0, slots := 0, locals := 113 })).room s m ([.ref (q 0), .int a_1] : List Value).toArray below meth c H locs 0 0 (MQ below (va_Qi (fun (r : Int32) (u : (Nat → Int32) × (Nat → Int32) × (Nat → Int32) × (Nat → Int32) × (Nat → Int32) × (Nat → Int32)) => k r u.1 u.2.1 u.2.2.1 u.2.2.2.1 u.2.2.2.2.1 u.2.2.2.2.2) (fun u t => PostB g A (wM g q u.1 u.2.1 u.2.2.1 u.2.2.2.1 b_states b_fifth b_oldest b_stateCount b_text b_textLength b_at b_read b_columns b_told u.2.2.2.2.1 u.2.2.2.2.2) t) A) ([.ref (q 0), .int a_1] : List Value).toArray s 0 0 A) (F0 m 46 ls []) := by
      intro kx_2 hexit_2 n_2
      induction n_2 with
      | zero => exact fun _ _ _ _ _ _ _ h _ _ _ _ => (h : False).elim
      | succ n_2 ih_2 =>
        intro v2_12 b_m_13 b_written_14 b_comes_15 H locs ls h hP hD hS hl
        unfold PX5_gaps_L2 at h
        refine lv_iload_n hx hb dX5_gaps_46 rfl (lv_at hl 0 rfl) ?_
        refine lv_iload_n hx hb dX5_gaps_47 rfl (lv_at hl 2 rfl) ?_
        refine lv_icmp_ge (tgt := 61) hx hb dX5_gaps_48 (by decide) (fun c_48_15 => ?_) (fun c_48_15 => ?_)
        · replace h := h.1 c_48_15
          exact hexit_2 v2_12 b_m_13 b_written_14 b_comes_15 H locs ls h hP hD hS (lv_sub hl [0, 1, 2] rfl)
        · replace h := h.2 c_48_15
          refine lv_aload_n hx hb dX5_gaps_51 rfl (lv_at hl 1 rfl) ?_
          have hFc := va_freeA hD hS hA
          refine va_callv (va_runV (As := []) (rest := []) ⟨hx, hb, hml, hown, hts⟩ (kX5_mark l g q H.size b_m_13 b_written_14 b_spare_3 b_spareWritten_4 b_states b_fifth b_oldest b_stateCount b_text b_textLength b_at b_read b_columns b_told b_wants_5 b_comes_15 _ h) (cwV 0 hts gX5_gaps_X5_mark rfl rfl rfl hdX5_mark ⟨(Nat.le_of_ble_eq_true rfl), (Nat.le_of_ble_eq_true rfl)⟩) (preV_M (r := (RX5, TX5, 16)) hK hP hD (ci := 5) (q0 := 0) rfl rfl) rfl rfl hl.1 rfl (lv_room (Nat.le_of_ble_eq_true rfl)) dX5_gaps_52 ⟨(Nat.le_of_ble_eq_true rfl), (Nat.le_of_ble_eq_true rfl)⟩) hS (fun q _ h9 => hFc q h9) hFc (fun u t H1 locs ht hvm hw hB hz1 hk1 hS => ?_)
          obtain ⟨b_m_17, b_written_18, b_comes_19⟩ := u
          replace h := hw
          try dsimp only at h
          obtain ⟨hP, hD⟩ := jn0 (wf := (wM g q b_m_17 b_written_18 b_spare_3 b_spareWritten_4 b_states b_fifth b_oldest b_stateCount b_text b_textLength b_at b_read b_columns b_told b_wants_5 b_comes_19)) hB ht hFc
          have hP : va_P g.1 vwCl (wM g q b_m_17 b_written_18 b_spare_3 b_spareWritten_4 b_states b_fifth b_oldest b_stateCount b_text b_textLength b_at b_read b_columns b_told b_wants_5 b_comes_19) H1 := hP
          have hD : va_D A (wM g q b_m_17 b_written_18 b_spare_3 b_spareWritten_4 b_states b_fifth b_oldest b_stateCount b_text b_textLength b_at b_read b_columns b_told b_wants_5 b_comes_19) := hD
          clear hk1 hz1 hB ht hw hFc
          generalize H1 = H at hP hS ⊢
          obtain ⟨v2_20, e_v2_20⟩ : ∃ y : Int32, y = v2_12 + (1 : Int32) := ⟨_, rfl⟩
          replace h := h v2_20 e_v2_20
          refine lv_iinc (v := v2_20) (lv' := [(2, .int v2_20), (0, .ref (q 0)), (1, .int a_1)]) hx hb dX5_gaps_55 hl (k := 0) rfl (by rw [e_v2_20]; rfl) (by decide) rfl (fun ls hl => ?_)
          refine lv_goto (tgt := 46) hx hb dX5_gaps_58 (by decide) ?_
          exact ih_2 v2_20 b_m_17 b_written_18 b_comes_19 H locs ls h hP hD hS (lv_sub hl [0, 1, 2] rfl)
    obtain ⟨n_2, h⟩ := h
    refine loop_2 _ ?_ n_2 (0 : Int32) b_m b_written b_comes_7 _ _ ls h hP hD hS (lv_sub hl [0, 1, 2] rfl)
    intro v2_12 b_m_13 b_written_14 b_comes_15 H locs ls h hP hD hS hl
    refine lv_aload_n hx hb dX5_gaps_61 rfl (lv_at hl 1 rfl) ?_
    have hFc := va_freeA hD hS hA
    refine va_callv (va_runV (As := []) (rest := []) ⟨hx, hb, hml, hown, hts⟩ (kX5_bringBack l g q H.size b_m_13 b_written_14 b_spare_3 b_spareWritten_4 b_states b_fifth b_oldest b_stateCount b_text b_textLength b_at b_read b_columns b_told b_wants_5 b_comes_15 _ h) (cwV 0 hts gX5_gaps_X5_bringBack rfl rfl rfl hdX5_bringBack ⟨(Nat.le_of_ble_eq_true rfl), (Nat.le_of_ble_eq_true rfl)⟩) (preV_M (r := (RX5, TX5, 16)) hK hP hD (ci := 5) (q0 := 0) rfl rfl) rfl rfl hl.1 rfl (lv_room (Nat.le_of_ble_eq_true rfl)) dX5_gaps_62 ⟨(Nat.le_of_ble_eq_true rfl), (Nat.le_of_ble_eq_true rfl)⟩) hS (fun q _ h9 => hFc q h9) hFc (fun u t H1 locs ht hvm hw hB hz1 hk1 hS => ?_)
    obtain ⟨b_m_21, b_written_22⟩ := u
    replace h := hw
    try dsimp only at h
    obtain ⟨hP, hD⟩ := jn0 (wf := (wM g q b_m_21 b_written_22 b_spare_3 b_spareWritten_4 b_states b_fifth b_oldest b_stateCount b_text b_textLength b_at b_read b_columns b_told b_wants_5 b_comes_15)) hB ht hFc
    have hP : va_P g.1 vwCl (wM g q b_m_21 b_written_22 b_spare_3 b_spareWritten_4 b_states b_fifth b_oldest b_stateCount b_text b_textLength b_at b_read b_columns b_told b_wants_5 b_comes_15) H1 := hP
    have hD : va_D A (wM g q b_m_21 b_written_22 b_spare_3 b_spareWritten_4 b_states b_fifth b_oldest b_stateCount b_text b_textLength b_at b_read b_columns b_told b_wants_5 b_comes_15) := hD
    clear hk1 hz1 hB ht hw hFc
    generalize H1 = H at hP hS ⊢
    refine lv_iconst (v := (0 : Int32)) hx hb dX5_gaps_65 (by decide) ?_
    refine lv_istore_n (lv' := [(2, .int (0 : Int32)), (0, .ref (q 0)), (1, .int a_1)]) hx hb dX5_gaps_66 rfl hl (by decide) rfl (fun ls hl => ?_)
    refine lv_iconst (v := (0 : Int32)) hx hb dX5_gaps_67 (by decide) ?_
    refine lv_istore_n (lv' := [(3, .int (0 : Int32)), (2, .int (0 : Int32)), (0, .ref (q 0)), (1, .int a_1)]) hx hb dX5_gaps_68 rfl hl (by decide) rfl (fun ls hl => ?_)
    have loop_3 : ∀ (kx_3 : Int32 → Int32 → Prop), (∀ (v2_23 : Int32) (v3_24 : Int32) (H : Heap) (locs : List Loc) (ls : Array Slot), kx_3 v2_23 v3_24 → va_P g.1 vwCl (wM g q b_m_21 b_written_22 b_spare_3 b_spareWritten_4 b_states b_fifth b_oldest b_stateCount b_text b_textLength b_at b_read b_columns b_told b_wants_5 b_comes_15) H → va_D A (wM g q b_m_21 b_written_22 b_spare_3 b_spareWritten_4 b_states b_fifth b_oldest b_stateCount b_text b_textLength b_at b_read b_columns b_told b_wants_5 b_comes_15) → va_S A s.heap H locs → lv_has ls 4 [(3, .int v3_24), (2, .int v2_23), (0, .ref (q 0)), (1, .int a_1)] → W p l e (headSpec wsX5_gaps ({ frames := 5, cells := 0, slots := 0, locals := 113 })).room s m ([.ref (q 0), .int a_1] : List Value).toArray below meth c H locs 0 0 (MQ below (va_Qi (fun (r : Int32) (u : (Nat → Int32) × (Nat → Int32) × (Nat → Int32) × (Nat → Int32) × (Nat → Int32) × (Nat → Int32)) => k r u.1 u.2.1 u.2.2.1 u.2.2.2.1 u.2.2.2.2.1 u.2.2.2.2.2) (fun u t => PostB g A (wM g q u.1 u.2.1 u.2.2.1 u.2.2.2.1 b_states b_fifth b_oldest b_stateCount b_text b_textLength b_at b_read b_columns b_told u.2.2.2.2.1 u.2.2.2.2.2) t) A) ([.ref (q 0), .int a_1] : List Value).toArray s 0 0 A) (F0 m 107 ls [])) → ∀ (n_3 : Nat) (v2_23 : Int32) (v3_24 : Int32) (H : Heap) (locs : List Loc) (ls : Array Slot), PX5_gaps_L3 b_comes_15 b_m_21 kx_3 n_3 v2_23 v3_24 → va_P g.1 vwCl (wM g q b_m_21 b_written_22 b_spare_3 b_spareWritten_4 b_states b_fifth b_oldest b_stateCount b_text b_textLength b_at b_read b_columns b_told b_wants_5 b_comes_15) H → va_D A (wM g q b_m_21 b_written_22 b_spare_3 b_spareWritten_4 b_states b_fifth b_oldest b_stateCount b_text b_textLength b_at b_read b_columns b_told b_wants_5 b_comes_15) → va_S A s.heap H locs → lv_has ls 4 [(3, .int v3_24), (2, .int v2_23), (0, .ref (q 0)), (1, .int a_1)] → W p l e (headSpec wsX5_gaps ({ frames := 5, cells := 0, slots := 0, locals := 113 })).room s m ([.ref (q 0), .int a_1] : List Value).toArray below meth c H locs 0 0 (MQ below (va_Qi (fun (r : Int32) (u : (Nat → Int32) × (Nat → Int32) × (Nat → Int32) × (Nat → Int32) × (Nat → Int32) × (Nat → Int32)) => k r u.1 u.2.1 u.2.2.1 u.2.2.2.1 u.2.2.2.2.1 u.2.2.2.2.2) (fun u t => PostB g A (wM g q u.1 u.2.1 u.2.2.1 u.2.2.2.1 b_states b_fifth b_oldest b_stateCount b_text b_textLength b_at b_read b_columns b_told u.2.2.2.2.1 u.2.2.2.2.2) t) A) ([.ref (q 0), .int a_1] : List Value).toArray s 0 0 A) (F0 m 69 ls []) := by
      intro kx_3 hexit_3 n_3
      induction n_3 with
      | zero => exact fun _ _ _ _ _ h _ _ _ _ => (h : False).elim
      | succ n_3 ih_3 =>
        intro v2_23 v3_24 H locs ls h hP hD hS hl
        unfold PX5_gaps_L3 at h
        refine lv_iload_n hx hb dX5_gaps_69 rfl (lv_at hl 0 rfl) ?_
        refine lv_sipush (v := (720 : Int32)) hx hb dX5_gaps_70 (by decide) ?_
        refine lv_icmp_ge (tgt := 107) hx hb dX5_gaps_73 (by decide) (fun c_73_24 => ?_) (fun c_73_24 => ?_)
        · replace h := h.1 c_73_24
          exact hexit_3 v2_23 v3_24 H locs ls h hP hD hS (lv_sub hl [0, 1, 2, 3] rfl)
        · replace h := h.2 c_73_24
          refine lv_iload_n hx hb dX5_gaps_76 rfl (lv_at hl 1 rfl) ?_
          refine lv_aload_n hx hb dX5_gaps_77 rfl (lv_at hl 2 rfl) ?_
          refine va_get (D := g.1) (ci := 5) (v := .ref (q 10)) (C := RX5) (T := TX5) (N := 16) hx hb hts iX5 hown hK.1 hP 0 rfl rfl 15 (by decide) (hts (.fieldLink RX5 37 "LightWheelModel" "comes" "[I") (by decide +kernel)) (fun _ h9 => h9) rfl dX5_gaps_78 ?_
          refine lv_iload_n hx hb dX5_gaps_81 rfl (lv_at hl 0 rfl) ?_
          have o_82_25 := h.1
          replace h := h.2
          refine va_iald hx hb hK.1 hP 10 0 rfl rfl o_82_25 dX5_gaps_82 ?_
          refine lv_if_ne (tgt := 98) hx hb dX5_gaps_83 (by decide) (fun c_83_26 => ?_) (fun c_83_26 => ?_)
          · replace h := h.1 c_83_26
            refine lv_iconst (v := (0 : Int32)) hx hb dX5_gaps_98 (by decide) ?_
            refine lv_iadd hx hb dX5_gaps_99 ?_
            refine lv_topi (fun v2_28 e_v2_28 => ?_)
            replace h := h v2_28 e_v2_28
            refine lv_istore_n (lv' := [(2, .int v2_28), (3, .int v3_24), (0, .ref (q 0)), (1, .int a_1)]) hx hb dX5_gaps_100 rfl hl (by decide) rfl (fun ls hl => ?_)
            obtain ⟨v3_29, e_v3_29⟩ : ∃ y : Int32, y = v3_24 + (1 : Int32) := ⟨_, rfl⟩
            replace h := h v3_29 e_v3_29
            refine lv_iinc (v := v3_29) (lv' := [(3, .int v3_29), (2, .int v2_28), (0, .ref (q 0)), (1, .int a_1)]) hx hb dX5_gaps_101 hl (k := 1) rfl (by rw [e_v3_29]; rfl) (by decide) rfl (fun ls hl => ?_)
            refine lv_goto (tgt := 69) hx hb dX5_gaps_104 (by decide) ?_
            exact ih_3 v2_28 v3_29 H locs ls h hP hD hS (lv_sub hl [0, 1, 2, 3] rfl)
          · replace h := h.2 c_83_26
            refine lv_aload_n hx hb dX5_gaps_86 rfl (lv_at hl 2 rfl) ?_
            refine lv_iload_n hx hb dX5_gaps_87 rfl (lv_at hl 0 rfl) ?_
            refine vp_callSi (W.runV (As := [.int v3_24]) (rest := [.int v2_23]) ⟨hx, hb, hml, hown, hts⟩ (kX5_isCovered l g q b_m_21 b_written_22 b_spare_3 b_spareWritten_4 b_states b_fifth b_oldest b_stateCount b_text b_textLength b_at b_read b_columns b_told b_wants_5 b_comes_15 v3_24 _ h) (cwV 1 hts gX5_gaps_X5_isCovered rfl rfl rfl hdX5_isCovered ⟨(Nat.le_of_ble_eq_true rfl), (Nat.le_of_ble_eq_true rfl)⟩) (preV_R (r := (RX5, TX5, 16)) hK hP (ci := 5) (q0 := 0) rfl rfl) rfl rfl hl.1 rfl (lv_room (Nat.le_of_ble_eq_true rfl)) dX5_gaps_88 ⟨(Nat.le_of_ble_eq_true rfl), (Nat.le_of_ble_eq_true rfl)⟩) (fun r88_30 h => ?_)
            refine lv_if_eq (tgt := 98) hx hb dX5_gaps_91 (by decide) (fun c_91_30 => ?_) (fun c_91_30 => ?_)
            · replace h := h.1 c_91_30
              refine lv_iconst (v := (0 : Int32)) hx hb dX5_gaps_98 (by decide) ?_
              refine lv_iadd hx hb dX5_gaps_99 ?_
              refine lv_topi (fun v2_32 e_v2_32 => ?_)
              replace h := h v2_32 e_v2_32
              refine lv_istore_n (lv' := [(2, .int v2_32), (3, .int v3_24), (0, .ref (q 0)), (1, .int a_1)]) hx hb dX5_gaps_100 rfl hl (by decide) rfl (fun ls hl => ?_)
              obtain ⟨v3_33, e_v3_33⟩ : ∃ y : Int32, y = v3_24 + (1 : Int32) := ⟨_, rfl⟩
              replace h := h v3_33 e_v3_33
              refine lv_iinc (v := v3_33) (lv' := [(3, .int v3_33), (2, .int v2_32), (0, .ref (q 0)), (1, .int a_1)]) hx hb dX5_gaps_101 hl (k := 1) rfl (by rw [e_v3_33]; rfl) (by decide) rfl (fun ls hl => ?_)
              refine lv_goto (tgt := 69) hx hb dX5_gaps_104 (by decide) ?_
              exact ih_3 v2_32 v3_33 H locs ls h hP hD hS (lv_sub hl [0, 1, 2, 3] rfl)
            · replace h := h.2 c_91_30
              refine lv_iconst (v := (1 : Int32)) hx hb dX5_gaps_94 (by decide) ?_
              refine lv_goto (tgt := 99) hx hb dX5_gaps_95 (by decide) ?_
              refine lv_iadd hx hb dX5_gaps_99 ?_
              refine lv_topi (fun v2_34 e_v2_34 => ?_)
              replace h := h v2_34 e_v2_34
              refine lv_istore_n (lv' := [(2, .int v2_34), (3, .int v3_24), (0, .ref (q 0)), (1, .int a_1)]) hx hb dX5_gaps_100 rfl hl (by decide) rfl (fun ls hl => ?_)
              obtain ⟨v3_35, e_v3_35⟩ : ∃ y : Int32, y = v3_24 + (1 : Int32) := ⟨_, rfl⟩
              replace h := h v3_35 e_v3_35
              refine lv_iinc (v := v3_35) (lv' := [(3, .int v3_35), (2, .int v2_34), (0, .ref (q 0)), (1, .int a_1)]) hx hb dX5_gaps_101 hl (k := 1) rfl (by rw [e_v3_35]; rfl) (by decide) rfl (fun ls hl => ?_)
              refine lv_goto (tgt := 69) hx hb dX5_gaps_104 (by decide) ?_
              exact ih_3 v2_34 v3_35 H locs ls h hP hD hS (lv_sub hl [0, 1, 2, 3] rfl)
    obtain ⟨n_3, h⟩ := h
    refine loop_3 _ ?_ n_3 (0 : Int32) (0 : Int32) _ _ ls h hP hD hS (lv_sub hl [0, 1, 2, 3] rfl)
    intro v2_23 v3_24 H locs ls h hP hD hS hl
    refine lv_iload_n hx hb dX5_gaps_107 rfl (lv_at hl 1 rfl) ?_
    exact W.iret hx hb hr (fun t ht hW => ⟨⟨v2_23, (b_m_21, b_written_22, b_spare_3, b_spareWritten_4, b_wants_5, b_comes_15), rfl, h, by rw [ht]; exact hP, hD⟩, hS.F ht⟩) hS.2.2 dX5_gaps_108
  · replace h := h.2 c_8_1
    refine lv_bipush (v := (-101 : Int32)) hx hb dX5_gaps_11 (by decide) ?_
    exact W.iret hx hb hr (fun t ht hW => ⟨⟨(-101 : Int32), (b_m, b_written, b_spare, b_spareWritten, b_wants, b_comes), rfl, h, by rw [ht]; exact hP, hD⟩, hS.F ht⟩) hS.2.2 dX5_gaps_13
theorem hdX5_bestSpeed : yX5_bestSpeed.cls = RX5 ∧ yX5_bestSpeed.cls ≠ "java/lang/invoke/MethodHandle" ∧ yX5_bestSpeed.cls ≠ "java/lang/invoke/VarHandle" ∧ (parseMethodDescriptor yX5_bestSpeed.desc).map (fun d => d.parameters.length) = some 1 := by decide +kernel
set_option maxHeartbeats 4000000 in
set_option maxRecDepth 100000 in
theorem kX5_bestSpeed (l : Launch) (g : GG) (q : Nat → Nat) (sz : Nat) (b_m : Nat → Int32) (b_written : Nat → Int32) (b_spare : Nat → Int32) (b_spareWritten : Nat → Int32) (b_states : Nat → Int32) (b_fifth : Nat → Int32) (b_oldest : Int32) (b_stateCount : Int32) (b_text : Nat → Int32) (b_textLength : Int32) (b_at : Int32) (b_read : Nat → Int32) (b_columns : Int32) (b_told : Int32) (b_wants : Nat → Int32) (b_comes : Nat → Int32) (a_1 : Int32) (k : Int32 → (Nat → Int32) → (Nat → Int32) → (Nat → Int32) → (Nat → Int32) → (Nat → Int32) → Prop) (h : PX5_bestSpeed b_m b_written b_spare b_spareWritten b_wants a_1 k) : Met l yX5_bestSpeed wsX5_bestSpeed ({ frames := 5, cells := 0, slots := 0, locals := 113 }) (PreM g [.ref (q 0), .int a_1] (wM g q b_m b_written b_spare b_spareWritten b_states b_fifth b_oldest b_stateCount b_text b_textLength b_at b_read b_columns b_told b_wants b_comes) sz) (va_Qi (fun (r : Int32) (u : (Nat → Int32) × (Nat → Int32) × (Nat → Int32) × (Nat → Int32) × (Nat → Int32)) => k r u.1 u.2.1 u.2.2.1 u.2.2.2.1 u.2.2.2.2) (fun u t => PostB g (va_A (wM g q b_m b_written b_spare b_spareWritten b_states b_fifth b_oldest b_stateCount b_text b_textLength b_at b_read b_columns b_told b_wants b_comes) sz) (wM g q u.1 u.2.1 u.2.2.1 u.2.2.2.1 b_states b_fifth b_oldest b_stateCount b_text b_textLength b_at b_read b_columns b_told u.2.2.2.2 b_comes) t) (va_A (wM g q b_m b_written b_spare b_spareWritten b_states b_fifth b_oldest b_stateCount b_text b_textLength b_at b_read b_columns b_told b_wants b_comes) sz)) 0 0 (va_A (wM g q b_m b_written b_spare b_spareWritten b_states b_fifth b_oldest b_stateCount b_text b_textLength b_at b_read b_columns b_told b_wants b_comes) sz) := by
  refine Met.ofW (cc := cX5_bestSpeed) (maxL := 6) (ret := (some .int)) (by decide) rfl ?_
  intro p e s m args below meth c s₁ B hml hv
  obtain ⟨rfl, hsz, hP, hK, hD0⟩ := hv
  have hx := B.exec
  have hb := B.bytes
  have hr := B.returns
  have hts := atoms_spec (ws := wsX5_bestSpeed) B.pre
  have hown : s.vm.findClass RX5 = some m.cls := findClass_of_methodNamed B.named
  have hlocks := B.notSynchronized
  have iX5 : ∀ w ∈ wsX50, w ∈ wsX5_bestSpeed := by decide +kernel
  subst hsz
  have hD := hD0.self (sz := s.heap.size)
  generalize hAe : va_A (wM g q b_m b_written b_spare b_spareWritten b_states b_fifth b_oldest b_stateCount b_text b_textLength b_at b_read b_columns b_told b_wants b_comes) s.heap.size = A at hD ⊢
  have hA : ∀ q : Nat, s.heap.size ≤ q → A q := fun q h => by rw [← hAe]; exact Or.inr h
  clear hAe hD0
  have hS : va_S A s.heap s.heap [] := va_S.rf
  have hl := lv_entry ([.ref (q 0), .int a_1]) (n := 6) (Nat.le_of_ble_eq_true rfl)
  rw [lg_entry_eq]
  generalize (lg_sl ([.ref (q 0), .int a_1]) ++ List.replicate (6 - (lg_sl ([.ref (q 0), .int a_1])).length) Slot.unset).toArray = ls at hl ⊢
  have hl : lv_has ls 6 [(0, .ref (q 0)), (1, .int a_1)] := hl
  unfold PX5_bestSpeed at h
  obtain ⟨H, hHe⟩ : ∃ y, y = s.heap := ⟨_, rfl⟩
  rw [← hHe] at hP
  have hS : va_S A s.heap H [] := by rw [hHe]; exact hS
  have hW0 : ∀ (Q : State → Prop), W p l e (headSpec wsX5_bestSpeed ({ frames := 5, cells := 0, slots := 0, locals := 113 })).room s m ([.ref (q 0), .int a_1] : List Value).toArray below meth c H [] 0 0 Q (F0 m 0 ls []) → W p l e (headSpec wsX5_bestSpeed ({ frames := 5, cells := 0, slots := 0, locals := 113 })).room s m ([.ref (q 0), .int a_1] : List Value).toArray below meth c s.heap [] 0 0 Q (F0 m 0 ls []) := by rw [hHe]; exact fun _ h9 => h9
  refine hW0 _ ?_
  clear hW0 hHe
  generalize ([] : List Loc) = locs at hS ⊢
  refine lv_iload_n hx hb dX5_bestSpeed_0 rfl (lv_at hl 1 rfl) ?_
  refine lv_iconst (v := (1 : Int32)) hx hb dX5_bestSpeed_1 (by decide) ?_
  refine lv_bipush (v := (40 : Int32)) hx hb dX5_bestSpeed_2 (by decide) ?_
  refine vp_callSi (W.runS (As := [.int a_1, .int (1 : Int32), .int (40 : Int32)]) (rest := []) ⟨hx, hb, hml, hown, hts⟩ (kX5_in l g  a_1 (1 : Int32) (40 : Int32) _ h) (va_cwS 3 hts gX5_bestSpeed_X5_in rfl rfl rfl hdX5_in.2 ⟨(Nat.le_of_ble_eq_true rfl), (Nat.le_of_ble_eq_true rfl)⟩) (preS_R hK (va_P_nil (D := g.1) (cl := vwCl))) rfl rfl hl.1 rfl (lv_room (Nat.le_of_ble_eq_true rfl)) dX5_bestSpeed_4 ⟨(Nat.le_of_ble_eq_true rfl), (Nat.le_of_ble_eq_true rfl)⟩) (fun r4_1 h => ?_)
  refine lv_if_ne (tgt := 13) hx hb dX5_bestSpeed_7 (by decide) (fun c_7_1 => ?_) (fun c_7_1 => ?_)
  · replace h := h.1 c_7_1
    refine lv_aload_n hx hb dX5_bestSpeed_13 rfl (lv_at hl 0 rfl) ?_
    have hFc := va_freeA hD hS hA
    refine va_callv (va_runV (As := []) (rest := []) ⟨hx, hb, hml, hown, hts⟩ (kX5_setAside l g q H.size b_m b_written b_spare b_spareWritten b_states b_fifth b_oldest b_stateCount b_text b_textLength b_at b_read b_columns b_told b_wants b_comes _ h) (cwV 0 hts gX5_bestSpeed_X5_setAside rfl rfl rfl hdX5_setAside ⟨(Nat.le_of_ble_eq_true rfl), (Nat.le_of_ble_eq_true rfl)⟩) (preV_M (r := (RX5, TX5, 16)) hK hP hD (ci := 5) (q0 := 0) rfl rfl) rfl rfl hl.1 rfl (lv_room (Nat.le_of_ble_eq_true rfl)) dX5_bestSpeed_14 ⟨(Nat.le_of_ble_eq_true rfl), (Nat.le_of_ble_eq_true rfl)⟩) hS (fun q _ h9 => hFc q h9) hFc (fun u t H1 locs ht hvm hw hB hz1 hk1 hS => ?_)
    obtain ⟨b_spare_3, b_spareWritten_4⟩ := u
    replace h := hw
    try dsimp only at h
    obtain ⟨hP, hD⟩ := jn0 (wf := (wM g q b_m b_written b_spare_3 b_spareWritten_4 b_states b_fifth b_oldest b_stateCount b_text b_textLength b_at b_read b_columns b_told b_wants b_comes)) hB ht hFc
    have hP : va_P g.1 vwCl (wM g q b_m b_written b_spare_3 b_spareWritten_4 b_states b_fifth b_oldest b_stateCount b_text b_textLength b_at b_read b_columns b_told b_wants b_comes) H1 := hP
    have hD : va_D A (wM g q b_m b_written b_spare_3 b_spareWritten_4 b_states b_fifth b_oldest b_stateCount b_text b_textLength b_at b_read b_columns b_told b_wants b_comes) := hD
    clear hk1 hz1 hB ht hw hFc
    generalize H1 = H at hP hS ⊢
    refine lv_aload_n hx hb dX5_bestSpeed_17 rfl (lv_at hl 0 rfl) ?_
    have hFc := va_freeA hD hS hA
    refine va_callv (va_runV (As := []) (rest := []) ⟨hx, hb, hml, hown, hts⟩ (kX5_layWants l g q H.size b_m b_written b_spare_3 b_spareWritten_4 b_states b_fifth b_oldest b_stateCount b_text b_textLength b_at b_read b_columns b_told b_wants b_comes _ h) (cwV 0 hts gX5_bestSpeed_X5_layWants rfl rfl rfl hdX5_layWants ⟨(Nat.le_of_ble_eq_true rfl), (Nat.le_of_ble_eq_true rfl)⟩) (preV_M (r := (RX5, TX5, 16)) hK hP hD (ci := 5) (q0 := 0) rfl rfl) rfl rfl hl.1 rfl (lv_room (Nat.le_of_ble_eq_true rfl)) dX5_bestSpeed_18 ⟨(Nat.le_of_ble_eq_true rfl), (Nat.le_of_ble_eq_true rfl)⟩) hS (fun q _ h9 => hFc q h9) hFc (fun u t H1 locs ht hvm hw hB hz1 hk1 hS => ?_)
    obtain ⟨b_wants_5, ez9⟩ : ∃ y, y = u := ⟨_, rfl⟩
    subst ez9
    replace h := hw
    try dsimp only at h
    obtain ⟨hP, hD⟩ := jn0 (wf := (wM g q b_m b_written b_spare_3 b_spareWritten_4 b_states b_fifth b_oldest b_stateCount b_text b_textLength b_at b_read b_columns b_told b_wants_5 b_comes)) hB ht hFc
    have hP : va_P g.1 vwCl (wM g q b_m b_written b_spare_3 b_spareWritten_4 b_states b_fifth b_oldest b_stateCount b_text b_textLength b_at b_read b_columns b_told b_wants_5 b_comes) H1 := hP
    have hD : va_D A (wM g q b_m b_written b_spare_3 b_spareWritten_4 b_states b_fifth b_oldest b_stateCount b_text b_textLength b_at b_read b_columns b_told b_wants_5 b_comes) := hD
    clear hk1 hz1 hB ht hw hFc
    generalize H1 = H at hP hS ⊢
    refine lv_iconst (v := (0 : Int32)) hx hb dX5_bestSpeed_21 (by decide) ?_
    refine lv_istore_n (lv' := [(2, .int (0 : Int32)), (0, .ref (q 0)), (1, .int a_1)]) hx hb dX5_bestSpeed_22 rfl hl (by decide) rfl (fun ls hl => ?_)
    refine lv_iconst (v := (-1 : Int32)) hx hb dX5_bestSpeed_23 (by decide) ?_
    refine lv_istore_n (lv' := [(3, .int (-1 : Int32)), (2, .int (0 : Int32)), (0, .ref (q 0)), (1, .int a_1)]) hx hb dX5_bestSpeed_24 rfl hl (by decide) rfl (fun ls hl => ?_)
    refine lv_bipush (v := (-60 : Int32)) hx hb dX5_bestSpeed_25 (by decide) ?_
    refine lv_istore (lv' := [(4, .int (-60 : Int32)), (3, .int (-1 : Int32)), (2, .int (0 : Int32)), (0, .ref (q 0)), (1, .int a_1)]) hx hb dX5_bestSpeed_27 hl (by decide) rfl (fun ls hl => ?_)
    have loop_1 : ∀ (kx_1 : Int32 → Int32 → Int32 → (Nat → Int32) → (Nat → Int32) → Prop), (∀ (v2_6 : Int32) (v3_7 : Int32) (v4_8 : Int32) (b_m_9 : Nat → Int32) (b_written_10 : Nat → Int32) (H : Heap) (locs : List Loc) (ls : Array Slot), kx_1 v2_6 v3_7 v4_8 b_m_9 b_written_10 → va_P g.1 vwCl (wM g q b_m_9 b_written_10 b_spare_3 b_spareWritten_4 b_states b_fifth b_oldest b_stateCount b_text b_textLength b_at b_read b_columns b_told b_wants_5 b_comes) H → va_D A (wM g q b_m_9 b_written_10 b_spare_3 b_spareWritten_4 b_states b_fifth b_oldest b_stateCount b_text b_textLength b_at b_read b_columns b_told b_wants_5 b_comes) → va_S A s.heap H locs → lv_has ls 6 [(4, .int v4_8), (3, .int v3_7), (2, .int v2_6), (0, .ref (q 0)), (1, .int a_1)] → W p l e (headSpec wsX5_bestSpeed ({ frames := 5, cells := 0, slots := 0, locals := 113 })).room s m ([.ref (q 0), .int a_1] : List Value).toArray below meth c H locs 0 0 (MQ below (va_Qi (fun (r : Int32) (u : (Nat → Int32) × (Nat → Int32) × (Nat → Int32) × (Nat → Int32) × (Nat → Int32)) => k r u.1 u.2.1 u.2.2.1 u.2.2.2.1 u.2.2.2.2) (fun u t => PostB g A (wM g q u.1 u.2.1 u.2.2.1 u.2.2.2.1 b_states b_fifth b_oldest b_stateCount b_text b_textLength b_at b_read b_columns b_told u.2.2.2.2 b_comes) t) A) ([.ref (q 0), .int a_1] : List Value).toArray s 0 0 A) (F0 m 92 ls [])) → ∀ (n_1 : Nat) (v2_6 : Int32) (v3_7 : Int32) (v4_8 : Int32) (b_m_9 : Nat → Int32) (b_written_10 : Nat → Int32) (H : Heap) (locs : List Loc) (ls : Array Slot), PX5_bestSpeed_L1 a_1 b_spare_3 b_spareWritten_4 b_wants_5 kx_1 n_1 v2_6 v3_7 v4_8 b_m_9 b_written_10 → va_P g.1 vwCl (wM g q b_m_9 b_written_10 b_spare_3 b_spareWritten_4 b_states b_fifth b_oldest b_stateCount b_text b_textLength b_at b_read b_columns b_told b_wants_5 b_comes) H → va_D A (wM g q b_m_9 b_written_10 b_spare_3 b_spareWritten_4 b_states b_fifth b_oldest b_stateCount b_text b_textLength b_at b_read b_columns b_told b_wants_5 b_comes) → va_S A s.heap H locs → lv_has ls 6 [(4, .int v4_8), (3, .int v3_7), (2, .int v2_6), (0, .ref (q 0)), (1, .int a_1)] → W p l e (headSpec wsX5_bestSpeed ({ frames := 5, cells := 0, slots := 0, locals := 113 })).room s m ([.ref (q 0), .int a_1] : List Value).toArray below meth c H locs 0 0 (MQ below (va_Qi (fun (r : Int32) (u : (Nat → Int32) × (Nat → Int32) × (Nat → Int32) × (Nat → Int32) × (Nat → Int32)) => k r u.1 u.2.1 u.2.2.1 u.2.2.2.1 u.2.2.2.2) (fun u t => PostB g A (wM g q u.1 u.2.1 u.2.2.1 u.2.2.2.1 b_states b_fifth b_oldest b_stateCount b_text b_textLength b_at b_read b_columns b_told u.2.2.2.2 b_comes) t) A) ([.ref (q 0), .int a_1] : List Value).toArray s 0 0 A) (F0 m 29 ls []) := by
      intro kx_1 hexit_1 n_1
      induction n_1 with
      | zero => exact fun _ _ _ _ _ _ _ _ h _ _ _ _ => (h : False).elim
      | succ n_1 ih_1 =>
        intro v2_6 v3_7 v4_8 b_m_9 b_written_10 H locs ls h hP hD hS hl
        unfold PX5_bestSpeed_L1 at h
        refine lv_iload hx hb dX5_bestSpeed_29 (lv_at hl 0 rfl) ?_
        refine lv_bipush (v := (60 : Int32)) hx hb dX5_bestSpeed_31 (by decide) ?_
        refine lv_icmp_gt (tgt := 92) hx hb dX5_bestSpeed_33 (by decide) (fun c_33_10 => ?_) (fun c_33_10 => ?_)
        · replace h := h.1 c_33_10
          exact hexit_1 v2_6 v3_7 v4_8 b_m_9 b_written_10 H locs ls h hP hD hS (lv_sub hl [0, 1, 2, 3, 4] rfl)
        · replace h := h.2 c_33_10
          refine lv_aload_n hx hb dX5_bestSpeed_36 rfl (lv_at hl 3 rfl) ?_
          refine va_get (D := g.1) (ci := 5) (v := .ref (q 1)) (C := RX5) (T := TX5) (N := 16) hx hb hts iX5 hown hK.1 hP 0 rfl rfl 0 (by decide) (hts (.fieldLink RX5 7 "LightWheelModel" "m" "[I") (by decide +kernel)) (fun _ h9 => h9) rfl dX5_bestSpeed_37 ?_
          refine lv_iconst (v := (0 : Int32)) hx hb dX5_bestSpeed_40 (by decide) ?_
          refine lv_iload hx hb dX5_bestSpeed_41 (lv_at hl 0 rfl) ?_
          refine xr_iast hx hb hK.1 hP hD hS 1 0 rfl rfl 0 rfl (Nat.le_of_ble_eq_true rfl) (Nat.le_of_ble_eq_true rfl) dX5_bestSpeed_43 (fun b_m_12 e_b_m_12 H locs hP hD hS => ?_)
          replace h := h b_m_12 e_b_m_12
          have hP : va_P g.1 vwCl (wM g q b_m_12 b_written_10 b_spare_3 b_spareWritten_4 b_states b_fifth b_oldest b_stateCount b_text b_textLength b_at b_read b_columns b_told b_wants_5 b_comes) H := hP
          have hD : va_D A (wM g q b_m_12 b_written_10 b_spare_3 b_spareWritten_4 b_states b_fifth b_oldest b_stateCount b_text b_textLength b_at b_read b_columns b_told b_wants_5 b_comes) := hD
          refine lv_aload_n hx hb dX5_bestSpeed_44 rfl (lv_at hl 3 rfl) ?_
          refine lv_iload_n hx hb dX5_bestSpeed_45 rfl (lv_at hl 4 rfl) ?_
          have hFc := va_freeA hD hS hA
          refine va_callv (va_runV (As := [.int a_1]) (rest := []) ⟨hx, hb, hml, hown, hts⟩ (kX5_goOn l g q H.size b_m_12 b_written_10 b_spare_3 b_spareWritten_4 b_states b_fifth b_oldest b_stateCount b_text b_textLength b_at b_read b_columns b_told b_wants_5 b_comes a_1 _ h) (cwV 1 hts gX5_bestSpeed_X5_goOn rfl rfl rfl hdX5_goOn ⟨(Nat.le_of_ble_eq_true rfl), (Nat.le_of_ble_eq_true rfl)⟩) (preV_M (r := (RX5, TX5, 16)) hK hP hD (ci := 5) (q0 := 0) rfl rfl) rfl rfl hl.1 rfl (lv_room (Nat.le_of_ble_eq_true rfl)) dX5_bestSpeed_46 ⟨(Nat.le_of_ble_eq_true rfl), (Nat.le_of_ble_eq_true rfl)⟩) hS (fun q _ h9 => hFc q h9) hFc (fun u t H1 locs ht hvm hw hB hz1 hk1 hS => ?_)
          obtain ⟨b_m_13, b_written_14⟩ := u
          replace h := hw
          try dsimp only at h
          obtain ⟨hP, hD⟩ := jn0 (wf := (wM g q b_m_13 b_written_14 b_spare_3 b_spareWritten_4 b_states b_fifth b_oldest b_stateCount b_text b_textLength b_at b_read b_columns b_told b_wants_5 b_comes)) hB ht hFc
          have hP : va_P g.1 vwCl (wM g q b_m_13 b_written_14 b_spare_3 b_spareWritten_4 b_states b_fifth b_oldest b_stateCount b_text b_textLength b_at b_read b_columns b_told b_wants_5 b_comes) H1 := hP
          have hD : va_D A (wM g q b_m_13 b_written_14 b_spare_3 b_spareWritten_4 b_states b_fifth b_oldest b_stateCount b_text b_textLength b_at b_read b_columns b_told b_wants_5 b_comes) := hD
          clear hk1 hz1 hB ht hw hFc
          generalize H1 = H at hP hS ⊢
          refine lv_aload_n hx hb dX5_bestSpeed_49 rfl (lv_at hl 3 rfl) ?_
          refine lv_iconst (v := (1 : Int32)) hx hb dX5_bestSpeed_50 (by decide) ?_
          refine vp_callSi (W.runV (As := [.int (1 : Int32)]) (rest := []) ⟨hx, hb, hml, hown, hts⟩ (kX5_litPlaces l g q b_m_13 b_written_14 b_spare_3 b_spareWritten_4 b_states b_fifth b_oldest b_stateCount b_text b_textLength b_at b_read b_columns b_told b_wants_5 b_comes (1 : Int32) _ h) (cwV 1 hts gX5_bestSpeed_X5_litPlaces rfl rfl rfl hdX5_litPlaces ⟨(Nat.le_of_ble_eq_true rfl), (Nat.le_of_ble_eq_true rfl)⟩) (preV_R (r := (RX5, TX5, 16)) hK hP (ci := 5) (q0 := 0) rfl rfl) rfl rfl hl.1 rfl (lv_room (Nat.le_of_ble_eq_true rfl)) dX5_bestSpeed_51 ⟨(Nat.le_of_ble_eq_true rfl), (Nat.le_of_ble_eq_true rfl)⟩) (fun r51_15 h => ?_)
          refine lv_istore (lv' := [(5, .int r51_15), (4, .int v4_8), (3, .int v3_7), (2, .int v2_6), (0, .ref (q 0)), (1, .int a_1)]) hx hb dX5_bestSpeed_54 hl (by decide) rfl (fun ls hl => ?_)
          refine lv_iload hx hb dX5_bestSpeed_56 (lv_at hl 0 rfl) ?_
          refine lv_iload_n hx hb dX5_bestSpeed_58 rfl (lv_at hl 2 rfl) ?_
          refine lv_icmp_le (tgt := 67) hx hb dX5_bestSpeed_59 (by decide) (fun c_59_15 => ?_) (fun c_59_15 => ?_)
          · replace h := h.1 c_59_15
            refine lv_iload_n hx hb dX5_bestSpeed_67 rfl (lv_at hl 3 rfl) ?_
            refine lv_istore_n (lv' := [(2, .int v2_6), (5, .int r51_15), (4, .int v4_8), (3, .int v3_7), (0, .ref (q 0)), (1, .int a_1)]) hx hb dX5_bestSpeed_68 rfl hl (by decide) rfl (fun ls hl => ?_)
            refine lv_iload hx hb dX5_bestSpeed_69 (lv_at hl 1 rfl) ?_
            refine lv_iload_n hx hb dX5_bestSpeed_71 rfl (lv_at hl 3 rfl) ?_
            refine lv_icmp_le (tgt := 80) hx hb dX5_bestSpeed_72 (by decide) (fun c_72_16 => ?_) (fun c_72_16 => ?_)
            · replace h := h.1 c_72_16
              refine lv_iload_n hx hb dX5_bestSpeed_80 rfl (lv_at hl 3 rfl) ?_
              refine lv_istore_n (lv' := [(3, .int v3_7), (2, .int v2_6), (5, .int r51_15), (4, .int v4_8), (0, .ref (q 0)), (1, .int a_1)]) hx hb dX5_bestSpeed_81 rfl hl (by decide) rfl (fun ls hl => ?_)
              refine lv_aload_n hx hb dX5_bestSpeed_82 rfl (lv_at hl 4 rfl) ?_
              have hFc := va_freeA hD hS hA
              refine va_callv (va_runV (As := []) (rest := []) ⟨hx, hb, hml, hown, hts⟩ (kX5_bringBack l g q H.size b_m_13 b_written_14 b_spare_3 b_spareWritten_4 b_states b_fifth b_oldest b_stateCount b_text b_textLength b_at b_read b_columns b_told b_wants_5 b_comes _ h) (cwV 0 hts gX5_bestSpeed_X5_bringBack rfl rfl rfl hdX5_bringBack ⟨(Nat.le_of_ble_eq_true rfl), (Nat.le_of_ble_eq_true rfl)⟩) (preV_M (r := (RX5, TX5, 16)) hK hP hD (ci := 5) (q0 := 0) rfl rfl) rfl rfl hl.1 rfl (lv_room (Nat.le_of_ble_eq_true rfl)) dX5_bestSpeed_83 ⟨(Nat.le_of_ble_eq_true rfl), (Nat.le_of_ble_eq_true rfl)⟩) hS (fun q _ h9 => hFc q h9) hFc (fun u t H1 locs ht hvm hw hB hz1 hk1 hS => ?_)
              obtain ⟨b_m_18, b_written_19⟩ := u
              replace h := hw
              try dsimp only at h
              obtain ⟨hP, hD⟩ := jn0 (wf := (wM g q b_m_18 b_written_19 b_spare_3 b_spareWritten_4 b_states b_fifth b_oldest b_stateCount b_text b_textLength b_at b_read b_columns b_told b_wants_5 b_comes)) hB ht hFc
              have hP : va_P g.1 vwCl (wM g q b_m_18 b_written_19 b_spare_3 b_spareWritten_4 b_states b_fifth b_oldest b_stateCount b_text b_textLength b_at b_read b_columns b_told b_wants_5 b_comes) H1 := hP
              have hD : va_D A (wM g q b_m_18 b_written_19 b_spare_3 b_spareWritten_4 b_states b_fifth b_oldest b_stateCount b_text b_textLength b_at b_read b_columns b_told b_wants_5 b_comes) := hD
              clear hk1 hz1 hB ht hw hFc
              generalize H1 = H at hP hS ⊢
              obtain ⟨v4_20, e_v4_20⟩ : ∃ y : Int32, y = v4_8 + (10 : Int32) := ⟨_, rfl⟩
              replace h := h v4_20 e_v4_20
              refine lv_iinc (v := v4_20) (lv' := [(4, .int v4_20), (3, .int v3_7), (2, .int v2_6), (5, .int r51_15), (0, .ref (q 0)), (1, .int a_1)]) hx hb dX5_bestSpeed_86 hl (k := 3) rfl (by rw [e_v4_20]; rfl) (by decide) rfl (fun ls hl => ?_)
              refine lv_goto (tgt := 29) hx hb dX5_bestSpeed_89 (by decide) ?_
              exact ih_1 v2_6 v3_7 v4_20 b_m_18 b_written_19 H locs ls h hP hD hS (lv_sub hl [0, 1, 2, 4, 5] rfl)
            · replace h := h.2 c_72_16
              refine lv_iload hx hb dX5_bestSpeed_75 (lv_at hl 1 rfl) ?_
              refine lv_goto (tgt := 81) hx hb dX5_bestSpeed_77 (by decide) ?_
              refine lv_istore_n (lv' := [(3, .int r51_15), (2, .int v2_6), (5, .int r51_15), (4, .int v4_8), (0, .ref (q 0)), (1, .int a_1)]) hx hb dX5_bestSpeed_81 rfl hl (by decide) rfl (fun ls hl => ?_)
              refine lv_aload_n hx hb dX5_bestSpeed_82 rfl (lv_at hl 4 rfl) ?_
              have hFc := va_freeA hD hS hA
              refine va_callv (va_runV (As := []) (rest := []) ⟨hx, hb, hml, hown, hts⟩ (kX5_bringBack l g q H.size b_m_13 b_written_14 b_spare_3 b_spareWritten_4 b_states b_fifth b_oldest b_stateCount b_text b_textLength b_at b_read b_columns b_told b_wants_5 b_comes _ h) (cwV 0 hts gX5_bestSpeed_X5_bringBack rfl rfl rfl hdX5_bringBack ⟨(Nat.le_of_ble_eq_true rfl), (Nat.le_of_ble_eq_true rfl)⟩) (preV_M (r := (RX5, TX5, 16)) hK hP hD (ci := 5) (q0 := 0) rfl rfl) rfl rfl hl.1 rfl (lv_room (Nat.le_of_ble_eq_true rfl)) dX5_bestSpeed_83 ⟨(Nat.le_of_ble_eq_true rfl), (Nat.le_of_ble_eq_true rfl)⟩) hS (fun q _ h9 => hFc q h9) hFc (fun u t H1 locs ht hvm hw hB hz1 hk1 hS => ?_)
              obtain ⟨b_m_21, b_written_22⟩ := u
              replace h := hw
              try dsimp only at h
              obtain ⟨hP, hD⟩ := jn0 (wf := (wM g q b_m_21 b_written_22 b_spare_3 b_spareWritten_4 b_states b_fifth b_oldest b_stateCount b_text b_textLength b_at b_read b_columns b_told b_wants_5 b_comes)) hB ht hFc
              have hP : va_P g.1 vwCl (wM g q b_m_21 b_written_22 b_spare_3 b_spareWritten_4 b_states b_fifth b_oldest b_stateCount b_text b_textLength b_at b_read b_columns b_told b_wants_5 b_comes) H1 := hP
              have hD : va_D A (wM g q b_m_21 b_written_22 b_spare_3 b_spareWritten_4 b_states b_fifth b_oldest b_stateCount b_text b_textLength b_at b_read b_columns b_told b_wants_5 b_comes) := hD
              clear hk1 hz1 hB ht hw hFc
              generalize H1 = H at hP hS ⊢
              obtain ⟨v4_23, e_v4_23⟩ : ∃ y : Int32, y = v4_8 + (10 : Int32) := ⟨_, rfl⟩
              replace h := h v4_23 e_v4_23
              refine lv_iinc (v := v4_23) (lv' := [(4, .int v4_23), (3, .int r51_15), (2, .int v2_6), (5, .int r51_15), (0, .ref (q 0)), (1, .int a_1)]) hx hb dX5_bestSpeed_86 hl (k := 3) rfl (by rw [e_v4_23]; rfl) (by decide) rfl (fun ls hl => ?_)
              refine lv_goto (tgt := 29) hx hb dX5_bestSpeed_89 (by decide) ?_
              exact ih_1 v2_6 r51_15 v4_23 b_m_21 b_written_22 H locs ls h hP hD hS (lv_sub hl [0, 1, 2, 4, 5] rfl)
          · replace h := h.2 c_59_15
            refine lv_iload hx hb dX5_bestSpeed_62 (lv_at hl 1 rfl) ?_
            refine lv_goto (tgt := 68) hx hb dX5_bestSpeed_64 (by decide) ?_
            refine lv_istore_n (lv' := [(2, .int v4_8), (5, .int r51_15), (4, .int v4_8), (3, .int v3_7), (0, .ref (q 0)), (1, .int a_1)]) hx hb dX5_bestSpeed_68 rfl hl (by decide) rfl (fun ls hl => ?_)
            refine lv_iload hx hb dX5_bestSpeed_69 (lv_at hl 1 rfl) ?_
            refine lv_iload_n hx hb dX5_bestSpeed_71 rfl (lv_at hl 3 rfl) ?_
            refine lv_icmp_le (tgt := 80) hx hb dX5_bestSpeed_72 (by decide) (fun c_72_23 => ?_) (fun c_72_23 => ?_)
            · replace h := h.1 c_72_23
              refine lv_iload_n hx hb dX5_bestSpeed_80 rfl (lv_at hl 3 rfl) ?_
              refine lv_istore_n (lv' := [(3, .int v3_7), (2, .int v4_8), (5, .int r51_15), (4, .int v4_8), (0, .ref (q 0)), (1, .int a_1)]) hx hb dX5_bestSpeed_81 rfl hl (by decide) rfl (fun ls hl => ?_)
              refine lv_aload_n hx hb dX5_bestSpeed_82 rfl (lv_at hl 4 rfl) ?_
              have hFc := va_freeA hD hS hA
              refine va_callv (va_runV (As := []) (rest := []) ⟨hx, hb, hml, hown, hts⟩ (kX5_bringBack l g q H.size b_m_13 b_written_14 b_spare_3 b_spareWritten_4 b_states b_fifth b_oldest b_stateCount b_text b_textLength b_at b_read b_columns b_told b_wants_5 b_comes _ h) (cwV 0 hts gX5_bestSpeed_X5_bringBack rfl rfl rfl hdX5_bringBack ⟨(Nat.le_of_ble_eq_true rfl), (Nat.le_of_ble_eq_true rfl)⟩) (preV_M (r := (RX5, TX5, 16)) hK hP hD (ci := 5) (q0 := 0) rfl rfl) rfl rfl hl.1 rfl (lv_room (Nat.le_of_ble_eq_true rfl)) dX5_bestSpeed_83 ⟨(Nat.le_of_ble_eq_true rfl), (Nat.le_of_ble_eq_true rfl)⟩) hS (fun q _ h9 => hFc q h9) hFc (fun u t H1 locs ht hvm hw hB hz1 hk1 hS => ?_)
              obtain ⟨b_m_25, b_written_26⟩ := u
              replace h := hw
              try dsimp only at h
              obtain ⟨hP, hD⟩ := jn0 (wf := (wM g q b_m_25 b_written_26 b_spare_3 b_spareWritten_4 b_states b_fifth b_oldest b_stateCount b_text b_textLength b_at b_read b_columns b_told b_wants_5 b_comes)) hB ht hFc
              have hP : va_P g.1 vwCl (wM g q b_m_25 b_written_26 b_spare_3 b_spareWritten_4 b_states b_fifth b_oldest b_stateCount b_text b_textLength b_at b_read b_columns b_told b_wants_5 b_comes) H1 := hP
              have hD : va_D A (wM g q b_m_25 b_written_26 b_spare_3 b_spareWritten_4 b_states b_fifth b_oldest b_stateCount b_text b_textLength b_at b_read b_columns b_told b_wants_5 b_comes) := hD
              clear hk1 hz1 hB ht hw hFc
              generalize H1 = H at hP hS ⊢
              obtain ⟨v4_27, e_v4_27⟩ : ∃ y : Int32, y = v4_8 + (10 : Int32) := ⟨_, rfl⟩
              replace h := h v4_27 e_v4_27
              refine lv_iinc (v := v4_27) (lv' := [(4, .int v4_27), (3, .int v3_7), (2, .int v4_8), (5, .int r51_15), (0, .ref (q 0)), (1, .int a_1)]) hx hb dX5_bestSpeed_86 hl (k := 3) rfl (by rw [e_v4_27]; rfl) (by decide) rfl (fun ls hl => ?_)
              refine lv_goto (tgt := 29) hx hb dX5_bestSpeed_89 (by decide) ?_
              exact ih_1 v4_8 v3_7 v4_27 b_m_25 b_written_26 H locs ls h hP hD hS (lv_sub hl [0, 1, 2, 4, 5] rfl)
            · replace h := h.2 c_72_23
              refine lv_iload hx hb dX5_bestSpeed_75 (lv_at hl 1 rfl) ?_
              refine lv_goto (tgt := 81) hx hb dX5_bestSpeed_77 (by decide) ?_
              refine lv_istore_n (lv' := [(3, .int r51_15), (2, .int v4_8), (5, .int r51_15), (4, .int v4_8), (0, .ref (q 0)), (1, .int a_1)]) hx hb dX5_bestSpeed_81 rfl hl (by decide) rfl (fun ls hl => ?_)
              refine lv_aload_n hx hb dX5_bestSpeed_82 rfl (lv_at hl 4 rfl) ?_
              have hFc := va_freeA hD hS hA
              refine va_callv (va_runV (As := []) (rest := []) ⟨hx, hb, hml, hown, hts⟩ (kX5_bringBack l g q H.size b_m_13 b_written_14 b_spare_3 b_spareWritten_4 b_states b_fifth b_oldest b_stateCount b_text b_textLength b_at b_read b_columns b_told b_wants_5 b_comes _ h) (cwV 0 hts gX5_bestSpeed_X5_bringBack rfl rfl rfl hdX5_bringBack ⟨(Nat.le_of_ble_eq_true rfl), (Nat.le_of_ble_eq_true rfl)⟩) (preV_M (r := (RX5, TX5, 16)) hK hP hD (ci := 5) (q0 := 0) rfl rfl) rfl rfl hl.1 rfl (lv_room (Nat.le_of_ble_eq_true rfl)) dX5_bestSpeed_83 ⟨(Nat.le_of_ble_eq_true rfl), (Nat.le_of_ble_eq_true rfl)⟩) hS (fun q _ h9 => hFc q h9) hFc (fun u t H1 locs ht hvm hw hB hz1 hk1 hS => ?_)
              obtain ⟨b_m_28, b_written_29⟩ := u
              replace h := hw
              try dsimp only at h
              obtain ⟨hP, hD⟩ := jn0 (wf := (wM g q b_m_28 b_written_29 b_spare_3 b_spareWritten_4 b_states b_fifth b_oldest b_stateCount b_text b_textLength b_at b_read b_columns b_told b_wants_5 b_comes)) hB ht hFc
              have hP : va_P g.1 vwCl (wM g q b_m_28 b_written_29 b_spare_3 b_spareWritten_4 b_states b_fifth b_oldest b_stateCount b_text b_textLength b_at b_read b_columns b_told b_wants_5 b_comes) H1 := hP
              have hD : va_D A (wM g q b_m_28 b_written_29 b_spare_3 b_spareWritten_4 b_states b_fifth b_oldest b_stateCount b_text b_textLength b_at b_read b_columns b_told b_wants_5 b_comes) := hD
              clear hk1 hz1 hB ht hw hFc
              generalize H1 = H at hP hS ⊢
              obtain ⟨v4_30, e_v4_30⟩ : ∃ y : Int32, y = v4_8 + (10 : Int32) := ⟨_, rfl⟩
              replace h := h v4_30 e_v4_30
              refine lv_iinc (v := v4_30) (lv' := [(4, .int v4_30), (3, .int r51_15), (2, .int v4_8), (5, .int r51_15), (0, .ref (q 0)), (1, .int a_1)]) hx hb dX5_bestSpeed_86 hl (k := 3) rfl (by rw [e_v4_30]; rfl) (by decide) rfl (fun ls hl => ?_)
              refine lv_goto (tgt := 29) hx hb dX5_bestSpeed_89 (by decide) ?_
              exact ih_1 v4_8 r51_15 v4_30 b_m_28 b_written_29 H locs ls h hP hD hS (lv_sub hl [0, 1, 2, 4, 5] rfl)
    obtain ⟨n_1, h⟩ := h
    refine loop_1 _ ?_ n_1 (0 : Int32) (-1 : Int32) (-60 : Int32) b_m b_written _ _ ls h hP hD hS (lv_sub hl [0, 1, 2, 3, 4] rfl)
    intro v2_6 v3_7 v4_8 b_m_9 b_written_10 H locs ls h hP hD hS hl
    refine lv_iload_n hx hb dX5_bestSpeed_92 rfl (lv_at hl 2 rfl) ?_
    exact W.iret hx hb hr (fun t ht hW => ⟨⟨v2_6, (b_m_9, b_written_10, b_spare_3, b_spareWritten_4, b_wants_5), rfl, h, by rw [ht]; exact hP, hD⟩, hS.F ht⟩) hS.2.2 dX5_bestSpeed_93
  · replace h := h.2 c_7_1
    refine lv_bipush (v := (-101 : Int32)) hx hb dX5_bestSpeed_10 (by decide) ?_
    exact W.iret hx hb hr (fun t ht hW => ⟨⟨(-101 : Int32), (b_m, b_written, b_spare, b_spareWritten, b_wants), rfl, h, by rw [ht]; exact hP, hD⟩, hS.F ht⟩) hS.2.2 dX5_bestSpeed_12
