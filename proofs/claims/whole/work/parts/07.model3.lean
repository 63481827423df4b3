def PX5_paint (b_m : Nat → Int32) (b_written : Nat → Int32) (b_states : Nat → Int32) (b_fifth : Nat → Int32) (b_oldest : Int32) (b_stateCount : Int32) (a_1 : Int32) (a_2 : Int32) (a_3 : Int32) (a_4 : Int32) (k : Int32 → (Nat → Int32) → (Nat → Int32) → (Nat → Int32) → Int32 → Int32 → Prop) : Prop := PX5_isPicture b_m a_1 (fun r2_1 => ((r2_1 = 0 → (k (-101 : Int32) b_m b_states b_fifth b_oldest b_stateCount)) ∧ (¬ r2_1 = 0 → PX5_of b_m a_1 (0 : Int32) (fun r13_3 => PX5_in a_2 (0 : Int32) (r13_3 - (1 : Int32)) (fun r18_4 => ((r18_4 = 0 → (k (-101 : Int32) b_m b_states b_fifth b_oldest b_stateCount)) ∧ (¬ r18_4 = 0 → PX5_isLight a_3 (fun r25_6 => ((r25_6 = 0 → (k (-101 : Int32) b_m b_states b_fifth b_oldest b_stateCount)) ∧ (¬ r25_6 = 0 → PX5_in a_4 (0 : Int32) (7 : Int32) (fun r36_8 => ((¬ r36_8 = 0 → PX5_record b_m b_written b_states b_fifth b_oldest b_stateCount  (fun b_states_10 b_fifth_11 b_oldest_12 b_stateCount_13 => PX5_colorOf b_m a_1 a_2 a_3 (fun r53_14 => PX5_putColor b_m a_1 a_2 a_3 a_4 (fun b_m_15 => (k r53_14 b_m_15 b_states_10 b_fifth_11 b_oldest_12 b_stateCount_13))))) ∧ (r36_8 = 0 → (k (-101 : Int32) b_m b_states b_fifth b_oldest b_stateCount))))))))))))))
def PX5_setPlace (b_m : Nat → Int32) (b_written : Nat → Int32) (b_states : Nat → Int32) (b_fifth : Nat → Int32) (b_oldest : Int32) (b_stateCount : Int32) (a_1 : Int32) (a_2 : Int32) (a_3 : Int32) (k : Int32 → (Nat → Int32) → (Nat → Int32) → (Nat → Int32) → Int32 → Int32 → Prop) : Prop := PX5_isPicture b_m a_1 (fun r2_1 => ((r2_1 = 0 → (k (-101 : Int32) b_m b_states b_fifth b_oldest b_stateCount)) ∧ (¬ r2_1 = 0 → PX5_in a_2 (0 : Int32) (719 : Int32) (fun r13_3 => ((r13_3 = 0 → (k (-101 : Int32) b_m b_states b_fifth b_oldest b_stateCount)) ∧ (¬ r13_3 = 0 → PX5_in a_3 (1 : Int32) (18 : Int32) (fun r23_5 => ((¬ r23_5 = 0 → PX5_record b_m b_written b_states b_fifth b_oldest b_stateCount  (fun b_states_7 b_fifth_8 b_oldest_9 b_stateCount_10 => PX5_of b_m a_1 (1 : Int32) (fun r39_11 => (vp_in (((12 : Int32) + ((4 : Int32) * a_1)) + (1 : Int32)) 348 ∧ (∀ b_m_13 : Nat → Int32, b_m_13 = upd b_m (Int32.toNatClampNeg (((12 : Int32) + ((4 : Int32) * a_1)) + (1 : Int32))) a_2 → (vp_in (((12 : Int32) + ((4 : Int32) * a_1)) + (2 : Int32)) 348 ∧ (∀ b_m_15 : Nat → Int32, b_m_15 = upd b_m_13 (Int32.toNatClampNeg (((12 : Int32) + ((4 : Int32) * a_1)) + (2 : Int32))) a_3 → (k r39_11 b_m_15 b_states_7 b_fifth_8 b_oldest_9 b_stateCount_10)))))))) ∧ (r23_5 = 0 → (k (-101 : Int32) b_m b_states b_fifth b_oldest b_stateCount))))))))))
def PX5_put (b_m : Nat → Int32) (b_written : Nat → Int32) (b_states : Nat → Int32) (b_fifth : Nat → Int32) (b_oldest : Int32) (b_stateCount : Int32) (a_1 : Int32) (a_2 : Int32) (k : Int32 → (Nat → Int32) → (Nat → Int32) → (Nat → Int32) → Int32 → Int32 → Prop) : Prop := PX5_record b_m b_written b_states b_fifth b_oldest b_stateCount  (fun b_states_1 b_fifth_2 b_oldest_3 b_stateCount_4 => (vp_in a_1 348 ∧ (∀ v3_6 : Int32, v3_6 = (b_m (Int32.toNatClampNeg a_1)) → (vp_in a_1 348 ∧ (∀ b_m_8 : Nat → Int32, b_m_8 = upd b_m (Int32.toNatClampNeg a_1) a_2 → (k v3_6 b_m_8 b_states_1 b_fifth_2 b_oldest_3 b_stateCount_4))))))
def PX5_setKind (b_m : Nat → Int32) (b_written : Nat → Int32) (b_states : Nat → Int32) (b_fifth : Nat → Int32) (b_oldest : Int32) (b_stateCount : Int32) (a_1 : Int32) (a_2 : Int32) (k : Int32 → (Nat → Int32) → (Nat → Int32) → (Nat → Int32) → Int32 → Int32 → Prop) : Prop := PX5_isPicture b_m a_1 (fun r2_1 => ((r2_1 = 0 → (k (-101 : Int32) b_m b_states b_fifth b_oldest b_stateCount)) ∧ (¬ r2_1 = 0 → PX5_in a_2 (0 : Int32) (2 : Int32) (fun r11_3 => ((r11_3 = 0 → (k (-101 : Int32) b_m b_states b_fifth b_oldest b_stateCount)) ∧ (¬ r11_3 = 0 → PX5_put b_m b_written b_states b_fifth b_oldest b_stateCount (((12 : Int32) + ((4 : Int32) * a_1)) + (3 : Int32)) a_2 (fun r27_10 b_m_5 b_states_6 b_fifth_7 b_oldest_8 b_stateCount_9 => (k r27_10 b_m_5 b_states_6 b_fifth_7 b_oldest_8 b_stateCount_9))))))))
def PX5_append (b_text : Nat → Int32) (b_textLength : Int32) (a_1 : Int32) (k : Int32 → (Nat → Int32) → Int32 → Prop) : Prop := PX5_in a_1 (1 : Int32) (255 : Int32) (fun r5_1 => ((¬ r5_1 = 0 → ((¬ b_textLength = (160 : Int32) → (vp_in b_textLength 160 ∧ (∀ b_text_5 : Nat → Int32, b_text_5 = upd b_text (Int32.toNatClampNeg b_textLength) a_1 → (∀ f_textLength_6 : Int32, f_textLength_6 = (b_textLength + (1 : Int32)) → (k f_textLength_6 b_text_5 f_textLength_6))))) ∧ (b_textLength = (160 : Int32) → (k (-103 : Int32) b_text b_textLength)))) ∧ (r5_1 = 0 → (k (-101 : Int32) b_text b_textLength))))
def PX5_clearText (b_textLength : Int32)  (k : Int32 → Int32 → Prop) : Prop := (k b_textLength (0 : Int32))
def PX5_skip_L1 (b_text : Nat → Int32) (b_textLength : Int32) (kx_1 : Int32 → Prop) : Nat → Int32 → Prop
  | 0, _ => False
  | n_1 + 1, b_at_1 => PX5_here b_text b_textLength b_at_1 (fun r1_2 => ((¬ r1_2 = (32 : Int32) → kx_1 b_at_1) ∧ (r1_2 = (32 : Int32) → (∀ f_at_4 : Int32, f_at_4 = (b_at_1 + (1 : Int32)) → PX5_skip_L1 b_text b_textLength kx_1 n_1 f_at_4))))
def PX5_skip (b_text : Nat → Int32) (b_textLength : Int32) (b_at : Int32)  (k : Int32 → Prop) : Prop := (∃ n_1, PX5_skip_L1 b_text b_textLength (fun b_at_1 => (k b_at_1)) n_1 b_at)
def PX5_takeColor_L1 (b_text : Nat → Int32) (b_textLength : Int32) (b_at : Int32) (b_columns : Int32) (a_1 : Int32) (kx_1 : Int32 → (Nat → Int32) → Int32 → Prop) : Nat → Int32 → (Nat → Int32) → Int32 → Prop
  | 0, _, _, _ => False
  | n_1 + 1, v2_1, b_read_2, b_told_3 => ((a_1 ≤ v2_1 → kx_1 v2_1 b_read_2 b_told_3) ∧ (¬ a_1 ≤ v2_1 → (vp_in (((2 : Int32) * b_columns) + (b_told_3 / (6 : Int32))) 80 ∧ PX5_here b_text b_textLength b_at (fun r28_6 => (vp_in (((2 : Int32) * b_columns) + (b_told_3 / (6 : Int32))) 80 ∧ (∀ b_read_8 : Nat → Int32, b_read_8 = upd b_read_2 (Int32.toNatClampNeg (((2 : Int32) * b_columns) + (b_told_3 / (6 : Int32)))) ((b_read_2 (Int32.toNatClampNeg (((2 : Int32) * b_columns) + (b_told_3 / (6 : Int32))))) ||| ((r28_6 - (48 : Int32)) <<< (((3 : Int32) * (b_told_3 - b_told_3 / (6 : Int32) * (6 : Int32))) &&& 31))) → (∀ f_told_9 : Int32, f_told_9 = (b_told_3 + (1 : Int32)) → (∀ v2_10 : Int32, v2_10 = v2_1 + (1 : Int32) → PX5_takeColor_L1 b_text b_textLength b_at b_columns a_1 kx_1 n_1 v2_10 b_read_8 f_told_9))))))))
def PX5_takeColor (b_text : Nat → Int32) (b_textLength : Int32) (b_at : Int32) (b_read : Nat → Int32) (b_columns : Int32) (b_told : Int32) (a_1 : Int32) (k : Int32 → (Nat → Int32) → Int32 → Prop) : Prop := (∃ n_1, PX5_takeColor_L1 b_text b_textLength b_at b_columns a_1 (fun v2_1 b_read_2 b_told_3 => (∀ f_at_11 : Int32, f_at_11 = (b_at + (1 : Int32)) → (k f_at_11 b_read_2 b_told_3))) n_1 (0 : Int32) b_read b_told)
def PX5_readNumber_L1 (b_text : Nat → Int32) (b_textLength : Int32) (kx_1 : Int32 → Int32 → Prop) : Nat → Int32 → Int32 → Prop
  | 0, _, _ => False
  | n_1 + 1, v2_3, b_at_4 => PX5_here b_text b_textLength b_at_4 (fun r22_5 => PX5_in r22_5 (48 : Int32) (57 : Int32) (fun r29_6 => ((r29_6 = 0 → kx_1 v2_3 b_at_4) ∧ (¬ r29_6 = 0 → ((v2_3 ≤ (99 : Int32) → PX5_here b_text b_textLength b_at_4 (fun r50_9 => (∀ v2_10 : Int32, v2_10 = ((((10 : Int32) * v2_3) + r50_9) - (48 : Int32)) → (∀ f_at_11 : Int32, f_at_11 = (b_at_4 + (1 : Int32)) → PX5_readNumber_L1 b_text b_textLength kx_1 n_1 v2_10 f_at_11)))) ∧ (¬ v2_3 ≤ (99 : Int32) → (∀ f_at_12 : Int32, f_at_12 = (b_at_4 + (1 : Int32)) → PX5_readNumber_L1 b_text b_textLength kx_1 n_1 v2_3 f_at_12)))))))
def PX5_readNumber (b_text : Nat → Int32) (b_textLength : Int32) (b_at : Int32) (b_told : Int32)  (k : Int32 → Int32 → Prop) : Prop := (∀ f_at_1 : Int32, f_at_1 = (b_at + (1 : Int32)) → PX5_skip b_text b_textLength f_at_1  (fun b_at_2 => (∃ n_1, PX5_readNumber_L1 b_text b_textLength (fun v2_3 b_at_4 => ((¬ b_at_4 = b_at_2 → (vp_in b_at_2 160 ∧ (((b_text (Int32.toNatClampNeg b_at_2)) = (48 : Int32) → (k (0 : Int32) b_at_2)) ∧ (¬ (b_text (Int32.toNatClampNeg b_at_2)) = (48 : Int32) → PX5_in v2_3 (1 : Int32) (12 : Int32) (fun r96_16 => ((r96_16 = 0 → (k (0 : Int32) b_at_2)) ∧ (¬ r96_16 = 0 → (((b_told + v2_3) ≤ (12 : Int32) → PX5_skip b_text b_textLength b_at_4  (fun b_at_19 => PX5_here b_text b_textLength b_at_19 (fun r125_20 => ((r125_20 = (41 : Int32) → (∀ f_at_22 : Int32, f_at_22 = (b_at_19 + (1 : Int32)) → PX5_skip b_text b_textLength f_at_22  (fun b_at_23 => PX5_isColor b_text b_textLength b_at_23 (fun r150_24 => ((r150_24 = 0 → (k (0 : Int32) b_at_23)) ∧ (¬ r150_24 = 0 → (k v2_3 b_at_23))))))) ∧ (¬ r125_20 = (41 : Int32) → (k (0 : Int32) b_at_19)))))) ∧ (¬ (b_told + v2_3) ≤ (12 : Int32) → (k (0 : Int32) b_at_2)))))))))) ∧ (b_at_4 = b_at_2 → (k (0 : Int32) b_at_4)))) n_1 (0 : Int32) b_at_2)))
def PX5_readPart (b_text : Nat → Int32) (b_textLength : Int32) (b_at : Int32) (b_read : Nat → Int32) (b_columns : Int32) (b_told : Int32)  (k : Int32 → Int32 → (Nat → Int32) → Int32 → Int32 → Prop) : Prop := PX5_here b_text b_textLength b_at (fun r1_1 => ((¬ r1_1 = (59 : Int32) → PX5_here b_text b_textLength b_at (fun r50_3 => ((¬ r50_3 = (40 : Int32) → PX5_isColor b_text b_textLength b_at (fun r83_5 => ((r83_5 = 0 → (k (0 : Int32) b_at b_read b_columns b_told)) ∧ (¬ r83_5 = 0 → (((12 : Int32) ≤ b_told → (k (0 : Int32) b_at b_read b_columns b_told)) ∧ (¬ (12 : Int32) ≤ b_told → PX5_takeColor b_text b_textLength b_at b_read b_columns b_told (1 : Int32) (fun b_at_11 b_read_12 b_told_13 => (k (1 : Int32) b_at_11 b_read_12 b_columns b_told_13)))))))) ∧ (r50_3 = (40 : Int32) → PX5_readNumber b_text b_textLength b_at b_told  (fun r59_15 b_at_14 => ((r59_15 ≤ 0 → ((r59_15 ≤ 0 → (k (0 : Int32) b_at_14 b_read b_columns b_told)) ∧ (¬ r59_15 ≤ 0 → (k (1 : Int32) b_at_14 b_read b_columns b_told)))) ∧ (¬ r59_15 ≤ 0 → PX5_takeColor b_text b_textLength b_at_14 b_read b_columns b_told r59_15 (fun b_at_18 b_read_19 b_told_20 => ((r59_15 ≤ 0 → (k (0 : Int32) b_at_18 b_read_19 b_columns b_told_20)) ∧ (¬ r59_15 ≤ 0 → (k (1 : Int32) b_at_18 b_read_19 b_columns b_told_20))))))))))) ∧ (r1_1 = (59 : Int32) → ((¬ (b_columns + (1 : Int32)) = (40 : Int32) → (∀ f_at_23 : Int32, f_at_23 = (b_at + (1 : Int32)) → (∀ f_columns_24 : Int32, f_columns_24 = (b_columns + (1 : Int32)) → (k (1 : Int32) f_at_23 b_read f_columns_24 (0 : Int32))))) ∧ ((b_columns + (1 : Int32)) = (40 : Int32) → (k (0 : Int32) b_at b_read b_columns b_told))))))
def PX5_readText_L1  (kx_1 : Int32 → (Nat → Int32) → Prop) : Nat → Int32 → (Nat → Int32) → Prop
  | 0, _, _ => False
  | n_1 + 1, v1_1, b_read_2 => (((80 : Int32) ≤ v1_1 → kx_1 v1_1 b_read_2) ∧ (¬ (80 : Int32) ≤ v1_1 → (vp_in v1_1 80 ∧ (∀ b_read_5 : Nat → Int32, b_read_5 = upd b_read_2 (Int32.toNatClampNeg v1_1) (0 : Int32) → (∀ v1_6 : Int32, v1_6 = v1_1 + (1 : Int32) → PX5_readText_L1  kx_1 n_1 v1_6 b_read_5)))))
def PX5_readText_L2 (b_text : Nat → Int32) (b_textLength : Int32) (kx_2 : Int32 → Int32 → (Nat → Int32) → Int32 → Int32 → Prop) : Nat → Int32 → Int32 → (Nat → Int32) → Int32 → Int32 → Prop
  | 0, _, _, _, _, _ => False
  | n_2 + 1, v1_8, b_at_9, b_read_10, b_columns_11, b_told_12 => ((v1_8 = 0 → kx_2 v1_8 b_at_9 b_read_10 b_columns_11 b_told_12) ∧ (¬ v1_8 = 0 → ((b_textLength ≤ b_at_9 → kx_2 v1_8 b_at_9 b_read_10 b_columns_11 b_told_12) ∧ (¬ b_textLength ≤ b_at_9 → PX5_readPart b_text b_textLength b_at_9 b_read_10 b_columns_11 b_told_12  (fun r58_19 b_at_15 b_read_16 b_columns_17 b_told_18 => ((r58_19 = 0 → PX5_readText_L2 b_text b_textLength kx_2 n_2 r58_19 b_at_15 b_read_16 b_columns_17 b_told_18) ∧ (¬ r58_19 = 0 → PX5_skip b_text b_textLength b_at_15  (fun b_at_21 => PX5_readText_L2 b_text b_textLength kx_2 n_2 r58_19 b_at_21 b_read_16 b_columns_17 b_told_18))))))))
def PX5_readText (b_text : Nat → Int32) (b_textLength : Int32) (b_at : Int32) (b_read : Nat → Int32) (b_columns : Int32) (b_told : Int32)  (k : Int32 → Int32 → (Nat → Int32) → Int32 → Int32 → Prop) : Prop := (∃ n_1, PX5_readText_L1  (fun v1_1 b_read_2 => PX5_skip b_text b_textLength (0 : Int32)  (fun b_at_7 => (∃ n_2, PX5_readText_L2 b_text b_textLength (fun v1_8 b_at_9 b_read_10 b_columns_11 b_told_12 => ((v1_8 = 0 ∨ v1_8 = 1) ∧ k v1_8 b_at_9 b_read_10 b_columns_11 b_told_12)) n_2 (1 : Int32) b_at_7 b_read_2 (0 : Int32) (0 : Int32)))) n_1 (0 : Int32) b_read)
def PX5_load_L1 (a_1 : Int32) (b_read_4 : Nat → Int32) (kx_1 : Int32 → (Nat → Int32) → Prop) : Nat → Int32 → (Nat → Int32) → Prop
  | 0, _, _ => False
  | n_1 + 1, v2_15, b_m_16 => (((80 : Int32) ≤ v2_15 → kx_1 v2_15 b_m_16) ∧ (¬ (80 : Int32) ≤ v2_15 → (vp_in v2_15 80 ∧ (vp_in (((28 : Int32) + ((80 : Int32) * a_1)) + v2_15) 348 ∧ (∀ b_m_20 : Nat → Int32, b_m_20 = upd b_m_16 (Int32.toNatClampNeg (((28 : Int32) + ((80 : Int32) * a_1)) + v2_15)) (b_read_4 (Int32.toNatClampNeg v2_15)) → (∀ v2_21 : Int32, v2_21 = v2_15 + (1 : Int32) → PX5_load_L1 a_1 b_read_4 kx_1 n_1 v2_21 b_m_20))))))
def PX5_load (b_m : Nat → Int32) (b_written : Nat → Int32) (b_states : Nat → Int32) (b_fifth : Nat → Int32) (b_oldest : Int32) (b_stateCount : Int32) (b_text : Nat → Int32) (b_textLength : Int32) (b_at : Int32) (b_read : Nat → Int32) (b_columns : Int32) (b_told : Int32) (a_1 : Int32) (k : Int32 → (Nat → Int32) → (Nat → Int32) → (Nat → Int32) → Int32 → Int32 → Int32 → Int32 → (Nat → Int32) → Int32 → Int32 → Prop) : Prop := PX5_isPicture b_m a_1 (fun r2_1 => ((¬ r2_1 = 0 → PX5_readText b_text b_textLength b_at b_read b_columns b_told  (fun r12_7 b_at_3 b_read_4 b_columns_5 b_told_6 => ((¬ r12_7 = 0 → PX5_record b_m b_written b_states b_fifth b_oldest b_stateCount  (fun b_states_9 b_fifth_10 b_oldest_11 b_stateCount_12 => (vp_in (((12 : Int32) + ((4 : Int32) * a_1)) + (0 : Int32)) 348 ∧ (∀ b_m_14 : Nat → Int32, b_m_14 = upd b_m (Int32.toNatClampNeg (((12 : Int32) + ((4 : Int32) * a_1)) + (0 : Int32))) (b_columns_5 + (1 : Int32)) → (∃ n_1, PX5_load_L1 a_1 b_read_4 (fun v2_15 b_m_16 => (k (b_columns_5 + (1 : Int32)) b_m_16 b_states_9 b_fifth_10 b_oldest_11 b_stateCount_12 (0 : Int32) b_at_3 b_read_4 b_columns_5 b_told_6)) n_1 (0 : Int32) b_m_14))))) ∧ (r12_7 = 0 → (k ((-1000 : Int32) - b_at_3) b_m b_states b_fifth b_oldest b_stateCount b_textLength b_at_3 b_read_4 b_columns_5 b_told_6))))) ∧ (r2_1 = 0 → (k (-101 : Int32) b_m b_states b_fifth b_oldest b_stateCount b_textLength b_at b_read b_columns b_told))))
theorem hdX5_paint : yX5_paint.cls = RX5 ∧ yX5_paint.cls ≠ "java/lang/invoke/MethodHandle" ∧ yX5_paint.cls ≠ "java/lang/invoke/VarHandle" ∧ (parseMethodDescriptor yX5_paint.desc).map (fun d => d.parameters.length) = some 4 := by decide +kernel
set_option maxHeartbeats 4000000 in
set_option maxRecDepth 100000 in
theorem kX5_paint (l : Launch) (g : GG) (q : Nat → Nat) (sz : Nat) (b_m : Nat → Int32) (b_written : Nat → Int32) (b_spare : Nat → Int32) (b_spareWritten : Nat → Int32) (b_states : Nat → Int32) (b_fifth : Nat → Int32) (b_oldest : Int32) (b_stateCount : Int32) (b_text : Nat → Int32) (b_textLength : Int32) (b_at : Int32) (b_read : Nat → Int32) (b_columns : Int32) (b_told : Int32) (b_wants : Nat → Int32) (b_comes : Nat → Int32) (a_1 : Int32) (a_2 : Int32) (a_3 : Int32) (a_4 : Int32) (k : Int32 → (Nat → Int32) → (Nat → Int32) → (Nat → Int32) → Int32 → Int32 → Prop) (h : PX5_paint b_m b_written b_states b_fifth b_oldest b_stateCount a_1 a_2 a_3 a_4 k) : Met l yX5_paint wsX5_paint ({ frames := 2, cells := 0, slots := 0, locals := 48 }) (PreM g [.ref (q 0), .int a_1, .int a_2, .int a_3, .int a_4] (wM g q b_m b_written b_spare b_spareWritten b_states b_fifth b_oldest b_stateCount b_text b_textLength b_at b_read b_columns b_told b_wants b_comes) sz) (va_Qi (fun (r : Int32) (u : (Nat → Int32) × (Nat → Int32) × (Nat → Int32) × Int32 × Int32) => k r u.1 u.2.1 u.2.2.1 u.2.2.2.1 u.2.2.2.2) (fun u t => PostB g (va_A (wM g q b_m b_written b_spare b_spareWritten b_states b_fifth b_oldest b_stateCount b_text b_textLength b_at b_read b_columns b_told b_wants b_comes) sz) (wM g q u.1 b_written b_spare b_spareWritten u.2.1 u.2.2.1 u.2.2.2.1 u.2.2.2.2 b_text b_textLength b_at b_read b_columns b_told b_wants b_comes) t) (va_A (wM g q b_m b_written b_spare b_spareWritten b_states b_fifth b_oldest b_stateCount b_text b_textLength b_at b_read b_columns b_told b_wants b_comes) sz)) 0 0 (va_A (wM g q b_m b_written b_spare b_spareWritten b_states b_fifth b_oldest b_stateCount b_text b_textLength b_at b_read b_columns b_told b_wants b_comes) sz) := by
  refine Met.ofW (cc := cX5_paint) (maxL := 6) (ret := (some .int)) (by decide) rfl ?_
  intro p e s m args below meth c s₁ B hml hv
  obtain ⟨rfl, hsz, hP, hK, hD0⟩ := hv
  have hx := B.exec
  have hb := B.bytes
  have hr := B.returns
  have hts := atoms_spec (ws := wsX5_paint) B.pre
  have hown : s.vm.findClass RX5 = some m.cls := findClass_of_methodNamed B.named
  have hlocks := B.notSynchronized
  subst hsz
  have hD := hD0.self (sz := s.heap.size)
  generalize hAe : va_A (wM g q b_m b_written b_spare b_spareWritten b_states b_fifth b_oldest b_stateCount b_text b_textLength b_at b_read b_columns b_told b_wants b_comes) s.heap.size = A at hD ⊢
  have hA : ∀ q : Nat, s.heap.size ≤ q → A q := fun q h => by rw [← hAe]; exact Or.inr h
  clear hAe hD0
  have hS : va_S A s.heap s.heap [] := va_S.rf
  have hl := lv_entry ([.ref (q 0), .int a_1, .int a_2, .int a_3, .int a_4]) (n := 6) (Nat.le_of_ble_eq_true rfl)
  rw [lg_entry_eq]
  generalize (lg_sl ([.ref (q 0), .int a_1, .int a_2, .int a_3, .int a_4]) ++ List.replicate (6 - (lg_sl ([.ref (q 0), .int a_1, .int a_2, .int a_3, .int a_4])).length) Slot.unset).toArray = ls at hl ⊢
  have hl : lv_has ls 6 [(0, .ref (q 0)), (1, .int a_1), (2, .int a_2), (3, .int a_3), (4, .int a_4)] := hl
  unfold PX5_paint at h
  obtain ⟨H, hHe⟩ : ∃ y, y = s.heap := ⟨_, rfl⟩
  rw [← hHe] at hP
  have hS : va_S A s.heap H [] := by rw [hHe]; exact hS
  have hW0 : ∀ (Q : State → Prop), W p l e (headSpec wsX5_paint ({ frames := 2, cells := 0, slots := 0, locals := 48 })).room s m ([.ref (q 0), .int a_1, .int a_2, .int a_3, .int a_4] : List Value).toArray below meth c H [] 0 0 Q (F0 m 0 ls []) → W p l e (headSpec wsX5_paint ({ frames := 2, cells := 0, slots := 0, locals := 48 })).room s m ([.ref (q 0), .int a_1, .int a_2, .int a_3, .int a_4] : List Value).toArray below meth c s.heap [] 0 0 Q (F0 m 0 ls []) := by rw [hHe]; exact fun _ h9 => h9
  refine hW0 _ ?_
  clear hW0 hHe
  generalize ([] : List Loc) = locs at hS ⊢
  refine lv_aload_n hx hb dX5_paint_0 rfl (lv_at hl 0 rfl) ?_
  refine lv_iload_n hx hb dX5_paint_1 rfl (lv_at hl 1 rfl) ?_
  refine vp_callSi (W.runV (As := [.int a_1]) (rest := []) ⟨hx, hb, hml, hown, hts⟩ (kX5_isPicture l g q b_m b_written b_spare b_spareWritten b_states b_fifth b_oldest b_stateCount b_text b_textLength b_at b_read b_columns b_told b_wants b_comes a_1 _ h) (cwV 1 hts gX5_paint_X5_isPicture rfl rfl rfl hdX5_isPicture ⟨(Nat.le_of_ble_eq_true rfl), (Nat.le_of_ble_eq_true rfl)⟩) (preV_R (r := (RX5, TX5, 16)) hK hP (ci := 5) (q0 := 0) rfl rfl) rfl rfl hl.1 rfl (lv_room (Nat.le_of_ble_eq_true rfl)) dX5_paint_2 ⟨(Nat.le_of_ble_eq_true rfl), (Nat.le_of_ble_eq_true rfl)⟩) (fun r2_1 h => ?_)
  refine lv_if_eq (tgt := 42) hx hb dX5_paint_5 (by decide) (fun c_5_1 => ?_) (fun c_5_1 => ?_)
  · replace h := h.1 c_5_1
    refine lv_bipush (v := (-101 : Int32)) hx hb dX5_paint_42 (by decide) ?_
    exact W.iret hx hb hr (fun t ht hW => ⟨⟨(-101 : Int32), (b_m, b_states, b_fifth, b_oldest, b_stateCount), rfl, h, by rw [ht]; exact hP, hD⟩, hS.F ht⟩) hS.2.2 dX5_paint_44
  · replace h := h.2 c_5_1
    refine lv_iload_n hx hb dX5_paint_8 rfl (lv_at hl 2 rfl) ?_
    refine lv_iconst (v := (0 : Int32)) hx hb dX5_paint_9 (by decide) ?_
    refine lv_aload_n hx hb dX5_paint_10 rfl (lv_at hl 0 rfl) ?_
    refine lv_iload_n hx hb dX5_paint_11 rfl (lv_at hl 1 rfl) ?_
    refine lv_iconst (v := (0 : Int32)) hx hb dX5_paint_12 (by decide) ?_
    refine vp_callSi (W.runV (As := [.int a_1, .int (0 : Int32)]) (rest := [.int (0 : Int32), .int a_2]) ⟨hx, hb, hml, hown, hts⟩ (kX5_of l g q b_m b_written b_spare b_spareWritten b_states b_fifth b_oldest b_stateCount b_text b_textLength b_at b_read b_columns b_told b_wants b_comes a_1 (0 : Int32) _ h) (cwV 2 hts gX5_paint_X5_of rfl rfl rfl hdX5_of ⟨(Nat.le_of_ble_eq_true rfl), (Nat.le_of_ble_eq_true rfl)⟩) (preV_R (r := (RX5, TX5, 16)) hK hP (ci := 5) (q0 := 0) rfl rfl) rfl rfl hl.1 rfl (lv_room (Nat.le_of_ble_eq_true rfl)) dX5_paint_13 ⟨(Nat.le_of_ble_eq_true rfl), (Nat.le_of_ble_eq_true rfl)⟩) (fun r13_3 h => ?_)
    refine lv_iconst (v := (1 : Int32)) hx hb dX5_paint_16 (by decide) ?_
    refine lv_isub hx hb dX5_paint_17 ?_
    refine vp_callSi (W.runS (As := [.int a_2, .int (0 : Int32), .int (r13_3 - (1 : Int32))]) (rest := []) ⟨hx, hb, hml, hown, hts⟩ (kX5_in l g  a_2 (0 : Int32) (r13_3 - (1 : Int32)) _ h) (va_cwS 3 hts gX5_paint_X5_in rfl rfl rfl hdX5_in.2 ⟨(Nat.le_of_ble_eq_true rfl), (Nat.le_of_ble_eq_true rfl)⟩) (preS_R hK (va_P_nil (D := g.1) (cl := vwCl))) rfl rfl hl.1 rfl (lv_room (Nat.le_of_ble_eq_true rfl)) dX5_paint_18 ⟨(Nat.le_of_ble_eq_true rfl), (Nat.le_of_ble_eq_true rfl)⟩) (fun r18_4 h => ?_)
    refine lv_if_eq (tgt := 42) hx hb dX5_paint_21 (by decide) (fun c_21_4 => ?_) (fun c_21_4 => ?_)
    · replace h := h.1 c_21_4
      refine lv_bipush (v := (-101 : Int32)) hx hb dX5_paint_42 (by decide) ?_
      exact W.iret hx hb hr (fun t ht hW => ⟨⟨(-101 : Int32), (b_m, b_states, b_fifth, b_oldest, b_stateCount), rfl, h, by rw [ht]; exact hP, hD⟩, hS.F ht⟩) hS.2.2 dX5_paint_44
    · replace h := h.2 c_21_4
      refine lv_iload_n hx hb dX5_paint_24 rfl (lv_at hl 3 rfl) ?_
      refine vp_callSi (W.runS (As := [.int a_3]) (rest := []) ⟨hx, hb, hml, hown, hts⟩ (kX5_isLight l g  a_3 _ h) (va_cwS 1 hts gX5_paint_X5_isLight rfl rfl rfl hdX5_isLight.2 ⟨(Nat.le_of_ble_eq_true rfl), (Nat.le_of_ble_eq_true rfl)⟩) (preS_R hK (va_P_nil (D := g.1) (cl := vwCl))) rfl rfl hl.1 rfl (lv_room (Nat.le_of_ble_eq_true rfl)) dX5_paint_25 ⟨(Nat.le_of_ble_eq_true rfl), (Nat.le_of_ble_eq_true rfl)⟩) (fun r25_6 h => ?_)
      refine lv_if_eq (tgt := 42) hx hb dX5_paint_28 (by decide) (fun c_28_6 => ?_) (fun c_28_6 => ?_)
      · replace h := h.1 c_28_6
        refine lv_bipush (v := (-101 : Int32)) hx hb dX5_paint_42 (by decide) ?_
        exact W.iret hx hb hr (fun t ht hW => ⟨⟨(-101 : Int32), (b_m, b_states, b_fifth, b_oldest, b_stateCount), rfl, h, by rw [ht]; exact hP, hD⟩, hS.F ht⟩) hS.2.2 dX5_paint_44
      · replace h := h.2 c_28_6
        refine lv_iload hx hb dX5_paint_31 (lv_at hl 4 rfl) ?_
        refine lv_iconst (v := (0 : Int32)) hx hb dX5_paint_33 (by decide) ?_
        refine lv_bipush (v := (7 : Int32)) hx hb dX5_paint_34 (by decide) ?_
        refine vp_callSi (W.runS (As := [.int a_4, .int (0 : Int32), .int (7 : Int32)]) (rest := []) ⟨hx, hb, hml, hown, hts⟩ (kX5_in l g  a_4 (0 : Int32) (7 : Int32) _ h) (va_cwS 3 hts gX5_paint_X5_in rfl rfl rfl hdX5_in.2 ⟨(Nat.le_of_ble_eq_true rfl), (Nat.le_of_ble_eq_true rfl)⟩) (preS_R hK (va_P_nil (D := g.1) (cl := vwCl))) rfl rfl hl.1 rfl (lv_room (Nat.le_of_ble_eq_true rfl)) dX5_paint_36 ⟨(Nat.le_of_ble_eq_true rfl), (Nat.le_of_ble_eq_true rfl)⟩) (fun r36_8 h => ?_)
        refine lv_if_ne (tgt := 45) hx hb dX5_paint_39 (by decide) (fun c_39_8 => ?_) (fun c_39_8 => ?_)
        · replace h := h.1 c_39_8
          refine lv_aload_n hx hb dX5_paint_45 rfl (lv_at hl 0 rfl) ?_
          have hFc := va_freeA hD hS hA
          refine va_callv (va_runV (As := []) (rest := []) ⟨hx, hb, hml, hown, hts⟩ (kX5_record l g q H.size b_m b_written b_spare b_spareWritten b_states b_fifth b_oldest b_stateCount b_text b_textLength b_at b_read b_columns b_told b_wants b_comes _ h) (cwV 0 hts gX5_paint_X5_record rfl rfl rfl hdX5_record ⟨(Nat.le_of_ble_eq_true rfl), (Nat.le_of_ble_eq_true rfl)⟩) (preV_M (r := (RX5, TX5, 16)) hK hP hD (ci := 5) (q0 := 0) rfl rfl) rfl rfl hl.1 rfl (lv_room (Nat.le_of_ble_eq_true rfl)) dX5_paint_46 ⟨(Nat.le_of_ble_eq_true rfl), (Nat.le_of_ble_eq_true rfl)⟩) hS (fun q _ h9 => hFc q h9) hFc (fun u t H1 locs ht hvm hw hB hz1 hk1 hS => ?_)
          obtain ⟨b_states_10, b_fifth_11, b_oldest_12, b_stateCount_13⟩ := u
          replace h := hw
          try dsimp only at h
          obtain ⟨hP, hD⟩ := jn0 (wf := (wM g q b_m b_written b_spare b_spareWritten b_states_10 b_fifth_11 b_oldest_12 b_stateCount_13 b_text b_textLength b_at b_read b_columns b_told b_wants b_comes)) hB ht hFc
          have hP : va_P g.1 vwCl (wM g q b_m b_written b_spare b_spareWritten b_states_10 b_fifth_11 b_oldest_12 b_stateCount_13 b_text b_textLength b_at b_read b_columns b_told b_wants b_comes) H1 := hP
          have hD : va_D A (wM g q b_m b_written b_spare b_spareWritten b_states_10 b_fifth_11 b_oldest_12 b_stateCount_13 b_text b_textLength b_at b_read b_columns b_told b_wants b_comes) := hD
          clear hk1 hz1 hB ht hw hFc
          generalize H1 = H at hP hS ⊢
          refine lv_aload_n hx hb dX5_paint_49 rfl (lv_at hl 0 rfl) ?_
          refine lv_iload_n hx hb dX5_paint_50 rfl (lv_at hl 1 rfl) ?_
          refine lv_iload_n hx hb dX5_paint_51 rfl (lv_at hl 2 rfl) ?_
          refine lv_iload_n hx hb dX5_paint_52 rfl (lv_at hl 3 rfl) ?_
          refine vp_callSi (W.runV (As := [.int a_1, .int a_2, .int a_3]) (rest := []) ⟨hx, hb, hml, hown, hts⟩ (kX5_colorOf l g q b_m b_written b_spare b_spareWritten b_states_10 b_fifth_11 b_oldest_12 b_stateCount_13 b_text b_textLength b_at b_read b_columns b_told b_wants b_comes a_1 a_2 a_3 _ h) (cwV 3 hts gX5_paint_X5_colorOf rfl rfl rfl hdX5_colorOf ⟨(Nat.le_of_ble_eq_true rfl), (Nat.le_of_ble_eq_true rfl)⟩) (preV_R (r := (RX5, TX5, 16)) hK hP (ci := 5) (q0 := 0) rfl rfl) rfl rfl hl.1 rfl (lv_room (Nat.le_of_ble_eq_true rfl)) dX5_paint_53 ⟨(Nat.le_of_ble_eq_true rfl), (Nat.le_of_ble_eq_true rfl)⟩) (fun r53_14 h => ?_)
          refine lv_istore (lv' := [(5, .int r53_14), (0, .ref (q 0)), (1, .int a_1), (2, .int a_2), (3, .int a_3), (4, .int a_4)]) hx hb dX5_paint_56 hl (by decide) rfl (fun ls hl => ?_)
          refine lv_aload_n hx hb dX5_paint_58 rfl (lv_at hl 1 rfl) ?_
          refine lv_iload_n hx hb dX5_paint_59 rfl (lv_at hl 2 rfl) ?_
          refine lv_iload_n hx hb dX5_paint_60 rfl (lv_at hl 3 rfl) ?_
          refine lv_iload_n hx hb dX5_paint_61 rfl (lv_at hl 4 rfl) ?_
          refine lv_iload hx hb dX5_paint_62 (lv_at hl 5 rfl) ?_
          have hFc := va_freeA hD hS hA
          refine va_callv (va_runV (As := [.int a_1, .int a_2, .int a_3, .int a_4]) (rest := []) ⟨hx, hb, hml, hown, hts⟩ (kX5_putColor l g q H.size b_m b_written b_spare b_spareWritten b_states_10 b_fifth_11 b_oldest_12 b_stateCount_13 b_text b_textLength b_at b_read b_columns b_told b_wants b_comes a_1 a_2 a_3 a_4 _ h) (cwV 4 hts gX5_paint_X5_putColor rfl rfl rfl hdX5_putColor ⟨(Nat.le_of_ble_eq_true rfl), (Nat.le_of_ble_eq_true rfl)⟩) (preV_M (r := (RX5, TX5, 16)) hK hP hD (ci := 5) (q0 := 0) rfl rfl) rfl rfl hl.1 rfl (lv_room (Nat.le_of_ble_eq_true rfl)) dX5_paint_64 ⟨(Nat.le_of_ble_eq_true rfl), (Nat.le_of_ble_eq_true rfl)⟩) hS (fun q _ h9 => hFc q h9) hFc (fun u t H1 locs ht hvm hw hB hz1 hk1 hS => ?_)
          obtain ⟨b_m_15, ez9⟩ : ∃ y, y = u := ⟨_, rfl⟩
          subst ez9
          replace h := hw
          try dsimp only at h
          obtain ⟨hP, hD⟩ := jn0 (wf := (wM g q b_m_15 b_written b_spare b_spareWritten b_states_10 b_fifth_11 b_oldest_12 b_stateCount_13 b_text b_textLength b_at b_read b_columns b_told b_wants b_comes)) hB ht hFc
          have hP : va_P g.1 vwCl (wM g q b_m_15 b_written b_spare b_spareWritten b_states_10 b_fifth_11 b_oldest_12 b_stateCount_13 b_text b_textLength b_at b_read b_columns b_told b_wants b_comes) H1 := hP
          have hD : va_D A (wM g q b_m_15 b_written b_spare b_spareWritten b_states_10 b_fifth_11 b_oldest_12 b_stateCount_13 b_text b_textLength b_at b_read b_columns b_told b_wants b_comes) := hD
          clear hk1 hz1 hB ht hw hFc
          generalize H1 = H at hP hS ⊢
          refine lv_iload hx hb dX5_paint_67 (lv_at hl 0 rfl) ?_
          exact W.iret hx hb hr (fun t ht hW => ⟨⟨r53_14, (b_m_15, b_states_10, b_fifth_11, b_oldest_12, b_stateCount_13), rfl, h, by rw [ht]; exact hP, hD⟩, hS.F ht⟩) hS.2.2 dX5_paint_69
        · replace h := h.2 c_39_8
          refine lv_bipush (v := (-101 : Int32)) hx hb dX5_paint_42 (by decide) ?_
          exact W.iret hx hb hr (fun t ht hW => ⟨⟨(-101 : Int32), (b_m, b_states, b_fifth, b_oldest, b_stateCount), rfl, h, by rw [ht]; exact hP, hD⟩, hS.F ht⟩) hS.2.2 dX5_paint_44
theorem hdX5_setPlace : yX5_setPlace.cls = RX5 ∧ yX5_setPlace.cls ≠ "java/lang/invoke/MethodHandle" ∧ yX5_setPlace.cls ≠ "java/lang/invoke/VarHandle" ∧ (parseMethodDescriptor yX5_setPlace.desc).map (fun d => d.parameters.length) = some 3 := by decide +kernel
set_option maxHeartbeats 4000000 in
set_option maxRecDepth 100000 in
theorem kX5_setPlace (l : Launch) (g : GG) (q : Nat → Nat) (sz : Nat) (b_m : Nat → Int32) (b_written : Nat → Int32) (b_spare : Nat → Int32) (b_spareWritten : Nat → Int32) (b_states : Nat → Int32) (b_fifth : Nat → Int32) (b_oldest : Int32) (b_stateCount : Int32) (b_text : Nat → Int32) (b_textLength : Int32) (b_at : Int32) (b_read : Nat → Int32) (b_columns : Int32) (b_told : Int32) (b_wants : Nat → Int32) (b_comes : Nat → Int32) (a_1 : Int32) (a_2 : Int32) (a_3 : Int32) (k : Int32 → (Nat → Int32) → (Nat → Int32) → (Nat → Int32) → Int32 → Int32 → Prop) (h : PX5_setPlace b_m b_written b_states b_fifth b_oldest b_stateCount a_1 a_2 a_3 k) : Met l yX5_setPlace wsX5_setPlace ({ frames := 2, cells := 0, slots := 0, locals := 45 }) (PreM g [.ref (q 0), .int a_1, .int a_2, .int a_3] (wM g q b_m b_written b_spare b_spareWritten b_states b_fifth b_oldest b_stateCount b_text b_textLength b_at b_read b_columns b_told b_wants b_comes) sz) (va_Qi (fun (r : Int32) (u : (Nat → Int32) × (Nat → Int32) × (Nat → Int32) × Int32 × Int32) => k r u.1 u.2.1 u.2.2.1 u.2.2.2.1 u.2.2.2.2) (fun u t => PostB g (va_A (wM g q b_m b_written b_spare b_spareWritten b_states b_fifth b_oldest b_stateCount b_text b_textLength b_at b_read b_columns b_told b_wants b_comes) sz) (wM g q u.1 b_written b_spare b_spareWritten u.2.1 u.2.2.1 u.2.2.2.1 u.2.2.2.2 b_text b_textLength b_at b_read b_columns b_told b_wants b_comes) t) (va_A (wM g q b_m b_written b_spare b_spareWritten b_states b_fifth b_oldest b_stateCount b_text b_textLength b_at b_read b_columns b_told b_wants b_comes) sz)) 0 0 (va_A (wM g q b_m b_written b_spare b_spareWritten b_states b_fifth b_oldest b_stateCount b_text b_textLength b_at b_read b_columns b_told b_wants b_comes) sz) := by
  refine Met.ofW (cc := cX5_setPlace) (maxL := 5) (ret := (some .int)) (by decide) rfl ?_
  intro p e s m args below meth c s₁ B hml hv
  obtain ⟨rfl, hsz, hP, hK, hD0⟩ := hv
  have hx := B.exec
  have hb := B.bytes
  have hr := B.returns
  have hts := atoms_spec (ws := wsX5_setPlace) B.pre
  have hown : s.vm.findClass RX5 = some m.cls := findClass_of_methodNamed B.named
  have hlocks := B.notSynchronized
  have iX5 : ∀ w ∈ wsX50, w ∈ wsX5_setPlace := by decide +kernel
  subst hsz
  have hD := hD0.self (sz := s.heap.size)
  generalize hAe : va_A (wM g q b_m b_written b_spare b_spareWritten b_states b_fifth b_oldest b_stateCount b_text b_textLength b_at b_read b_columns b_told b_wants b_comes) s.heap.size = A at hD ⊢
  have hA : ∀ q : Nat, s.heap.size ≤ q → A q := fun q h => by rw [← hAe]; exact Or.inr h
  clear hAe hD0
  have hS : va_S A s.heap s.heap [] := va_S.rf
  have hl := lv_entry ([.ref (q 0), .int a_1, .int a_2, .int a_3]) (n := 5) (Nat.le_of_ble_eq_true rfl)
  rw [lg_entry_eq]
  generalize (lg_sl ([.ref (q 0), .int a_1, .int a_2, .int a_3]) ++ List.replicate (5 - (lg_sl ([.ref (q 0), .int a_1, .int a_2, .int a_3])).length) Slot.unset).toArray = ls at hl ⊢
  have hl : lv_has ls 5 [(0, .ref (q 0)), (1, .int a_1), (2, .int a_2), (3, .int a_3)] := hl
  unfold PX5_setPlace at h
  obtain ⟨H, hHe⟩ : ∃ y, y = s.heap := ⟨_, rfl⟩
  rw [← hHe] at hP
  have hS : va_S A s.heap H [] := by rw [hHe]; exact hS
  have hW0 : ∀ (Q : State → Prop), W p l e (headSpec wsX5_setPlace ({ frames := 2, cells := 0, slots := 0, locals := 45 })).room s m ([.ref (q 0), .int a_1, .int a_2, .int a_3] : List Value).toArray below meth c H [] 0 0 Q (F0 m 0 ls []) → W p l e (headSpec wsX5_setPlace ({ frames := 2, cells := 0, slots := 0, locals := 45 })).room s m ([.ref (q 0), .int a_1, .int a_2, .int a_3] : List Value).toArray below meth c s.heap [] 0 0 Q (F0 m 0 ls []) := by rw [hHe]; exact fun _ h9 => h9
  refine hW0 _ ?_
  clear hW0 hHe
  generalize ([] : List Loc) = locs at hS ⊢
  refine lv_aload_n hx hb dX5_setPlace_0 rfl (lv_at hl 0 rfl) ?_
  refine lv_iload_n hx hb dX5_setPlace_1 rfl (lv_at hl 1 rfl) ?_
  refine vp_callSi (W.runV (As := [.int a_1]) (rest := []) ⟨hx, hb, hml, hown, hts⟩ (kX5_isPicture l g q b_m b_written b_spare b_spareWritten b_states b_fifth b_oldest b_stateCount b_text b_textLength b_at b_read b_columns b_told b_wants b_comes a_1 _ h) (cwV 1 hts gX5_setPlace_X5_isPicture rfl rfl rfl hdX5_isPicture ⟨(Nat.le_of_ble_eq_true rfl), (Nat.le_of_ble_eq_true rfl)⟩) (preV_R (r := (RX5, TX5, 16)) hK hP (ci := 5) (q0 := 0) rfl rfl) rfl rfl hl.1 rfl (lv_room (Nat.le_of_ble_eq_true rfl)) dX5_setPlace_2 ⟨(Nat.le_of_ble_eq_true rfl), (Nat.le_of_ble_eq_true rfl)⟩) (fun r2_1 h => ?_)
  refine lv_if_eq (tgt := 29) hx hb dX5_setPlace_5 (by decide) (fun c_5_1 => ?_) (fun c_5_1 => ?_)
  · replace h := h.1 c_5_1
    refine lv_bipush (v := (-101 : Int32)) hx hb dX5_setPlace_29 (by decide) ?_
    exact W.iret hx hb hr (fun t ht hW => ⟨⟨(-101 : Int32), (b_m, b_states, b_fifth, b_oldest, b_stateCount), rfl, h, by rw [ht]; exact hP, hD⟩, hS.F ht⟩) hS.2.2 dX5_setPlace_31
  · replace h := h.2 c_5_1
    refine lv_iload_n hx hb dX5_setPlace_8 rfl (lv_at hl 2 rfl) ?_
    refine lv_iconst (v := (0 : Int32)) hx hb dX5_setPlace_9 (by decide) ?_
    refine lv_sipush (v := (719 : Int32)) hx hb dX5_setPlace_10 (by decide) ?_
    refine vp_callSi (W.runS (As := [.int a_2, .int (0 : Int32), .int (719 : Int32)]) (rest := []) ⟨hx, hb, hml, hown, hts⟩ (kX5_in l g  a_2 (0 : Int32) (719 : Int32) _ h) (va_cwS 3 hts gX5_setPlace_X5_in rfl rfl rfl hdX5_in.2 ⟨(Nat.le_of_ble_eq_true rfl), (Nat.le_of_ble_eq_true rfl)⟩) (preS_R hK (va_P_nil (D := g.1) (cl := vwCl))) rfl rfl hl.1 rfl (lv_room (Nat.le_of_ble_eq_true rfl)) dX5_setPlace_13 ⟨(Nat.le_of_ble_eq_true rfl), (Nat.le_of_ble_eq_true rfl)⟩) (fun r13_3 h => ?_)
    refine lv_if_eq (tgt := 29) hx hb dX5_setPlace_16 (by decide) (fun c_16_3 => ?_) (fun c_16_3 => ?_)
    · replace h := h.1 c_16_3
      refine lv_bipush (v := (-101 : Int32)) hx hb dX5_setPlace_29 (by decide) ?_
      exact W.iret hx hb hr (fun t ht hW => ⟨⟨(-101 : Int32), (b_m, b_states, b_fifth, b_oldest, b_stateCount), rfl, h, by rw [ht]; exact hP, hD⟩, hS.F ht⟩) hS.2.2 dX5_setPlace_31
    · replace h := h.2 c_16_3
      refine lv_iload_n hx hb dX5_setPlace_19 rfl (lv_at hl 3 rfl) ?_
      refine lv_iconst (v := (1 : Int32)) hx hb dX5_setPlace_20 (by decide) ?_
      refine lv_bipush (v := (18 : Int32)) hx hb dX5_setPlace_21 (by decide) ?_
      refine vp_callSi (W.runS (As := [.int a_3, .int (1 : Int32), .int (18 : Int32)]) (rest := []) ⟨hx, hb, hml, hown, hts⟩ (kX5_in l g  a_3 (1 : Int32) (18 : Int32) _ h) (va_cwS 3 hts gX5_setPlace_X5_in rfl rfl rfl hdX5_in.2 ⟨(Nat.le_of_ble_eq_true rfl), (Nat.le_of_ble_eq_true rfl)⟩) (preS_R hK (va_P_nil (D := g.1) (cl := vwCl))) rfl rfl hl.1 rfl (lv_room (Nat.le_of_ble_eq_true rfl)) dX5_setPlace_23 ⟨(Nat.le_of_ble_eq_true rfl), (Nat.le_of_ble_eq_true rfl)⟩) (fun r23_5 h => ?_)
      refine lv_if_ne (tgt := 32) hx hb dX5_setPlace_26 (by decide) (fun c_26_5 => ?_) (fun c_26_5 => ?_)
      · replace h := h.1 c_26_5
        refine lv_aload_n hx hb dX5_setPlace_32 rfl (lv_at hl 0 rfl) ?_
        have hFc := va_freeA hD hS hA
        refine va_callv (va_runV (As := []) (rest := []) ⟨hx, hb, hml, hown, hts⟩ (kX5_record l g q H.size b_m b_written b_spare b_spareWritten b_states b_fifth b_oldest b_stateCount b_text b_textLength b_at b_read b_columns b_told b_wants b_comes _ h) (cwV 0 hts gX5_setPlace_X5_record rfl rfl rfl hdX5_record ⟨(Nat.le_of_ble_eq_true rfl), (Nat.le_of_ble_eq_true rfl)⟩) (preV_M (r := (RX5, TX5, 16)) hK hP hD (ci := 5) (q0 := 0) rfl rfl) rfl rfl hl.1 rfl (lv_room (Nat.le_of_ble_eq_true rfl)) dX5_setPlace_33 ⟨(Nat.le_of_ble_eq_true rfl), (Nat.le_of_ble_eq_true rfl)⟩) hS (fun q _ h9 => hFc q h9) hFc (fun u t H1 locs ht hvm hw hB hz1 hk1 hS => ?_)
        obtain ⟨b_states_7, b_fifth_8, b_oldest_9, b_stateCount_10⟩ := u
        replace h := hw
        try dsimp only at h
        obtain ⟨hP, hD⟩ := jn0 (wf := (wM g q b_m b_written b_spare b_spareWritten b_states_7 b_fifth_8 b_oldest_9 b_stateCount_10 b_text b_textLength b_at b_read b_columns b_told b_wants b_comes)) hB ht hFc
        have hP : va_P g.1 vwCl (wM g q b_m b_written b_spare b_spareWritten b_states_7 b_fifth_8 b_oldest_9 b_stateCount_10 b_text b_textLength b_at b_read b_columns b_told b_wants b_comes) H1 := hP
        have hD : va_D A (wM g q b_m b_written b_spare b_spareWritten b_states_7 b_fifth_8 b_oldest_9 b_stateCount_10 b_text b_textLength b_at b_read b_columns b_told b_wants b_comes) := hD
        clear hk1 hz1 hB ht hw hFc
        generalize H1 = H at hP hS ⊢
        refine lv_aload_n hx hb dX5_setPlace_36 rfl (lv_at hl 0 rfl) ?_
        refine lv_iload_n hx hb dX5_setPlace_37 rfl (lv_at hl 1 rfl) ?_
        refine lv_iconst (v := (1 : Int32)) hx hb dX5_setPlace_38 (by decide) ?_
        refine vp_callSi (W.runV (As := [.int a_1, .int (1 : Int32)]) (rest := []) ⟨hx, hb, hml, hown, hts⟩ (kX5_of l g q b_m b_written b_spare b_spareWritten b_states_7 b_fifth_8 b_oldest_9 b_stateCount_10 b_text b_textLength b_at b_read b_columns b_told b_wants b_comes a_1 (1 : Int32) _ h) (cwV 2 hts gX5_setPlace_X5_of rfl rfl rfl hdX5_of ⟨(Nat.le_of_ble_eq_true rfl), (Nat.le_of_ble_eq_true rfl)⟩) (preV_R (r := (RX5, TX5, 16)) hK hP (ci := 5) (q0 := 0) rfl rfl) rfl rfl hl.1 rfl (lv_room (Nat.le_of_ble_eq_true rfl)) dX5_setPlace_39 ⟨(Nat.le_of_ble_eq_true rfl), (Nat.le_of_ble_eq_true rfl)⟩) (fun r39_11 h => ?_)
        refine lv_istore (lv' := [(4, .int r39_11), (0, .ref (q 0)), (1, .int a_1), (2, .int a_2), (3, .int a_3)]) hx hb dX5_setPlace_42 hl (by decide) rfl (fun ls hl => ?_)
        refine lv_aload_n hx hb dX5_setPlace_44 rfl (lv_at hl 1 rfl) ?_
        refine va_get (D := g.1) (ci := 5) (v := .ref (q 1)) (C := RX5) (T := TX5) (N := 16) hx hb hts iX5 hown hK.1 hP 0 rfl rfl 0 (by decide) (hts (.fieldLink RX5 7 "LightWheelModel" "m" "[I") (by decide +kernel)) (fun _ h9 => h9) rfl dX5_setPlace_45 ?_
        refine lv_bipush (v := (12 : Int32)) hx hb dX5_setPlace_48 (by decide) ?_
        refine lv_iconst (v := (4 : Int32)) hx hb dX5_setPlace_50 (by decide) ?_
        refine lv_iload_n hx hb dX5_setPlace_51 rfl (lv_at hl 2 rfl) ?_
        refine lv_imul hx hb dX5_setPlace_52 ?_
        refine lv_iadd hx hb dX5_setPlace_53 ?_
        refine lv_iconst (v := (1 : Int32)) hx hb dX5_setPlace_54 (by decide) ?_
        refine lv_iadd hx hb dX5_setPlace_55 ?_
        refine lv_iload_n hx hb dX5_setPlace_56 rfl (lv_at hl 3 rfl) ?_
        have o_57_11 := h.1
        replace h := h.2
        refine xs_iast hx hb hK.1 hP hD hS 1 0 rfl rfl o_57_11 dX5_setPlace_57 (fun b_m_13 e_b_m_13 H locs hP hD hS => ?_)
        replace h := h b_m_13 e_b_m_13
        have hP : va_P g.1 vwCl (wM g q b_m_13 b_written b_spare b_spareWritten b_states_7 b_fifth_8 b_oldest_9 b_stateCount_10 b_text b_textLength b_at b_read b_columns b_told b_wants b_comes) H := hP
        have hD : va_D A (wM g q b_m_13 b_written b_spare b_spareWritten b_states_7 b_fifth_8 b_oldest_9 b_stateCount_10 b_text b_textLength b_at b_read b_columns b_told b_wants b_comes) := hD
        refine lv_aload_n hx hb dX5_setPlace_58 rfl (lv_at hl 1 rfl) ?_
        refine va_get (D := g.1) (ci := 5) (v := .ref (q 1)) (C := RX5) (T := TX5) (N := 16) hx hb hts iX5 hown hK.1 hP 0 rfl rfl 0 (by decide) (hts (.fieldLink RX5 7 "LightWheelModel" "m" "[I") (by decide +kernel)) (fun _ h9 => h9) rfl dX5_setPlace_59 ?_
        refine lv_bipush (v := (12 : Int32)) hx hb dX5_setPlace_62 (by decide) ?_
        refine lv_iconst (v := (4 : Int32)) hx hb dX5_setPlace_64 (by decide) ?_
        refine lv_iload_n hx hb dX5_setPlace_65 rfl (lv_at hl 2 rfl) ?_
        refine lv_imul hx hb dX5_setPlace_66 ?_
        refine lv_iadd hx hb dX5_setPlace_67 ?_
        refine lv_iconst (v := (2 : Int32)) hx hb dX5_setPlace_68 (by decide) ?_
        refine lv_iadd hx hb dX5_setPlace_69 ?_
        refine lv_iload_n hx hb dX5_setPlace_70 rfl (lv_at hl 4 rfl) ?_
        have o_71_13 := h.1
        replace h := h.2
        refine xs_iast hx hb hK.1 hP hD hS 1 0 rfl rfl o_71_13 dX5_setPlace_71 (fun b_m_15 e_b_m_15 H locs hP hD hS => ?_)
        replace h := h b_m_15 e_b_m_15
        have hP : va_P g.1 vwCl (wM g q b_m_15 b_written b_spare b_spareWritten b_states_7 b_fifth_8 b_oldest_9 b_stateCount_10 b_text b_textLength b_at b_read b_columns b_told b_wants b_comes) H := hP
        have hD : va_D A (wM g q b_m_15 b_written b_spare b_spareWritten b_states_7 b_fifth_8 b_oldest_9 b_stateCount_10 b_text b_textLength b_at b_read b_columns b_told b_wants b_comes) := hD
        refine lv_iload hx hb dX5_setPlace_72 (lv_at hl 0 rfl) ?_
        exact W.iret hx hb hr (fun t ht hW => ⟨⟨r39_11, (b_m_15, b_states_7, b_fifth_8, b_oldest_9, b_stateCount_10), rfl, h, by rw [ht]; exact hP, hD⟩, hS.F ht⟩) hS.2.2 dX5_setPlace_74
      · replace h := h.2 c_26_5
        refine lv_bipush (v := (-101 : Int32)) hx hb dX5_setPlace_29 (by decide) ?_
        exact W.iret hx hb hr (fun t ht hW => ⟨⟨(-101 : Int32), (b_m, b_states, b_fifth, b_oldest, b_stateCount), rfl, h, by rw [ht]; exact hP, hD⟩, hS.F ht⟩) hS.2.2 dX5_setPlace_31
theorem hdX5_put : yX5_put.cls = RX5 ∧ yX5_put.cls ≠ "java/lang/invoke/MethodHandle" ∧ yX5_put.cls ≠ "java/lang/invoke/VarHandle" ∧ (parseMethodDescriptor yX5_put.desc).map (fun d => d.parameters.length) = some 2 := by decide +kernel
set_option maxHeartbeats 4000000 in
set_option maxRecDepth 100000 in
theorem kX5_put (l : Launch) (g : GG) (q : Nat → Nat) (sz : Nat) (b_m : Nat → Int32) (b_written : Nat → Int32) (b_spare : Nat → Int32) (b_spareWritten : Nat → Int32) (b_states : Nat → Int32) (b_fifth : Nat → Int32) (b_oldest : Int32) (b_stateCount : Int32) (b_text : Nat → Int32) (b_textLength : Int32) (b_at : Int32) (b_read : Nat → Int32) (b_columns : Int32) (b_told : Int32) (b_wants : Nat → Int32) (b_comes : Nat → Int32) (a_1 : Int32) (a_2 : Int32) (k : Int32 → (Nat → Int32) → (Nat → Int32) → (Nat → Int32) → Int32 → Int32 → Prop) (h : PX5_put b_m b_written b_states b_fifth b_oldest b_stateCount a_1 a_2 k) : Met l yX5_put wsX5_put ({ frames := 2, cells := 0, slots := 0, locals := 45 }) (PreM g [.ref (q 0), .int a_1, .int a_2] (wM g q b_m b_written b_spare b_spareWritten b_states b_fifth b_oldest b_stateCount b_text b_textLength b_at b_read b_columns b_told b_wants b_comes) sz) (va_Qi (fun (r : Int32) (u : (Nat → Int32) × (Nat → Int32) × (Nat → Int32) × Int32 × Int32) => k r u.1 u.2.1 u.2.2.1 u.2.2.2.1 u.2.2.2.2) (fun u t => PostB g (va_A (wM g q b_m b_written b_spare b_spareWritten b_states b_fifth b_oldest b_stateCount b_text b_textLength b_at b_read b_columns b_told b_wants b_comes) sz) (wM g q u.1 b_written b_spare b_spareWritten u.2.1 u.2.2.1 u.2.2.2.1 u.2.2.2.2 b_text b_textLength b_at b_read b_columns b_told b_wants b_comes) t) (va_A (wM g q b_m b_written b_spare b_spareWritten b_states b_fifth b_oldest b_stateCount b_text b_textLength b_at b_read b_columns b_told b_wants b_comes) sz)) 0 0 (va_A (wM g q b_m b_written b_spare b_spareWritten b_states b_fifth b_oldest b_stateCount b_text b_textLength b_at b_read b_columns b_told b_wants b_comes) sz) := by
  refine Met.ofW (cc := cX5_put) (maxL := 4) (ret := (some .int)) (by decide) rfl ?_
  intro p e s m args below meth c s₁ B hml hv
  obtain ⟨rfl, hsz, hP, hK, hD0⟩ := hv
  have hx := B.exec
  have hb := B.bytes
  have hr := B.returns
  have hts := atoms_spec (ws := wsX5_put) B.pre
  have hown : s.vm.findClass RX5 = some m.cls := findClass_of_methodNamed B.named
  have hlocks := B.notSynchronized
  have iX5 : ∀ w ∈ wsX50, w ∈ wsX5_put := by decide +kernel
  subst hsz
  have hD := hD0.self (sz := s.heap.size)
  generalize hAe : va_A (wM g q b_m b_written b_spare b_spareWritten b_states b_fifth b_oldest b_stateCount b_text b_textLength b_at b_read b_columns b_told b_wants b_comes) s.heap.size = A at hD ⊢
  have hA : ∀ q : Nat, s.heap.size ≤ q → A q := fun q h => by rw [← hAe]; exact Or.inr h
  clear hAe hD0
  have hS : va_S A s.heap s.heap [] := va_S.rf
  have hl := lv_entry ([.ref (q 0), .int a_1, .int a_2]) (n := 4) (Nat.le_of_ble_eq_true rfl)
  rw [lg_entry_eq]
  generalize (lg_sl ([.ref (q 0), .int a_1, .int a_2]) ++ List.replicate (4 - (lg_sl ([.ref (q 0), .int a_1, .int a_2])).length) Slot.unset).toArray = ls at hl ⊢
  have hl : lv_has ls 4 [(0, .ref (q 0)), (1, .int a_1), (2, .int a_2)] := hl
  unfold PX5_put at h
  obtain ⟨H, hHe⟩ : ∃ y, y = s.heap := ⟨_, rfl⟩
  rw [← hHe] at hP
  have hS : va_S A s.heap H [] := by rw [hHe]; exact hS
  have hW0 : ∀ (Q : State → Prop), W p l e (headSpec wsX5_put ({ frames := 2, cells := 0, slots := 0, locals := 45 })).room s m ([.ref (q 0), .int a_1, .int a_2] : List Value).toArray below meth c H [] 0 0 Q (F0 m 0 ls []) → W p l e (headSpec wsX5_put ({ frames := 2, cells := 0, slots := 0, locals := 45 })).room s m ([.ref (q 0), .int a_1, .int a_2] : List Value).toArray below meth c s.heap [] 0 0 Q (F0 m 0 ls []) := by rw [hHe]; exact fun _ h9 => h9
  refine hW0 _ ?_
  clear hW0 hHe
  generalize ([] : List Loc) = locs at hS ⊢
  refine lv_aload_n hx hb dX5_put_0 rfl (lv_at hl 0 rfl) ?_
  have hFc := va_freeA hD hS hA
  refine va_callv (va_runV (As := []) (rest := []) ⟨hx, hb, hml, hown, hts⟩ (kX5_record l g q H.size b_m b_written b_spare b_spareWritten b_states b_fifth b_oldest b_stateCount b_text b_textLength b_at b_read b_columns b_told b_wants b_comes _ h) (cwV 0 hts gX5_put_X5_record rfl rfl rfl hdX5_record ⟨(Nat.le_of_ble_eq_true rfl), (Nat.le_of_ble_eq_true rfl)⟩) (preV_M (r := (RX5, TX5, 16)) hK hP hD (ci := 5) (q0 := 0) rfl rfl) rfl rfl hl.1 rfl (lv_room (Nat.le_of_ble_eq_true rfl)) dX5_put_1 ⟨(Nat.le_of_ble_eq_true rfl), (Nat.le_of_ble_eq_true rfl)⟩) hS (fun q _ h9 => hFc q h9) hFc (fun u t H1 locs ht hvm hw hB hz1 hk1 hS => ?_)
  obtain ⟨b_states_1, b_fifth_2, b_oldest_3, b_stateCount_4⟩ := u
  replace h := hw
  try dsimp only at h
  obtain ⟨hP, hD⟩ := jn0 (wf := (wM g q b_m b_written b_spare b_spareWritten b_states_1 b_fifth_2 b_oldest_3 b_stateCount_4 b_text b_textLength b_at b_read b_columns b_told b_wants b_comes)) hB ht hFc
  have hP : va_P g.1 vwCl (wM g q b_m b_written b_spare b_spareWritten b_states_1 b_fifth_2 b_oldest_3 b_stateCount_4 b_text b_textLength b_at b_read b_columns b_told b_wants b_comes) H1 := hP
  have hD : va_D A (wM g q b_m b_written b_spare b_spareWritten b_states_1 b_fifth_2 b_oldest_3 b_stateCount_4 b_text b_textLength b_at b_read b_columns b_told b_wants b_comes) := hD
  clear hk1 hz1 hB ht hw hFc
  generalize H1 = H at hP hS ⊢
  refine lv_aload_n hx hb dX5_put_4 rfl (lv_at hl 0 rfl) ?_
  refine va_get (D := g.1) (ci := 5) (v := .ref (q 1)) (C := RX5) (T := TX5) (N := 16) hx hb hts iX5 hown hK.1 hP 0 rfl rfl 0 (by decide) (hts (.fieldLink RX5 7 "LightWheelModel" "m" "[I") (by decide +kernel)) (fun _ h9 => h9) rfl dX5_put_5 ?_
  refine lv_iload_n hx hb dX5_put_8 rfl (lv_at hl 1 rfl) ?_
  have o_9_4 := h.1
  replace h := h.2
  refine va_iald hx hb hK.1 hP 1 0 rfl rfl o_9_4 dX5_put_9 ?_
  refine lv_topi (fun v3_6 e_v3_6 => ?_)
  replace h := h v3_6 e_v3_6
  refine lv_istore_n (lv' := [(3, .int v3_6), (0, .ref (q 0)), (1, .int a_1), (2, .int a_2)]) hx hb dX5_put_10 rfl hl (by decide) rfl (fun ls hl => ?_)
  refine lv_aload_n hx hb dX5_put_11 rfl (lv_at hl 1 rfl) ?_
  refine va_get (D := g.1) (ci := 5) (v := .ref (q 1)) (C := RX5) (T := TX5) (N := 16) hx hb hts iX5 hown hK.1 hP 0 rfl rfl 0 (by decide) (hts (.fieldLink RX5 7 "LightWheelModel" "m" "[I") (by decide +kernel)) (fun _ h9 => h9) rfl dX5_put_12 ?_
  refine lv_iload_n hx hb dX5_put_15 rfl (lv_at hl 2 rfl) ?_
  refine lv_iload_n hx hb dX5_put_16 rfl (lv_at hl 3 rfl) ?_
  have o_17_6 := h.1
  replace h := h.2
  refine xs_iast hx hb hK.1 hP hD hS 1 0 rfl rfl o_17_6 dX5_put_17 (fun b_m_8 e_b_m_8 H locs hP hD hS => ?_)
  replace h := h b_m_8 e_b_m_8
  have hP : va_P g.1 vwCl (wM g q b_m_8 b_written b_spare b_spareWritten b_states_1 b_fifth_2 b_oldest_3 b_stateCount_4 b_text b_textLength b_at b_read b_columns b_told b_wants b_comes) H := hP
  have hD : va_D A (wM g q b_m_8 b_written b_spare b_spareWritten b_states_1 b_fifth_2 b_oldest_3 b_stateCount_4 b_text b_textLength b_at b_read b_columns b_told b_wants b_comes) := hD
  refine lv_iload_n hx hb dX5_put_18 rfl (lv_at hl 0 rfl) ?_
  exact W.iret hx hb hr (fun t ht hW => ⟨⟨v3_6, (b_m_8, b_states_1, b_fifth_2, b_oldest_3, b_stateCount_4), rfl, h, by rw [ht]; exact hP, hD⟩, hS.F ht⟩) hS.2.2 dX5_put_19
theorem hdX5_setKind : yX5_setKind.cls = RX5 ∧ yX5_setKind.cls ≠ "java/lang/invoke/MethodHandle" ∧ yX5_setKind.cls ≠ "java/lang/invoke/VarHandle" ∧ (parseMethodDescriptor yX5_setKind.desc).map (fun d => d.parameters.length) = some 2 := by decide +kernel
set_option maxHeartbeats 4000000 in
set_option maxRecDepth 100000 in
theorem kX5_setKind (l : Launch) (g : GG) (q : Nat → Nat) (sz : Nat) (b_m : Nat → Int32) (b_written : Nat → Int32) (b_spare : Nat → Int32) (b_spareWritten : Nat → Int32) (b_states : Nat → Int32) (b_fifth : Nat → Int32) (b_oldest : Int32) (b_stateCount : Int32) (b_text : Nat → Int32) (b_textLength : Int32) (b_at : Int32) (b_read : Nat → Int32) (b_columns : Int32) (b_told : Int32) (b_wants : Nat → Int32) (b_comes : Nat → Int32) (a_1 : Int32) (a_2 : Int32) (k : Int32 → (Nat → Int32) → (Nat → Int32) → (Nat → Int32) → Int32 → Int32 → Prop) (h : PX5_setKind b_m b_written b_states b_fifth b_oldest b_stateCount a_1 a_2 k) : Met l yX5_setKind wsX5_setKind ({ frames := 3, cells := 0, slots := 0, locals := 68 }) (PreM g [.ref (q 0), .int a_1, .int a_2] (wM g q b_m b_written b_spare b_spareWritten b_states b_fifth b_oldest b_stateCount b_text b_textLength b_at b_read b_columns b_told b_wants b_comes) sz) (va_Qi (fun (r : Int32) (u : (Nat → Int32) × (Nat → Int32) × (Nat → Int32) × Int32 × Int32) => k r u.1 u.2.1 u.2.2.1 u.2.2.2.1 u.2.2.2.2) (fun u t => PostB g (va_A (wM g q b_m b_written b_spare b_spareWritten b_states b_fifth b_oldest b_stateCount b_text b_textLength b_at b_read b_columns b_told b_wants b_comes) sz) (wM g q u.1 b_written b_spare b_spareWritten u.2.1 u.2.2.1 u.2.2.2.1 u.2.2.2.2 b_text b_textLength b_at b_read b_columns b_told b_wants b_comes) t) (va_A (wM g q b_m b_written b_spare b_spareWritten b_states b_fifth b_oldest b_stateCount b_text b_textLength b_at b_read b_columns b_told b_wants b_comes) sz)) 0 0 (va_A (wM g q b_m b_written b_spare b_spareWritten b_states b_fifth b_oldest b_stateCount b_text b_textLength b_at b_read b_columns b_told b_wants b_comes) sz) := by
  refine Met.ofW (cc := cX5_setKind) (maxL := 3) (ret := (some .int)) (by decide) rfl ?_
  intro p e s m args below meth c s₁ B hml hv
  obtain ⟨rfl, hsz, hP, hK, hD0⟩ := hv
  have hx := B.exec
  have hb := B.bytes
  have hr := B.returns
  have hts := atoms_spec (ws := wsX5_setKind) B.pre
  have hown : s.vm.findClass RX5 = some m.cls := findClass_of_methodNamed B.named
  have hlocks := B.notSynchronized
  subst hsz
  have hD := hD0.self (sz := s.heap.size)
  generalize hAe : va_A (wM g q b_m b_written b_spare b_spareWritten b_states b_fifth b_oldest b_stateCount b_text b_textLength b_at b_read b_columns b_told b_wants b_comes) s.heap.size = A at hD ⊢
  have hA : ∀ q : Nat, s.heap.size ≤ q → A q := fun q h => by rw [← hAe]; exact Or.inr h
  clear hAe hD0
  have hS : va_S A s.heap s.heap [] := va_S.rf
  have hl := lv_entry ([.ref (q 0), .int a_1, .int a_2]) (n := 3) (Nat.le_of_ble_eq_true rfl)
  rw [lg_entry_eq]
  generalize (lg_sl ([.ref (q 0), .int a_1, .int a_2]) ++ List.replicate (3 - (lg_sl ([.ref (q 0), .int a_1, .int a_2])).length) Slot.unset).toArray = ls at hl ⊢
  have hl : lv_has ls 3 [(0, .ref (q 0)), (1, .int a_1), (2, .int a_2)] := hl
  unfold PX5_setKind at h
  obtain ⟨H, hHe⟩ : ∃ y, y = s.heap := ⟨_, rfl⟩
  rw [← hHe] at hP
  have hS : va_S A s.heap H [] := by rw [hHe]; exact hS
  have hW0 : ∀ (Q : State → Prop), W p l e (headSpec wsX5_setKind ({ frames := 3, cells := 0, slots := 0, locals := 68 })).room s m ([.ref (q 0), .int a_1, .int a_2] : List Value).toArray below meth c H [] 0 0 Q (F0 m 0 ls []) → W p l e (headSpec wsX5_setKind ({ frames := 3, cells := 0, slots := 0, locals := 68 })).room s m ([.ref (q 0), .int a_1, .int a_2] : List Value).toArray below meth c s.heap [] 0 0 Q (F0 m 0 ls []) := by rw [hHe]; exact fun _ h9 => h9
  refine hW0 _ ?_
  clear hW0 hHe
  generalize ([] : List Loc) = locs at hS ⊢
  refine lv_aload_n hx hb dX5_setKind_0 rfl (lv_at hl 0 rfl) ?_
  refine lv_iload_n hx hb dX5_setKind_1 rfl (lv_at hl 1 rfl) ?_
  refine vp_callSi (W.runV (As := [.int a_1]) (rest := []) ⟨hx, hb, hml, hown, hts⟩ (kX5_isPicture l g q b_m b_written b_spare b_spareWritten b_states b_fifth b_oldest b_stateCount b_text b_textLength b_at b_read b_columns b_told b_wants b_comes a_1 _ h) (cwV 1 hts gX5_setKind_X5_isPicture rfl rfl rfl hdX5_isPicture ⟨(Nat.le_of_ble_eq_true rfl), (Nat.le_of_ble_eq_true rfl)⟩) (preV_R (r := (RX5, TX5, 16)) hK hP (ci := 5) (q0 := 0) rfl rfl) rfl rfl hl.1 rfl (lv_room (Nat.le_of_ble_eq_true rfl)) dX5_setKind_2 ⟨(Nat.le_of_ble_eq_true rfl), (Nat.le_of_ble_eq_true rfl)⟩) (fun r2_1 h => ?_)
  refine lv_if_eq (tgt := 33) hx hb dX5_setKind_5 (by decide) (fun c_5_1 => ?_) (fun c_5_1 => ?_)
  · replace h := h.1 c_5_1
    refine lv_bipush (v := (-101 : Int32)) hx hb dX5_setKind_33 (by decide) ?_
    exact W.iret hx hb hr (fun t ht hW => ⟨⟨(-101 : Int32), (b_m, b_states, b_fifth, b_oldest, b_stateCount), rfl, h, by rw [ht]; exact hP, hD⟩, hS.F ht⟩) hS.2.2 dX5_setKind_35
  · replace h := h.2 c_5_1
    refine lv_iload_n hx hb dX5_setKind_8 rfl (lv_at hl 2 rfl) ?_
    refine lv_iconst (v := (0 : Int32)) hx hb dX5_setKind_9 (by decide) ?_
    refine lv_iconst (v := (2 : Int32)) hx hb dX5_setKind_10 (by decide) ?_
    refine vp_callSi (W.runS (As := [.int a_2, .int (0 : Int32), .int (2 : Int32)]) (rest := []) ⟨hx, hb, hml, hown, hts⟩ (kX5_in l g  a_2 (0 : Int32) (2 : Int32) _ h) (va_cwS 3 hts gX5_setKind_X5_in rfl rfl rfl hdX5_in.2 ⟨(Nat.le_of_ble_eq_true rfl), (Nat.le_of_ble_eq_true rfl)⟩) (preS_R hK (va_P_nil (D := g.1) (cl := vwCl))) rfl rfl hl.1 rfl (lv_room (Nat.le_of_ble_eq_true rfl)) dX5_setKind_11 ⟨(Nat.le_of_ble_eq_true rfl), (Nat.le_of_ble_eq_true rfl)⟩) (fun r11_3 h => ?_)
    refine lv_if_eq (tgt := 33) hx hb dX5_setKind_14 (by decide) (fun c_14_3 => ?_) (fun c_14_3 => ?_)
    · replace h := h.1 c_14_3
      refine lv_bipush (v := (-101 : Int32)) hx hb dX5_setKind_33 (by decide) ?_
      exact W.iret hx hb hr (fun t ht hW => ⟨⟨(-101 : Int32), (b_m, b_states, b_fifth, b_oldest, b_stateCount), rfl, h, by rw [ht]; exact hP, hD⟩, hS.F ht⟩) hS.2.2 dX5_setKind_35
    · replace h := h.2 c_14_3
      refine lv_aload_n hx hb dX5_setKind_17 rfl (lv_at hl 0 rfl) ?_
      refine lv_bipush (v := (12 : Int32)) hx hb dX5_setKind_18 (by decide) ?_
      refine lv_iconst (v := (4 : Int32)) hx hb dX5_setKind_20 (by decide) ?_
      refine lv_iload_n hx hb dX5_setKind_21 rfl (lv_at hl 1 rfl) ?_
      refine lv_imul hx hb dX5_setKind_22 ?_
      refine lv_iadd hx hb dX5_setKind_23 ?_
      refine lv_iconst (v := (3 : Int32)) hx hb dX5_setKind_24 (by decide) ?_
      refine lv_iadd hx hb dX5_setKind_25 ?_
      refine lv_iload_n hx hb dX5_setKind_26 rfl (lv_at hl 2 rfl) ?_
      have hFc := va_freeA hD hS hA
      refine va_calli (va_runV (As := [.int (((12 : Int32) + ((4 : Int32) * a_1)) + (3 : Int32)), .int a_2]) (rest := []) ⟨hx, hb, hml, hown, hts⟩ (kX5_put l g q H.size b_m b_written b_spare b_spareWritten b_states b_fifth b_oldest b_stateCount b_text b_textLength b_at b_read b_columns b_told b_wants b_comes (((12 : Int32) + ((4 : Int32) * a_1)) + (3 : Int32)) a_2 _ h) (cwV 2 hts gX5_setKind_X5_put rfl rfl rfl hdX5_put ⟨(Nat.le_of_ble_eq_true rfl), (Nat.le_of_ble_eq_true rfl)⟩) (preV_M (r := (RX5, TX5, 16)) hK hP hD (ci := 5) (q0 := 0) rfl rfl) rfl rfl hl.1 rfl (lv_room (Nat.le_of_ble_eq_true rfl)) dX5_setKind_27 ⟨(Nat.le_of_ble_eq_true rfl), (Nat.le_of_ble_eq_true rfl)⟩) hS (fun q _ h9 => hFc q h9) hFc (fun r27_10 u t H1 locs ht hvm hw hB hz1 hk1 hS => ?_)
      obtain ⟨b_m_5, b_states_6, b_fifth_7, b_oldest_8, b_stateCount_9⟩ := u
      replace h := hw
      try dsimp only at h
      obtain ⟨hP, hD⟩ := jn0 (wf := (wM g q b_m_5 b_written b_spare b_spareWritten b_states_6 b_fifth_7 b_oldest_8 b_stateCount_9 b_text b_textLength b_at b_read b_columns b_told b_wants b_comes)) hB ht hFc
      have hP : va_P g.1 vwCl (wM g q b_m_5 b_written b_spare b_spareWritten b_states_6 b_fifth_7 b_oldest_8 b_stateCount_9 b_text b_textLength b_at b_read b_columns b_told b_wants b_comes) H1 := hP
      have hD : va_D A (wM g q b_m_5 b_written b_spare b_spareWritten b_states_6 b_fifth_7 b_oldest_8 b_stateCount_9 b_text b_textLength b_at b_read b_columns b_told b_wants b_comes) := hD
      clear hk1 hz1 hB ht hw hFc
      generalize H1 = H at hP hS ⊢
      refine lv_goto (tgt := 35) hx hb dX5_setKind_30 (by decide) ?_
      exact W.iret hx hb hr (fun t ht hW => ⟨⟨r27_10, (b_m_5, b_states_6, b_fifth_7, b_oldest_8, b_stateCount_9), rfl, h, by rw [ht]; exact hP, hD⟩, hS.F ht⟩) hS.2.2 dX5_setKind_35
theorem hdX5_append : yX5_append.cls = RX5 ∧ yX5_append.cls ≠ "java/lang/invoke/MethodHandle" ∧ yX5_append.cls ≠ "java/lang/invoke/VarHandle" ∧ (parseMethodDescriptor yX5_append.desc).map (fun d => d.parameters.length) = some 1 := by decide +kernel
set_option maxHeartbeats 4000000 in
set_option maxRecDepth 100000 in
theorem kX5_append (l : Launch) (g : GG) (q : Nat → Nat) (sz : Nat) (b_m : Nat → Int32) (b_written : Nat → Int32) (b_spare : Nat → Int32) (b_spareWritten : Nat → Int32) (b_states : Nat → Int32) (b_fifth : Nat → Int32) (b_oldest : Int32) (b_stateCount : Int32) (b_text : Nat → Int32) (b_textLength : Int32) (b_at : Int32) (b_read : Nat → Int32) (b_columns : Int32) (b_told : Int32) (b_wants : Nat → Int32) (b_comes : Nat → Int32) (a_1 : Int32) (k : Int32 → (Nat → Int32) → Int32 → Prop) (h : PX5_append b_text b_textLength a_1 k) : Met l yX5_append wsX5_append ({ frames := 1, cells := 0, slots := 0, locals := 22 }) (PreM g [.ref (q 0), .int a_1] (wM g q b_m b_written b_spare b_spareWritten b_states b_fifth b_oldest b_stateCount b_text b_textLength b_at b_read b_columns b_told b_wants b_comes) sz) (va_Qi (fun (r : Int32) (u : (Nat → Int32) × Int32) => k r u.1 u.2) (fun u t => PostB g (va_A (wM g q b_m b_written b_spare b_spareWritten b_states b_fifth b_oldest b_stateCount b_text b_textLength b_at b_read b_columns b_told b_wants b_comes) sz) (wM g q b_m b_written b_spare b_spareWritten b_states b_fifth b_oldest b_stateCount u.1 u.2 b_at b_read b_columns b_told b_wants b_comes) t) (va_A (wM g q b_m b_written b_spare b_spareWritten b_states b_fifth b_oldest b_stateCount b_text b_textLength b_at b_read b_columns b_told b_wants b_comes) sz)) 0 0 (va_A (wM g q b_m b_written b_spare b_spareWritten b_states b_fifth b_oldest b_stateCount b_text b_textLength b_at b_read b_columns b_told b_wants b_comes) sz) := by
  refine Met.ofW (cc := cX5_append) (maxL := 2) (ret := (some .int)) (by decide) rfl ?_
  intro p e s m args below meth c s₁ B hml hv
  obtain ⟨rfl, hsz, hP, hK, hD0⟩ := hv
  have hx := B.exec
  have hb := B.bytes
  have hr := B.returns
  have hts := atoms_spec (ws := wsX5_append) B.pre
  have hown : s.vm.findClass RX5 = some m.cls := findClass_of_methodNamed B.named
  have hlocks := B.notSynchronized
  have iX5 : ∀ w ∈ wsX50, w ∈ wsX5_append := by decide +kernel
  subst hsz
  have hD := hD0.self (sz := s.heap.size)
  generalize hAe : va_A (wM g q b_m b_written b_spare b_spareWritten b_states b_fifth b_oldest b_stateCount b_text b_textLength b_at b_read b_columns b_told b_wants b_comes) s.heap.size = A at hD ⊢
  have hA : ∀ q : Nat, s.heap.size ≤ q → A q := fun q h => by rw [← hAe]; exact Or.inr h
  clear hAe hD0
  have hS : va_S A s.heap s.heap [] := va_S.rf
  have hl := lv_entry ([.ref (q 0), .int a_1]) (n := 2) (Nat.le_of_ble_eq_true rfl)
  rw [lg_entry_eq]
  generalize (lg_sl ([.ref (q 0), .int a_1]) ++ List.replicate (2 - (lg_sl ([.ref (q 0), .int a_1])).length) Slot.unset).toArray = ls at hl ⊢
  have hl : lv_has ls 2 [(0, .ref (q 0)), (1, .int a_1)] := hl
  unfold PX5_append at h
  obtain ⟨H, hHe⟩ : ∃ y, y = s.heap := ⟨_, rfl⟩
  rw [← hHe] at hP
  have hS : va_S A s.heap H [] := by rw [hHe]; exact hS
  have hW0 : ∀ (Q : State → Prop), W p l e (headSpec wsX5_append ({ frames := 1, cells := 0, slots := 0, locals := 22 })).room s m ([.ref (q 0), .int a_1] : List Value).toArray below meth c H [] 0 0 Q (F0 m 0 ls []) → W p l e (headSpec wsX5_append ({ frames := 1, cells := 0, slots := 0, locals := 22 })).room s m ([.ref (q 0), .int a_1] : List Value).toArray below meth c s.heap [] 0 0 Q (F0 m 0 ls []) := by rw [hHe]; exact fun _ h9 => h9
  refine hW0 _ ?_
  clear hW0 hHe
  generalize ([] : List Loc) = locs at hS ⊢
  refine lv_iload_n hx hb dX5_append_0 rfl (lv_at hl 1 rfl) ?_
  refine lv_iconst (v := (1 : Int32)) hx hb dX5_append_1 (by decide) ?_
  refine lv_sipush (v := (255 : Int32)) hx hb dX5_append_2 (by decide) ?_
  refine vp_callSi (W.runS (As := [.int a_1, .int (1 : Int32), .int (255 : Int32)]) (rest := []) ⟨hx, hb, hml, hown, hts⟩ (kX5_in l g  a_1 (1 : Int32) (255 : Int32) _ h) (va_cwS 3 hts gX5_append_X5_in rfl rfl rfl hdX5_in.2 ⟨(Nat.le_of_ble_eq_true rfl), (Nat.le_of_ble_eq_true rfl)⟩) (preS_R hK (va_P_nil (D := g.1) (cl := vwCl))) rfl rfl hl.1 rfl (lv_room (Nat.le_of_ble_eq_true rfl)) dX5_append_5 ⟨(Nat.le_of_ble_eq_true rfl), (Nat.le_of_ble_eq_true rfl)⟩) (fun r5_1 h => ?_)
  refine lv_if_ne (tgt := 14) hx hb dX5_append_8 (by decide) (fun c_8_1 => ?_) (fun c_8_1 => ?_)
  · replace h := h.1 c_8_1
    refine lv_aload_n hx hb dX5_append_14 rfl (lv_at hl 0 rfl) ?_
    refine va_get (D := g.1) (ci := 5) (v := .int b_textLength) (C := RX5) (T := TX5) (N := 16) hx hb hts iX5 hown hK.1 hP 0 rfl rfl 9 (by decide) (hts (.fieldLink RX5 100 "LightWheelModel" "textLength" "I") (by decide +kernel)) (fun _ h9 => h9) rfl dX5_append_15 ?_
    refine lv_sipush (v := (160 : Int32)) hx hb dX5_append_18 (by decide) ?_
    refine lv_icmp_ne (tgt := 27) hx hb dX5_append_21 (by decide) (fun c_21_2 => ?_) (fun c_21_2 => ?_)
    · replace h := h.1 c_21_2
      refine lv_aload_n hx hb dX5_append_27 rfl (lv_at hl 0 rfl) ?_
      refine va_get (D := g.1) (ci := 5) (v := .ref (q 7)) (C := RX5) (T := TX5) (N := 16) hx hb hts iX5 hown hK.1 hP 0 rfl rfl 8 (by decide) (hts (.fieldLink RX5 28 "LightWheelModel" "text" "[I") (by decide +kernel)) (fun _ h9 => h9) rfl dX5_append_28 ?_
      refine lv_aload_n hx hb dX5_append_31 rfl (lv_at hl 0 rfl) ?_
      refine va_get (D := g.1) (ci := 5) (v := .int b_textLength) (C := RX5) (T := TX5) (N := 16) hx hb hts iX5 hown hK.1 hP 0 rfl rfl 9 (by decide) (hts (.fieldLink RX5 100 "LightWheelModel" "textLength" "I") (by decide +kernel)) (fun _ h9 => h9) rfl dX5_append_32 ?_
      refine lv_iload_n hx hb dX5_append_35 rfl (lv_at hl 1 rfl) ?_
      have o_36_3 := h.1
      replace h := h.2
      refine xs_iast hx hb hK.1 hP hD hS 7 0 rfl rfl o_36_3 dX5_append_36 (fun b_text_5 e_b_text_5 H locs hP hD hS => ?_)
      replace h := h b_text_5 e_b_text_5
      have hP : va_P g.1 vwCl (wM g q b_m b_written b_spare b_spareWritten b_states b_fifth b_oldest b_stateCount b_text_5 b_textLength b_at b_read b_columns b_told b_wants b_comes) H := hP
      have hD : va_D A (wM g q b_m b_written b_spare b_spareWritten b_states b_fifth b_oldest b_stateCount b_text_5 b_textLength b_at b_read b_columns b_told b_wants b_comes) := hD
      refine lv_aload_n hx hb dX5_append_37 rfl (lv_at hl 0 rfl) ?_
      refine lv_dup hx hb dX5_append_38 rfl ?_
      refine va_get (D := g.1) (ci := 5) (v := .int b_textLength) (C := RX5) (T := TX5) (N := 16) hx hb hts iX5 hown hK.1 hP 0 rfl rfl 9 (by decide) (hts (.fieldLink RX5 100 "LightWheelModel" "textLength" "I") (by decide +kernel)) (fun _ h9 => h9) rfl dX5_append_39 ?_
      refine lv_iconst (v := (1 : Int32)) hx hb dX5_append_42 (by decide) ?_
      refine lv_iadd hx hb dX5_append_43 ?_
      refine lv_topi (fun f_textLength_6 e_f_textLength_6 => ?_)
      replace h := h f_textLength_6 e_f_textLength_6
      refine va_put (D := g.1) (ci := 5) (v := .int f_textLength_6) (ty := .int) (C := RX5) (T := TX5) (N := 16) hx hb hts iX5 tyX5 tyX5_ok nmX5 hown hK.1 hP hD hS 0 rfl rfl 9 (by decide) (hts (.fieldLink RX5 100 "LightWheelModel" "textLength" "I") (by decide +kernel)) (fun _ h9 => h9) rfl (by decide +kernel) rfl rfl (Nat.le_of_ble_eq_true rfl) dX5_append_44 (fun H locs hP hD hS => ?_)
      have hP : va_P g.1 vwCl (wM g q b_m b_written b_spare b_spareWritten b_states b_fifth b_oldest b_stateCount b_text_5 f_textLength_6 b_at b_read b_columns b_told b_wants b_comes) H := hP
      have hD : va_D A (wM g q b_m b_written b_spare b_spareWritten b_states b_fifth b_oldest b_stateCount b_text_5 f_textLength_6 b_at b_read b_columns b_told b_wants b_comes) := hD
      refine lv_aload_n hx hb dX5_append_47 rfl (lv_at hl 0 rfl) ?_
      refine va_get (D := g.1) (ci := 5) (v := .int f_textLength_6) (C := RX5) (T := TX5) (N := 16) hx hb hts iX5 hown hK.1 hP 0 rfl rfl 9 (by decide) (hts (.fieldLink RX5 100 "LightWheelModel" "textLength" "I") (by decide +kernel)) (fun _ h9 => h9) rfl dX5_append_48 ?_
      exact W.iret hx hb hr (fun t ht hW => ⟨⟨f_textLength_6, (b_text_5, f_textLength_6), rfl, h, by rw [ht]; exact hP, hD⟩, hS.F ht⟩) hS.2.2 dX5_append_51
    · replace h := h.2 c_21_2
      refine lv_bipush (v := (-103 : Int32)) hx hb dX5_append_24 (by decide) ?_
      exact W.iret hx hb hr (fun t ht hW => ⟨⟨(-103 : Int32), (b_text, b_textLength), rfl, h, by rw [ht]; exact hP, hD⟩, hS.F ht⟩) hS.2.2 dX5_append_26
  · replace h := h.2 c_8_1
    refine lv_bipush (v := (-101 : Int32)) hx hb dX5_append_11 (by decide) ?_
    exact W.iret hx hb hr (fun t ht hW => ⟨⟨(-101 : Int32), (b_text, b_textLength), rfl, h, by rw [ht]; exact hP, hD⟩, hS.F ht⟩) hS.2.2 dX5_append_13
theorem hdX5_clearText : yX5_clearText.cls = RX5 ∧ yX5_clearText.cls ≠ "java/lang/invoke/MethodHandle" ∧ yX5_clearText.cls ≠ "java/lang/invoke/VarHandle" ∧ (parseMethodDescriptor yX5_clearText.desc).map (fun d => d.parameters.length) = some 0 := by decide +kernel
set_option maxHeartbeats 4000000 in
set_option maxRecDepth 100000 in
theorem kX5_clearText (l : Launch) (g : GG) (q : Nat → Nat) (sz : Nat) (b_m : Nat → Int32) (b_written : Nat → Int32) (b_spare : Nat → Int32) (b_spareWritten : Nat → Int32) (b_states : Nat → Int32) (b_fifth : Nat → Int32) (b_oldest : Int32) (b_stateCount : Int32) (b_text : Nat → Int32) (b_textLength : Int32) (b_at : Int32) (b_read : Nat → Int32) (b_columns : Int32) (b_told : Int32) (b_wants : Nat → Int32) (b_comes : Nat → Int32)  (k : Int32 → Int32 → Prop) (h : PX5_clearText b_textLength  k) : Met l yX5_clearText wsX5_clearText ({ frames := 0, cells := 0, slots := 0, locals := 0 }) (PreM g [.ref (q 0)] (wM g q b_m b_written b_spare b_spareWritten b_states b_fifth b_oldest b_stateCount b_text b_textLength b_at b_read b_columns b_told b_wants b_comes) sz) (va_Qi (fun (r : Int32) (u : Int32) => k r u) (fun u t => PostB g (va_A (wM g q b_m b_written b_spare b_spareWritten b_states b_fifth b_oldest b_stateCount b_text b_textLength b_at b_read b_columns b_told b_wants b_comes) sz) (wM g q b_m b_written b_spare b_spareWritten b_states b_fifth b_oldest b_stateCount b_text u b_at b_read b_columns b_told b_wants b_comes) t) (va_A (wM g q b_m b_written b_spare b_spareWritten b_states b_fifth b_oldest b_stateCount b_text b_textLength b_at b_read b_columns b_told b_wants b_comes) sz)) 0 0 (va_A (wM g q b_m b_written b_spare b_spareWritten b_states b_fifth b_oldest b_stateCount b_text b_textLength b_at b_read b_columns b_told b_wants b_comes) sz) := by
  refine Met.ofW (cc := cX5_clearText) (maxL := 2) (ret := (some .int)) (by decide) rfl ?_
  intro p e s m args below meth c s₁ B hml hv
  obtain ⟨rfl, hsz, hP, hK, hD0⟩ := hv
  have hx := B.exec
  have hb := B.bytes
  have hr := B.returns
  have hts := atoms_spec (ws := wsX5_clearText) B.pre
  have hown : s.vm.findClass RX5 = some m.cls := findClass_of_methodNamed B.named
  have hlocks := B.notSynchronized
  have iX5 : ∀ w ∈ wsX50, w ∈ wsX5_clearText := by decide +kernel
  subst hsz
  have hD := hD0.self (sz := s.heap.size)
  generalize hAe : va_A (wM g q b_m b_written b_spare b_spareWritten b_states b_fifth b_oldest b_stateCount b_text b_textLength b_at b_read b_columns b_told b_wants b_comes) s.heap.size = A at hD ⊢
  have hA : ∀ q : Nat, s.heap.size ≤ q → A q := fun q h => by rw [← hAe]; exact Or.inr h
  clear hAe hD0
  have hS : va_S A s.heap s.heap [] := va_S.rf
  have hl := lv_entry ([.ref (q 0)]) (n := 2) (Nat.le_of_ble_eq_true rfl)
  rw [lg_entry_eq]
  generalize (lg_sl ([.ref (q 0)]) ++ List.replicate (2 - (lg_sl ([.ref (q 0)])).length) Slot.unset).toArray = ls at hl ⊢
  have hl : lv_has ls 2 [(0, .ref (q 0))] := hl
  unfold PX5_clearText at h
  obtain ⟨H, hHe⟩ : ∃ y, y = s.heap := ⟨_, rfl⟩
  rw [← hHe] at hP
  have hS : va_S A s.heap H [] := by rw [hHe]; exact hS
  have hW0 : ∀ (Q : State → Prop), W p l e (headSpec wsX5_clearText ({ frames := 0, cells := 0, slots := 0, locals := 0 })).room s m ([.ref (q 0)] : List Value).toArray below meth c H [] 0 0 Q (F0 m 0 ls []) → W p l e (headSpec wsX5_clearText ({ frames := 0, cells := 0, slots := 0, locals := 0 })).room s m ([.ref (q 0)] : List Value).toArray below meth c s.heap [] 0 0 Q (F0 m 0 ls []) := by rw [hHe]; exact fun _ h9 => h9
  refine hW0 _ ?_
  clear hW0 hHe
  generalize ([] : List Loc) = locs at hS ⊢
  refine lv_aload_n hx hb dX5_clearText_0 rfl (lv_at hl 0 rfl) ?_
  refine va_get (D := g.1) (ci := 5) (v := .int b_textLength) (C := RX5) (T := TX5) (N := 16) hx hb hts iX5 hown hK.1 hP 0 rfl rfl 9 (by decide) (hts (.fieldLink RX5 100 "LightWheelModel" "textLength" "I") (by decide +kernel)) (fun _ h9 => h9) rfl dX5_clearText_1 ?_
  refine lv_istore_n (lv' := [(1, .int b_textLength), (0, .ref (q 0))]) hx hb dX5_clearText_4 rfl hl (by decide) rfl (fun ls hl => ?_)
  refine lv_aload_n hx hb dX5_clearText_5 rfl (lv_at hl 1 rfl) ?_
  refine lv_iconst (v := (0 : Int32)) hx hb dX5_clearText_6 (by decide) ?_
  refine va_put (D := g.1) (ci := 5) (v := .int (0 : Int32)) (ty := .int) (C := RX5) (T := TX5) (N := 16) hx hb hts iX5 tyX5 tyX5_ok nmX5 hown hK.1 hP hD hS 0 rfl rfl 9 (by decide) (hts (.fieldLink RX5 100 "LightWheelModel" "textLength" "I") (by decide +kernel)) (fun _ h9 => h9) rfl (by decide +kernel) rfl rfl (Nat.le_of_ble_eq_true rfl) dX5_clearText_7 (fun H locs hP hD hS => ?_)
  have hP : va_P g.1 vwCl (wM g q b_m b_written b_spare b_spareWritten b_states b_fifth b_oldest b_stateCount b_text (0 : Int32) b_at b_read b_columns b_told b_wants b_comes) H := hP
  have hD : va_D A (wM g q b_m b_written b_spare b_spareWritten b_states b_fifth b_oldest b_stateCount b_text (0 : Int32) b_at b_read b_columns b_told b_wants b_comes) := hD
  refine lv_iload_n hx hb dX5_clearText_10 rfl (lv_at hl 0 rfl) ?_
  exact W.iret hx hb hr (fun t ht hW => ⟨⟨b_textLength, (0 : Int32), rfl, h, by rw [ht]; exact hP, hD⟩, hS.F ht⟩) hS.2.2 dX5_clearText_11
theorem hdX5_skip : yX5_skip.cls = RX5 ∧ yX5_skip.cls ≠ "java/lang/invoke/MethodHandle" ∧ yX5_skip.cls ≠ "java/lang/invoke/VarHandle" ∧ (parseMethodDescriptor yX5_skip.desc).map (fun d => d.parameters.length) = some 0 := by decide +kernel
set_option maxHeartbeats 4000000 in
set_option maxRecDepth 100000 in
theorem kX5_skip (l : Launch) (g : GG) (q : Nat → Nat) (sz : Nat) (b_m : Nat → Int32) (b_written : Nat → Int32) (b_spare : Nat → Int32) (b_spareWritten : Nat → Int32) (b_states : Nat → Int32) (b_fifth : Nat → Int32) (b_oldest : Int32) (b_stateCount : Int32) (b_text : Nat → Int32) (b_textLength : Int32) (b_at : Int32) (b_read : Nat → Int32) (b_columns : Int32) (b_told : Int32) (b_wants : Nat → Int32) (b_comes : Nat → Int32)  (k : Int32 → Prop) (h : PX5_skip b_text b_textLength b_at  k) : Met l yX5_skip wsX5_skip ({ frames := 1, cells := 0, slots := 0, locals := 20 }) (PreM g [.ref (q 0)] (wM g q b_m b_written b_spare b_spareWritten b_states b_fifth b_oldest b_stateCount b_text b_textLength b_at b_read b_columns b_told b_wants b_comes) sz) (va_Qv (fun u : Int32 => k u) (fun u t => PostB g (va_A (wM g q b_m b_written b_spare b_spareWritten b_states b_fifth b_oldest b_stateCount b_text b_textLength b_at b_read b_columns b_told b_wants b_comes) sz) (wM g q b_m b_written b_spare b_spareWritten b_states b_fifth b_oldest b_stateCount b_text b_textLength u b_read b_columns b_told b_wants b_comes) t) (va_A (wM g q b_m b_written b_spare b_spareWritten b_states b_fifth b_oldest b_stateCount b_text b_textLength b_at b_read b_columns b_told b_wants b_comes) sz)) 0 0 (va_A (wM g q b_m b_written b_spare b_spareWritten b_states b_fifth b_oldest b_stateCount b_text b_textLength b_at b_read b_columns b_told b_wants b_comes) sz) := by
  refine Met.ofW (cc := cX5_skip) (maxL := 1) (ret := none) (by decide) rfl ?_
  intro p e s m args below meth c s₁ B hml hv
  obtain ⟨rfl, hsz, hP, hK, hD0⟩ := hv
  have hx := B.exec
  have hb := B.bytes
  have hr := B.returns
  have hts := atoms_spec (ws := wsX5_skip) B.pre
  have hown : s.vm.findClass RX5 = some m.cls := findClass_of_methodNamed B.named
  have hlocks := B.notSynchronized
  have iX5 : ∀ w ∈ wsX50, w ∈ wsX5_skip := by decide +kernel
  subst hsz
  have hD := hD0.self (sz := s.heap.size)
  generalize hAe : va_A (wM g q b_m b_written b_spare b_spareWritten b_states b_fifth b_oldest b_stateCount b_text b_textLength b_at b_read b_columns b_told b_wants b_comes) s.heap.size = A at hD ⊢
  have hA : ∀ q : Nat, s.heap.size ≤ q → A q := fun q h => by rw [← hAe]; exact Or.inr h
  clear hAe hD0
  have hS : va_S A s.heap s.heap [] := va_S.rf
  have hl := lv_entry ([.ref (q 0)]) (n := 1) (Nat.le_of_ble_eq_true rfl)
  rw [lg_entry_eq]
  generalize (lg_sl ([.ref (q 0)]) ++ List.replicate (1 - (lg_sl ([.ref (q 0)])).length) Slot.unset).toArray = ls at hl ⊢
  have hl : lv_has ls 1 [(0, .ref (q 0))] := hl
  unfold PX5_skip at h
  obtain ⟨H, hHe⟩ : ∃ y, y = s.heap := ⟨_, rfl⟩
  rw [← hHe] at hP
  have hS : va_S A s.heap H [] := by rw [hHe]; exact hS
  have hW0 : ∀ (Q : State → Prop), W p l e (headSpec wsX5_skip ({ frames := 1, cells := 0, slots := 0, locals := 20 })).room s m ([.ref (q 0)] : List Value).toArray below meth c H [] 0 0 Q (F0 m 0 ls []) → W p l e (headSpec wsX5_skip ({ frames := 1, cells := 0, slots := 0, locals := 20 })).room s m ([.ref (q 0)] : List Value).toArray below meth c s.heap [] 0 0 Q (F0 m 0 ls []) := by rw [hHe]; exact fun _ h9 => h9
  refine hW0 _ ?_
  clear hW0 hHe
  generalize ([] : List Loc) = locs at hS ⊢
  have loop_1 : ∀ (kx_1 : Int32 → Prop), (∀ (b_at_1 : Int32) (H : Heap) (locs : List Loc) (ls : Array Slot), kx_1 b_at_1 → va_P g.1 vwCl (wM g q b_m b_written b_spare b_spareWritten b_states b_fifth b_oldest b_stateCount b_text b_textLength b_at_1 b_read b_columns b_told b_wants b_comes) H → va_D A (wM g q b_m b_written b_spare b_spareWritten b_states b_fifth b_oldest b_stateCount b_text b_textLength b_at_1 b_read b_columns b_told b_wants b_comes) → va_S A s.heap H locs → lv_has ls 1 [(0, .ref (q 0))] → W p l e (headSpec wsX5_skip ({ frames := 1, cells := 0, slots := 0, locals := 20 })).room s m ([.ref (q 0)] : List Value).toArray below meth c H locs 0 0 (MQ below (va_Qv (fun u : Int32 => k u) (fun u t => PostB g A (wM g q b_m b_written b_spare b_spareWritten b_states b_fifth b_oldest b_stateCount b_text b_textLength u b_read b_columns b_told b_wants b_comes) t) A) ([.ref (q 0)] : List Value).toArray s 0 0 A) (F0 m 22 ls [])) → ∀ (n_1 : Nat) (b_at_1 : Int32) (H : Heap) (locs : List Loc) (ls : Array Slot), PX5_skip_L1 b_text b_textLength kx_1 n_1 b_at_1 → va_P g.1 vwCl (wM g q b_m b_written b_spare b_spareWritten b_states b_fifth b_oldest b_stateCount b_text b_textLength b_at_1 b_read b_columns b_told b_wants b_comes) H → va_D A (wM g q b_m b_written b_spare b_spareWritten b_states b_fifth b_oldest b_stateCount b_text b_textLength b_at_1 b_read b_columns b_told b_wants b_comes) → va_S A s.heap H locs → lv_has ls 1 [(0, .ref (q 0))] → W p l e (headSpec wsX5_skip ({ frames := 1, cells := 0, slots := 0, locals := 20 })).room s m ([.ref (q 0)] : List Value).toArray below meth c H locs 0 0 (MQ below (va_Qv (fun u : Int32 => k u) (fun u t => PostB g A (wM g q b_m b_written b_spare b_spareWritten b_states b_fifth b_oldest b_stateCount b_text b_textLength u b_read b_columns b_told b_wants b_comes) t) A) ([.ref (q 0)] : List Value).toArray s 0 0 A) (F0 m 0 ls []) := by
    intro kx_1 hexit_1 n_1
    induction n_1 with
    | zero => exact fun _ _ _ _ h _ _ _ _ => (h : False).elim
    | succ n_1 ih_1 =>
      intro b_at_1 H locs ls h hP hD hS hl
      unfold PX5_skip_L1 at h
      refine lv_aload_n hx hb dX5_skip_0 rfl (lv_at hl 0 rfl) ?_
      refine vp_callSi (W.runV (As := []) (rest := []) ⟨hx, hb, hml, hown, hts⟩ (kX5_here l g q b_m b_written b_spare b_spareWritten b_states b_fifth b_oldest b_stateCount b_text b_textLength b_at_1 b_read b_columns b_told b_wants b_comes _ h) (cwV 0 hts gX5_skip_X5_here rfl rfl rfl hdX5_here ⟨(Nat.le_of_ble_eq_true rfl), (Nat.le_of_ble_eq_true rfl)⟩) (preV_R (r := (RX5, TX5, 16)) hK hP (ci := 5) (q0 := 0) rfl rfl) rfl rfl hl.1 rfl (lv_room (Nat.le_of_ble_eq_true rfl)) dX5_skip_1 ⟨(Nat.le_of_ble_eq_true rfl), (Nat.le_of_ble_eq_true rfl)⟩) (fun r1_2 h => ?_)
      refine lv_bipush (v := (32 : Int32)) hx hb dX5_skip_4 (by decide) ?_
      refine lv_icmp_ne (tgt := 22) hx hb dX5_skip_6 (by decide) (fun c_6_2 => ?_) (fun c_6_2 => ?_)
      · replace h := h.1 c_6_2
        exact hexit_1 b_at_1 H locs ls h hP hD hS (lv_sub hl [0] rfl)
      · replace h := h.2 c_6_2
        refine lv_aload_n hx hb dX5_skip_9 rfl (lv_at hl 0 rfl) ?_
        refine lv_dup hx hb dX5_skip_10 rfl ?_
        refine va_get (D := g.1) (ci := 5) (v := .int b_at_1) (C := RX5) (T := TX5) (N := 16) hx hb hts iX5 hown hK.1 hP 0 rfl rfl 10 (by decide) (hts (.fieldLink RX5 103 "LightWheelModel" "at" "I") (by decide +kernel)) (fun _ h9 => h9) rfl dX5_skip_11 ?_
        refine lv_iconst (v := (1 : Int32)) hx hb dX5_skip_14 (by decide) ?_
        refine lv_iadd hx hb dX5_skip_15 ?_
        refine lv_topi (fun f_at_4 e_f_at_4 => ?_)
        replace h := h f_at_4 e_f_at_4
        refine va_put (D := g.1) (ci := 5) (v := .int f_at_4) (ty := .int) (C := RX5) (T := TX5) (N := 16) hx hb hts iX5 tyX5 tyX5_ok nmX5 hown hK.1 hP hD hS 0 rfl rfl 10 (by decide) (hts (.fieldLink RX5 103 "LightWheelModel" "at" "I") (by decide +kernel)) (fun _ h9 => h9) rfl (by decide +kernel) rfl rfl (Nat.le_of_ble_eq_true rfl) dX5_skip_16 (fun H locs hP hD hS => ?_)
        have hP : va_P g.1 vwCl (wM g q b_m b_written b_spare b_spareWritten b_states b_fifth b_oldest b_stateCount b_text b_textLength f_at_4 b_read b_columns b_told b_wants b_comes) H := hP
        have hD : va_D A (wM g q b_m b_written b_spare b_spareWritten b_states b_fifth b_oldest b_stateCount b_text b_textLength f_at_4 b_read b_columns b_told b_wants b_comes) := hD
        refine lv_goto (tgt := 0) hx hb dX5_skip_19 (by decide) ?_
        exact ih_1 f_at_4 H locs ls h hP hD hS (lv_sub hl [0] rfl)
  obtain ⟨n_1, h⟩ := h
  refine loop_1 _ ?_ n_1 b_at _ _ ls h hP hD hS (lv_sub hl [0] rfl)
  intro b_at_1 H locs ls h hP hD hS hl
  exact W.vret hx hb hr (fun t ht hW => ⟨⟨b_at_1, rfl, h, by rw [ht]; exact hP, hD⟩, hS.F ht⟩) hS.2.2 dX5_skip_22
theorem hdX5_takeColor : yX5_takeColor.cls = RX5 ∧ yX5_takeColor.cls ≠ "java/lang/invoke/MethodHandle" ∧ yX5_takeColor.cls ≠ "java/lang/invoke/VarHandle" ∧ (parseMethodDescriptor yX5_takeColor.desc).map (fun d => d.parameters.length) = some 1 := by decide +kernel
set_option maxHeartbeats 4000000 in
set_option maxRecDepth 100000 in
theorem kX5_takeColor (l : Launch) (g : GG) (q : Nat → Nat) (sz : Nat) (b_m : Nat → Int32) (b_written : Nat → Int32) (b_spare : Nat → Int32) (b_spareWritten : Nat → Int32) (b_states : Nat → Int32) (b_fifth : Nat → Int32) (b_oldest : Int32) (b_stateCount : Int32) (b_text : Nat → Int32) (b_textLength : Int32) (b_at : Int32) (b_read : Nat → Int32) (b_columns : Int32) (b_told : Int32) (b_wants : Nat → Int32) (b_comes : Nat → Int32) (a_1 : Int32) (k : Int32 → (Nat → Int32) → Int32 → Prop) (h : PX5_takeColor b_text b_textLength b_at b_read b_columns b_told a_1 k) : Met l yX5_takeColor wsX5_takeColor ({ frames := 1, cells := 0, slots := 0, locals := 20 }) (PreM g [.ref (q 0), .int a_1] (wM g q b_m b_written b_spare b_spareWritten b_states b_fifth b_oldest b_stateCount b_text b_textLength b_at b_read b_columns b_told b_wants b_comes) sz) (va_Qv (fun u : Int32 × (Nat → Int32) × Int32 => k u.1 u.2.1 u.2.2) (fun u t => PostB g (va_A (wM g q b_m b_written b_spare b_spareWritten b_states b_fifth b_oldest b_stateCount b_text b_textLength b_at b_read b_columns b_told b_wants b_comes) sz) (wM g q b_m b_written b_spare b_spareWritten b_states b_fifth b_oldest b_stateCount b_text b_textLength u.1 u.2.1 b_columns u.2.2 b_wants b_comes) t) (va_A (wM g q b_m b_written b_spare b_spareWritten b_states b_fifth b_oldest b_stateCount b_text b_textLength b_at b_read b_columns b_told b_wants b_comes) sz)) 0 0 (va_A (wM g q b_m b_written b_spare b_spareWritten b_states b_fifth b_oldest b_stateCount b_text b_textLength b_at b_read b_columns b_told b_wants b_comes) sz) := by
  refine Met.ofW (cc := cX5_takeColor) (maxL := 3) (ret := none) (by decide) rfl ?_
  intro p e s m args below meth c s₁ B hml hv
  obtain ⟨rfl, hsz, hP, hK, hD0⟩ := hv
  have hx := B.exec
  have hb := B.bytes
  have hr := B.returns
  have hts := atoms_spec (ws := wsX5_takeColor) B.pre
  have hown : s.vm.findClass RX5 = some m.cls := findClass_of_methodNamed B.named
  have hlocks := B.notSynchronized
  have iX5 : ∀ w ∈ wsX50, w ∈ wsX5_takeColor := by decide +kernel
  subst hsz
  have hD := hD0.self (sz := s.heap.size)
  generalize hAe : va_A (wM g q b_m b_written b_spare b_spareWritten b_states b_fifth b_oldest b_stateCount b_text b_textLength b_at b_read b_columns b_told b_wants b_comes) s.heap.size = A at hD ⊢
  have hA : ∀ q : Nat, s.heap.size ≤ q → A q := fun q h => by rw [← hAe]; exact Or.inr h
  clear hAe hD0
  have hS : va_S A s.heap s.heap [] := va_S.rf
  have hl := lv_entry ([.ref (q 0), .int a_1]) (n := 3) (Nat.le_of_ble_eq_true rfl)
  rw [lg_entry_eq]
  generalize (lg_sl ([.ref (q 0), .int a_1]) ++ List.replicate (3 - (lg_sl ([.ref (q 0), .int a_1])).length) Slot.unset).toArray = ls at hl ⊢
  have hl : lv_has ls 3 [(0, .ref (q 0)), (1, .int a_1)] := hl
  unfold PX5_takeColor at h
  obtain ⟨H, hHe⟩ : ∃ y, y = s.heap := ⟨_, rfl⟩
  rw [← hHe] at hP
  have hS : va_S A s.heap H [] := by rw [hHe]; exact hS
  have hW0 : ∀ (Q : State → Prop), W p l e (headSpec wsX5_takeColor ({ frames := 1, cells := 0, slots := 0, locals := 20 })).room s m ([.ref (q 0), .int a_1] : List Value).toArray below meth c H [] 0 0 Q (F0 m 0 ls []) → W p l e (headSpec wsX5_takeColor ({ frames := 1, cells := 0, slots := 0, locals := 20 })).room s m ([.ref (q 0), .int a_1] : List Value).toArray below meth c s.heap [] 0 0 Q (F0 m 0 ls []) := by rw [hHe]; exact fun _ h9 => h9
  refine hW0 _ ?_
  clear hW0 hHe
  generalize ([] : List Loc) = locs at hS ⊢
  refine lv_iconst (v := (0 : Int32)) hx hb dX5_takeColor_0 (by decide) ?_
  refine lv_istore_n (lv' := [(2, .int (0 : Int32)), (0, .ref (q 0)), (1, .int a_1)]) hx hb dX5_takeColor_1 rfl hl (by decide) rfl (fun ls hl => ?_)
  have loop_1 : ∀ (kx_1 : Int32 → (Nat → Int32) → Int32 → Prop), (∀ (v2_1 : Int32) (b_read_2 : Nat → Int32) (b_told_3 : Int32) (H : Heap) (locs : List Loc) (ls : Array Slot), kx_1 v2_1 b_read_2 b_told_3 → va_P g.1 vwCl (wM g q b_m b_written b_spare b_spareWritten b_states b_fifth b_oldest b_stateCount b_text b_textLength b_at b_read_2 b_columns b_told_3 b_wants b_comes) H → va_D A (wM g q b_m b_written b_spare b_spareWritten b_states b_fifth b_oldest b_stateCount b_text b_textLength b_at b_read_2 b_columns b_told_3 b_wants b_comes) → va_S A s.heap H locs → lv_has ls 3 [(2, .int v2_1), (0, .ref (q 0)), (1, .int a_1)] → W p l e (headSpec wsX5_takeColor ({ frames := 1, cells := 0, slots := 0, locals := 20 })).room s m ([.ref (q 0), .int a_1] : List Value).toArray below meth c H locs 0 0 (MQ below (va_Qv (fun u : Int32 × (Nat → Int32) × Int32 => k u.1 u.2.1 u.2.2) (fun u t => PostB g A (wM g q b_m b_written b_spare b_spareWritten b_states b_fifth b_oldest b_stateCount b_text b_textLength u.1 u.2.1 b_columns u.2.2 b_wants b_comes) t) A) ([.ref (q 0), .int a_1] : List Value).toArray s 0 0 A) (F0 m 62 ls [])) → ∀ (n_1 : Nat) (v2_1 : Int32) (b_read_2 : Nat → Int32) (b_told_3 : Int32) (H : Heap) (locs : List Loc) (ls : Array Slot), PX5_takeColor_L1 b_text b_textLength b_at b_columns a_1 kx_1 n_1 v2_1 b_read_2 b_told_3 → va_P g.1 vwCl (wM g q b_m b_written b_spare b_spareWritten b_states b_fifth b_oldest b_stateCount b_text b_textLength b_at b_read_2 b_columns b_told_3 b_wants b_comes) H → va_D A (wM g q b_m b_written b_spare b_spareWritten b_states b_fifth b_oldest b_stateCount b_text b_textLength b_at b_read_2 b_columns b_told_3 b_wants b_comes) → va_S A s.heap H locs → lv_has ls 3 [(2, .int v2_1), (0, .ref (q 0)), (1, .int a_1)] → W p l e (headSpec wsX5_takeColor ({ frames := 1, cells := 0, slots := 0, locals := 20 })).room s m ([.ref (q 0), .int a_1] : List Value).toArray below meth c H locs 0 0 (MQ below (va_Qv (fun u : Int32 × (Nat → Int32) × Int32 => k u.1 u.2.1 u.2.2) (fun u t => PostB g A (wM g q b_m b_written b_spare b_spareWritten b_states b_fifth b_oldest b_stateCount b_text b_textLength u.1 u.2.1 b_columns u.2.2 b_wants b_comes) t) A) ([.ref (q 0), .int a_1] : List Value).toArray s 0 0 A) (F0 m 2 ls []) := by
    intro kx_1 hexit_1 n_1
    induction n_1 with
    | zero => exact fun _ _ _ _ _ _ h _ _ _ _ => (h : False).elim
    | succ n_1 ih_1 =>
      intro v2_1 b_read_2 b_told_3 H locs ls h hP hD hS hl
      unfold PX5_takeColor_L1 at h
      refine lv_iload_n hx hb dX5_takeColor_2 rfl (lv_at hl 0 rfl) ?_
      refine lv_iload_n hx hb dX5_takeColor_3 rfl (lv_at hl 2 rfl) ?_
      refine lv_icmp_ge (tgt := 62) hx hb dX5_takeColor_4 (by decide) (fun c_4_3 => ?_) (fun c_4_3 => ?_)
      · replace h := h.1 c_4_3
        exact hexit_1 v2_1 b_read_2 b_told_3 H locs ls h hP hD hS (lv_sub hl [0, 1, 2] rfl)
      · replace h := h.2 c_4_3
        refine lv_aload_n hx hb dX5_takeColor_7 rfl (lv_at hl 1 rfl) ?_
        refine va_get (D := g.1) (ci := 5) (v := .ref (q 8)) (C := RX5) (T := TX5) (N := 16) hx hb hts iX5 hown hK.1 hP 0 rfl rfl 11 (by decide) (hts (.fieldLink RX5 31 "LightWheelModel" "read" "[I") (by decide +kernel)) (fun _ h9 => h9) rfl dX5_takeColor_8 ?_
        refine lv_iconst (v := (2 : Int32)) hx hb dX5_takeColor_11 (by decide) ?_
        refine lv_aload_n hx hb dX5_takeColor_12 rfl (lv_at hl 1 rfl) ?_
        refine va_get (D := g.1) (ci := 5) (v := .int b_columns) (C := RX5) (T := TX5) (N := 16) hx hb hts iX5 hown hK.1 hP 0 rfl rfl 12 (by decide) (hts (.fieldLink RX5 110 "LightWheelModel" "columns" "I") (by decide +kernel)) (fun _ h9 => h9) rfl dX5_takeColor_13 ?_
        refine lv_imul hx hb dX5_takeColor_16 ?_
        refine lv_aload_n hx hb dX5_takeColor_17 rfl (lv_at hl 1 rfl) ?_
        refine va_get (D := g.1) (ci := 5) (v := .int b_told_3) (C := RX5) (T := TX5) (N := 16) hx hb hts iX5 hown hK.1 hP 0 rfl rfl 13 (by decide) (hts (.fieldLink RX5 113 "LightWheelModel" "told" "I") (by decide +kernel)) (fun _ h9 => h9) rfl dX5_takeColor_18 ?_
        refine lv_bipush (v := (6 : Int32)) hx hb dX5_takeColor_21 (by decide) ?_
        refine lv_idiv hx hb dX5_takeColor_23 (by decide) ?_
        refine lv_iadd hx hb dX5_takeColor_24 ?_
        refine lv_dup2_11 hx hb dX5_takeColor_25 rfl rfl ?_
        have o_26_4 := h.1
        replace h := h.2
        refine va_iald hx hb hK.1 hP 8 0 rfl rfl o_26_4 dX5_takeColor_26 ?_
        refine lv_aload_n hx hb dX5_takeColor_27 rfl (lv_at hl 1 rfl) ?_
        refine vp_callSi (W.runV (As := []) (rest := [.int (b_read_2 (Int32.toNatClampNeg (((2 : Int32) * b_columns) + (b_told_3 / (6 : Int32))))), .int (((2 : Int32) * b_columns) + (b_told_3 / (6 : Int32))), .ref (q 8)]) ⟨hx, hb, hml, hown, hts⟩ (kX5_here l g q b_m b_written b_spare b_spareWritten b_states b_fifth b_oldest b_stateCount b_text b_textLength b_at b_read_2 b_columns b_told_3 b_wants b_comes _ h) (cwV 0 hts gX5_takeColor_X5_here rfl rfl rfl hdX5_here ⟨(Nat.le_of_ble_eq_true rfl), (Nat.le_of_ble_eq_true rfl)⟩) (preV_R (r := (RX5, TX5, 16)) hK hP (ci := 5) (q0 := 0) rfl rfl) rfl rfl hl.1 rfl (lv_room (Nat.le_of_ble_eq_true rfl)) dX5_takeColor_28 ⟨(Nat.le_of_ble_eq_true rfl), (Nat.le_of_ble_eq_true rfl)⟩) (fun r28_6 h => ?_)
        refine lv_bipush (v := (48 : Int32)) hx hb dX5_takeColor_31 (by decide) ?_
        refine lv_isub hx hb dX5_takeColor_33 ?_
        refine lv_iconst (v := (3 : Int32)) hx hb dX5_takeColor_34 (by decide) ?_
        refine lv_aload_n hx hb dX5_takeColor_35 rfl (lv_at hl 1 rfl) ?_
        refine va_get (D := g.1) (ci := 5) (v := .int b_told_3) (C := RX5) (T := TX5) (N := 16) hx hb hts iX5 hown hK.1 hP 0 rfl rfl 13 (by decide) (hts (.fieldLink RX5 113 "LightWheelModel" "told" "I") (by decide +kernel)) (fun _ h9 => h9) rfl dX5_takeColor_36 ?_
        refine lv_bipush (v := (6 : Int32)) hx hb dX5_takeColor_39 (by decide) ?_
        refine lv_irem hx hb dX5_takeColor_41 (by decide) ?_
        refine lv_imul hx hb dX5_takeColor_42 ?_
        refine lv_ishl hx hb dX5_takeColor_43 ?_
        refine lv_ior hx hb dX5_takeColor_44 ?_
        have o_45_6 := h.1
        replace h := h.2
        refine xs_iast hx hb hK.1 hP hD hS 8 0 rfl rfl o_45_6 dX5_takeColor_45 (fun b_read_8 e_b_read_8 H locs hP hD hS => ?_)
        replace h := h b_read_8 e_b_read_8
        have hP : va_P g.1 vwCl (wM g q b_m b_written b_spare b_spareWritten b_states b_fifth b_oldest b_stateCount b_text b_textLength b_at b_read_8 b_columns b_told_3 b_wants b_comes) H := hP
        have hD : va_D A (wM g q b_m b_written b_spare b_spareWritten b_states b_fifth b_oldest b_stateCount b_text b_textLength b_at b_read_8 b_columns b_told_3 b_wants b_comes) := hD
        refine lv_aload_n hx hb dX5_takeColor_46 rfl (lv_at hl 1 rfl) ?_
        refine lv_dup hx hb dX5_takeColor_47 rfl ?_
        refine va_get (D := g.1) (ci := 5) (v := .int b_told_3) (C := RX5) (T := TX5) (N := 16) hx hb hts iX5 hown hK.1 hP 0 rfl rfl 13 (by decide) (hts (.fieldLink RX5 113 "LightWheelModel" "told" "I") (by decide +kernel)) (fun _ h9 => h9) rfl dX5_takeColor_48 ?_
        refine lv_iconst (v := (1 : Int32)) hx hb dX5_takeColor_51 (by decide) ?_
        refine lv_iadd hx hb dX5_takeColor_52 ?_
        refine lv_topi (fun f_told_9 e_f_told_9 => ?_)
        replace h := h f_told_9 e_f_told_9
        refine va_put (D := g.1) (ci := 5) (v := .int f_told_9) (ty := .int) (C := RX5) (T := TX5) (N := 16) hx hb hts iX5 tyX5 tyX5_ok nmX5 hown hK.1 hP hD hS 0 rfl rfl 13 (by decide) (hts (.fieldLink RX5 113 "LightWheelModel" "told" "I") (by decide +kernel)) (fun _ h9 => h9) rfl (by decide +kernel) rfl rfl (Nat.le_of_ble_eq_true rfl) dX5_takeColor_53 (fun H locs hP hD hS => ?_)
        have hP : va_P g.1 vwCl (wM g q b_m b_written b_spare b_spareWritten b_states b_fifth b_oldest b_stateCount b_text b_textLength b_at b_read_8 b_columns f_told_9 b_wants b_comes) H := hP
        have hD : va_D A (wM g q b_m b_written b_spare b_spareWritten b_states b_fifth b_oldest b_stateCount b_text b_textLength b_at b_read_8 b_columns f_told_9 b_wants b_comes) := hD
        obtain ⟨v2_10, e_v2_10⟩ : ∃ y : Int32, y = v2_1 + (1 : Int32) := ⟨_, rfl⟩
        replace h := h v2_10 e_v2_10
        refine lv_iinc (v := v2_10) (lv' := [(2, .int v2_10), (0, .ref (q 0)), (1, .int a_1)]) hx hb dX5_takeColor_56 hl (k := 0) rfl (by rw [e_v2_10]; rfl) (by decide) rfl (fun ls hl => ?_)
        refine lv_goto (tgt := 2) hx hb dX5_takeColor_59 (by decide) ?_
        exact ih_1 v2_10 b_read_8 f_told_9 H locs ls h hP hD hS (lv_sub hl [0, 1, 2] rfl)
  obtain ⟨n_1, h⟩ := h
  refine loop_1 _ ?_ n_1 (0 : Int32) b_read b_told _ _ ls h hP hD hS (lv_sub hl [0, 1, 2] rfl)
  intro v2_1 b_read_2 b_told_3 H locs ls h hP hD hS hl
  refine lv_aload_n hx hb dX5_takeColor_62 rfl (lv_at hl 1 rfl) ?_
  refine lv_dup hx hb dX5_takeColor_63 rfl ?_
  refine va_get (D := g.1) (ci := 5) (v := .int b_at) (C := RX5) (T := TX5) (N := 16) hx hb hts iX5 hown hK.1 hP 0 rfl rfl 10 (by decide) (hts (.fieldLink RX5 103 "LightWheelModel" "at" "I") (by decide +kernel)) (fun _ h9 => h9) rfl dX5_takeColor_64 ?_
  refine lv_iconst (v := (1 : Int32)) hx hb dX5_takeColor_67 (by decide) ?_
  refine lv_iadd hx hb dX5_takeColor_68 ?_
  refine lv_topi (fun f_at_11 e_f_at_11 => ?_)
  replace h := h f_at_11 e_f_at_11
  refine va_put (D := g.1) (ci := 5) (v := .int f_at_11) (ty := .int) (C := RX5) (T := TX5) (N := 16) hx hb hts iX5 tyX5 tyX5_ok nmX5 hown hK.1 hP hD hS 0 rfl rfl 10 (by decide) (hts (.fieldLink RX5 103 "LightWheelModel" "at" "I") (by decide +kernel)) (fun _ h9 => h9) rfl (by decide +kernel) rfl rfl (Nat.le_of_ble_eq_true rfl) dX5_takeColor_69 (fun H locs hP hD hS => ?_)
  have hP : va_P g.1 vwCl (wM g q b_m b_written b_spare b_spareWritten b_states b_fifth b_oldest b_stateCount b_text b_textLength f_at_11 b_read_2 b_columns b_told_3 b_wants b_comes) H := hP
  have hD : va_D A (wM g q b_m b_written b_spare b_spareWritten b_states b_fifth b_oldest b_stateCount b_text b_textLength f_at_11 b_read_2 b_columns b_told_3 b_wants b_comes) := hD
  exact W.vret hx hb hr (fun t ht hW => ⟨⟨(f_at_11, b_read_2, b_told_3), rfl, h, by rw [ht]; exact hP, hD⟩, hS.F ht⟩) hS.2.2 dX5_takeColor_72
theorem hdX5_readNumber : yX5_readNumber.cls = RX5 ∧ yX5_readNumber.cls ≠ "java/lang/invoke/MethodHandle" ∧ yX5_readNumber.cls ≠ "java/lang/invoke/VarHandle" ∧ (parseMethodDescriptor yX5_readNumber.desc).map (fun d => d.parameters.length) = some 0 := by decide +kernel
set_option maxHeartbeats 4000000 in
set_option maxRecDepth 100000 in
theorem kX5_readNumber (l : Launch) (g : GG) (q : Nat → Nat) (sz : Nat) (b_m : Nat → Int32) (b_written : Nat → Int32) (b_spare : Nat → Int32) (b_spareWritten : Nat → Int32) (b_states : Nat → Int32) (b_fifth : Nat → Int32) (b_oldest : Int32) (b_stateCount : Int32) (b_text : Nat → Int32) (b_textLength : Int32) (b_at : Int32) (b_read : Nat → Int32) (b_columns : Int32) (b_told : Int32) (b_wants : Nat → Int32) (b_comes : Nat → Int32)  (k : Int32 → Int32 → Prop) (h : PX5_readNumber b_text b_textLength b_at b_told  k) : Met l yX5_readNumber wsX5_readNumber ({ frames := 2, cells := 0, slots := 0, locals := 42 }) (PreM g [.ref (q 0)] (wM g q b_m b_written b_spare b_spareWritten b_states b_fifth b_oldest b_stateCount b_text b_textLength b_at b_read b_columns b_told b_wants b_comes) sz) (va_Qi (fun (r : Int32) (u : Int32) => k r u) (fun u t => PostB g (va_A (wM g q b_m b_written b_spare b_spareWritten b_states b_fifth b_oldest b_stateCount b_text b_textLength b_at b_read b_columns b_told b_wants b_comes) sz) (wM g q b_m b_written b_spare b_spareWritten b_states b_fifth b_oldest b_stateCount b_text b_textLength u b_read b_columns b_told b_wants b_comes) t) (va_A (wM g q b_m b_written b_spare b_spareWritten b_states b_fifth b_oldest b_stateCount b_text b_textLength b_at b_read b_columns b_told b_wants b_comes) sz)) 0 0 (va_A (wM g q b_m b_written b_spare b_spareWritten b_states b_fifth b_oldest b_stateCount b_text b_textLength b_at b_read b_columns b_told b_wants b_comes) sz) := by
  refine Met.ofW (cc := cX5_readNumber) (maxL := 3) (ret := (some .int)) (by decide) rfl ?_
  intro p e s m args below meth c s₁ B hml hv
  obtain ⟨rfl, hsz, hP, hK, hD0⟩ := hv
  have hx := B.exec
  have hb := B.bytes
  have hr := B.returns
  have hts := atoms_spec (ws := wsX5_readNumber) B.pre
  have hown : s.vm.findClass RX5 = some m.cls := findClass_of_methodNamed B.named
  have hlocks := B.notSynchronized
  have iX5 : ∀ w ∈ wsX50, w ∈ wsX5_readNumber := by decide +kernel
  subst hsz
  have hD := hD0.self (sz := s.heap.size)
  generalize hAe : va_A (wM g q b_m b_written b_spare b_spareWritten b_states b_fifth b_oldest b_stateCount b_text b_textLength b_at b_read b_columns b_told b_wants b_comes) s.heap.size = A at hD ⊢
  have hA : ∀ q : Nat, s.heap.size ≤ q → A q := fun q h => by rw [← hAe]; exact Or.inr h
  clear hAe hD0
  have hS : va_S A s.heap s.heap [] := va_S.rf
  have hl := lv_entry ([.ref (q 0)]) (n := 3) (Nat.le_of_ble_eq_true rfl)
  rw [lg_entry_eq]
  generalize (lg_sl ([.ref (q 0)]) ++ List.replicate (3 - (lg_sl ([.ref (q 0)])).length) Slot.unset).toArray = ls at hl ⊢
  have hl : lv_has ls 3 [(0, .ref (q 0))] := hl
  unfold PX5_readNumber at h
  obtain ⟨H, hHe⟩ : ∃ y, y = s.heap := ⟨_, rfl⟩
  rw [← hHe] at hP
  have hS : va_S A s.heap H [] := by rw [hHe]; exact hS
  have hW0 : ∀ (Q : State → Prop), W p l e (headSpec wsX5_readNumber ({ frames := 2, cells := 0, slots := 0, locals := 42 })).room s m ([.ref (q 0)] : List Value).toArray below meth c H [] 0 0 Q (F0 m 0 ls []) → W p l e (headSpec wsX5_readNumber ({ frames := 2, cells := 0, slots := 0, locals := 42 })).room s m ([.ref (q 0)] : List Value).toArray below meth c s.heap [] 0 0 Q (F0 m 0 ls []) := by rw [hHe]; exact fun _ h9 => h9
  refine hW0 _ ?_
  clear hW0 hHe
  generalize ([] : List Loc) = locs at hS ⊢
  refine lv_aload_n hx hb dX5_readNumber_0 rfl (lv_at hl 0 rfl) ?_
  refine lv_dup hx hb dX5_readNumber_1 rfl ?_
  refine va_get (D := g.1) (ci := 5) (v := .int b_at) (C := RX5) (T := TX5) (N := 16) hx hb hts iX5 hown hK.1 hP 0 rfl rfl 10 (by decide) (hts (.fieldLink RX5 103 "LightWheelModel" "at" "I") (by decide +kernel)) (fun _ h9 => h9) rfl dX5_readNumber_2 ?_
  refine lv_iconst (v := (1 : Int32)) hx hb dX5_readNumber_5 (by decide) ?_
  refine lv_iadd hx hb dX5_readNumber_6 ?_
  refine lv_topi (fun f_at_1 e_f_at_1 => ?_)
  replace h := h f_at_1 e_f_at_1
  refine va_put (D := g.1) (ci := 5) (v := .int f_at_1) (ty := .int) (C := RX5) (T := TX5) (N := 16) hx hb hts iX5 tyX5 tyX5_ok nmX5 hown hK.1 hP hD hS 0 rfl rfl 10 (by decide) (hts (.fieldLink RX5 103 "LightWheelModel" "at" "I") (by decide +kernel)) (fun _ h9 => h9) rfl (by decide +kernel) rfl rfl (Nat.le_of_ble_eq_true rfl) dX5_readNumber_7 (fun H locs hP hD hS => ?_)
  have hP : va_P g.1 vwCl (wM g q b_m b_written b_spare b_spareWritten b_states b_fifth b_oldest b_stateCount b_text b_textLength f_at_1 b_read b_columns b_told b_wants b_comes) H := hP
  have hD : va_D A (wM g q b_m b_written b_spare b_spareWritten b_states b_fifth b_oldest b_stateCount b_text b_textLength f_at_1 b_read b_columns b_told b_wants b_comes) := hD
  refine lv_aload_n hx hb dX5_readNumber_10 rfl (lv_at hl 0 rfl) ?_
  have hFc := va_freeA hD hS hA
  refine va_callv (va_runV (As := []) (rest := []) ⟨hx, hb, hml, hown, hts⟩ (kX5_skip l g q H.size b_m b_written b_spare b_spareWritten b_states b_fifth b_oldest b_stateCount b_text b_textLength f_at_1 b_read b_columns b_told b_wants b_comes _ h) (cwV 0 hts gX5_readNumber_X5_skip rfl rfl rfl hdX5_skip ⟨(Nat.le_of_ble_eq_true rfl), (Nat.le_of_ble_eq_true rfl)⟩) (preV_M (r := (RX5, TX5, 16)) hK hP hD (ci := 5) (q0 := 0) rfl rfl) rfl rfl hl.1 rfl (lv_room (Nat.le_of_ble_eq_true rfl)) dX5_readNumber_11 ⟨(Nat.le_of_ble_eq_true rfl), (Nat.le_of_ble_eq_true rfl)⟩) hS (fun q _ h9 => hFc q h9) hFc (fun u t H1 locs ht hvm hw hB hz1 hk1 hS => ?_)
  obtain ⟨b_at_2, ez9⟩ : ∃ y, y = u := ⟨_, rfl⟩
  subst ez9
  replace h := hw
  try dsimp only at h
  obtain ⟨hP, hD⟩ := jn0 (wf := (wM g q b_m b_written b_spare b_spareWritten b_states b_fifth b_oldest b_stateCount b_text b_textLength b_at_2 b_read b_columns b_told b_wants b_comes)) hB ht hFc
  have hP : va_P g.1 vwCl (wM g q b_m b_written b_spare b_spareWritten b_states b_fifth b_oldest b_stateCount b_text b_textLength b_at_2 b_read b_columns b_told b_wants b_comes) H1 := hP
  have hD : va_D A (wM g q b_m b_written b_spare b_spareWritten b_states b_fifth b_oldest b_stateCount b_text b_textLength b_at_2 b_read b_columns b_told b_wants b_comes) := hD
  clear hk1 hz1 hB ht hw hFc
  generalize H1 = H at hP hS ⊢
  refine lv_aload_n hx hb dX5_readNumber_14 rfl (lv_at hl 0 rfl) ?_
  refine va_get (D := g.1) (ci := 5) (v := .int b_at_2) (C := RX5) (T := TX5) (N := 16) hx hb hts iX5 hown hK.1 hP 0 rfl rfl 10 (by decide) (hts (.fieldLink RX5 103 "LightWheelModel" "at" "I") (by decide +kernel)) (fun _ h9 => h9) rfl dX5_readNumber_15 ?_
  refine lv_istore_n (lv' := [(1, .int b_at_2), (0, .ref (q 0))]) hx hb dX5_readNumber_18 rfl hl (by decide) rfl (fun ls hl => ?_)
  refine lv_iconst (v := (0 : Int32)) hx hb dX5_readNumber_19 (by decide) ?_
  refine lv_istore_n (lv' := [(2, .int (0 : Int32)), (1, .int b_at_2), (0, .ref (q 0))]) hx hb dX5_readNumber_20 rfl hl (by decide) rfl (fun ls hl => ?_)
  have loop_1 : ∀ (kx_1 : Int32 → Int32 → Prop), (∀ (v2_3 : Int32) (b_at_4 : Int32) (H : Heap) (locs : List Loc) (ls : Array Slot), kx_1 v2_3 b_at_4 → va_P g.1 vwCl (wM g q b_m b_written b_spare b_spareWritten b_states b_fifth b_oldest b_stateCount b_text b_textLength b_at_4 b_read b_columns b_told b_wants b_comes) H → va_D A (wM g q b_m b_written b_spare b_spareWritten b_states b_fifth b_oldest b_stateCount b_text b_textLength b_at_4 b_read b_columns b_told b_wants b_comes) → va_S A s.heap H locs → lv_has ls 3 [(2, .int v2_3), (1, .int b_at_2), (0, .ref (q 0))] → W p l e (headSpec wsX5_readNumber ({ frames := 2, cells := 0, slots := 0, locals := 42 })).room s m ([.ref (q 0)] : List Value).toArray below meth c H locs 0 0 (MQ below (va_Qi (fun (r : Int32) (u : Int32) => k r u) (fun u t => PostB g A (wM g q b_m b_written b_spare b_spareWritten b_states b_fifth b_oldest b_stateCount b_text b_textLength u b_read b_columns b_told b_wants b_comes) t) A) ([.ref (q 0)] : List Value).toArray s 0 0 A) (F0 m 71 ls [])) → ∀ (n_1 : Nat) (v2_3 : Int32) (b_at_4 : Int32) (H : Heap) (locs : List Loc) (ls : Array Slot), PX5_readNumber_L1 b_text b_textLength kx_1 n_1 v2_3 b_at_4 → va_P g.1 vwCl (wM g q b_m b_written b_spare b_spareWritten b_states b_fifth b_oldest b_stateCount b_text b_textLength b_at_4 b_read b_columns b_told b_wants b_comes) H → va_D A (wM g q b_m b_written b_spare b_spareWritten b_states b_fifth b_oldest b_stateCount b_text b_textLength b_at_4 b_read b_columns b_told b_wants b_comes) → va_S A s.heap H locs → lv_has ls 3 [(2, .int v2_3), (1, .int b_at_2), (0, .ref (q 0))] → W p l e (headSpec wsX5_readNumber ({ frames := 2, cells := 0, slots := 0, locals := 42 })).room s m ([.ref (q 0)] : List Value).toArray below meth c H locs 0 0 (MQ below (va_Qi (fun (r : Int32) (u : Int32) => k r u) (fun u t => PostB g A (wM g q b_m b_written b_spare b_spareWritten b_states b_fifth b_oldest b_stateCount b_text b_textLength u b_read b_columns b_told b_wants b_comes) t) A) ([.ref (q 0)] : List Value).toArray s 0 0 A) (F0 m 21 ls []) := by
    intro kx_1 hexit_1 n_1
    induction n_1 with
    | zero => exact fun _ _ _ _ _ h _ _ _ _ => (h : False).elim
    | succ n_1 ih_1 =>
      intro v2_3 b_at_4 H locs ls h hP hD hS hl
      unfold PX5_readNumber_L1 at h
      refine lv_aload_n hx hb dX5_readNumber_21 rfl (lv_at hl 2 rfl) ?_
      refine vp_callSi (W.runV (As := []) (rest := []) ⟨hx, hb, hml, hown, hts⟩ (kX5_here l g q b_m b_written b_spare b_spareWritten b_states b_fifth b_oldest b_stateCount b_text b_textLength b_at_4 b_read b_columns b_told b_wants b_comes _ h) (cwV 0 hts gX5_readNumber_X5_here rfl rfl rfl hdX5_here ⟨(Nat.le_of_ble_eq_true rfl), (Nat.le_of_ble_eq_true rfl)⟩) (preV_R (r := (RX5, TX5, 16)) hK hP (ci := 5) (q0 := 0) rfl rfl) rfl rfl hl.1 rfl (lv_room (Nat.le_of_ble_eq_true rfl)) dX5_readNumber_22 ⟨(Nat.le_of_ble_eq_true rfl), (Nat.le_of_ble_eq_true rfl)⟩) (fun r22_5 h => ?_)
      refine lv_bipush (v := (48 : Int32)) hx hb dX5_readNumber_25 (by decide) ?_
      refine lv_bipush (v := (57 : Int32)) hx hb dX5_readNumber_27 (by decide) ?_
      refine vp_callSi (W.runS (As := [.int r22_5, .int (48 : Int32), .int (57 : Int32)]) (rest := []) ⟨hx, hb, hml, hown, hts⟩ (kX5_in l g  r22_5 (48 : Int32) (57 : Int32) _ h) (va_cwS 3 hts gX5_readNumber_X5_in rfl rfl rfl hdX5_in.2 ⟨(Nat.le_of_ble_eq_true rfl), (Nat.le_of_ble_eq_true rfl)⟩) (preS_R hK (va_P_nil (D := g.1) (cl := vwCl))) rfl rfl hl.1 rfl (lv_room (Nat.le_of_ble_eq_true rfl)) dX5_readNumber_29 ⟨(Nat.le_of_ble_eq_true rfl), (Nat.le_of_ble_eq_true rfl)⟩) (fun r29_6 h => ?_)
      refine lv_if_eq (tgt := 71) hx hb dX5_readNumber_32 (by decide) (fun c_32_6 => ?_) (fun c_32_6 => ?_)
      · replace h := h.1 c_32_6
        exact hexit_1 v2_3 b_at_4 H locs ls h hP hD hS (lv_sub hl [0, 1, 2] rfl)
      · replace h := h.2 c_32_6
        refine lv_iload_n hx hb dX5_readNumber_35 rfl (lv_at hl 0 rfl) ?_
        refine lv_bipush (v := (99 : Int32)) hx hb dX5_readNumber_36 (by decide) ?_
        refine lv_icmp_le (tgt := 45) hx hb dX5_readNumber_38 (by decide) (fun c_38_7 => ?_) (fun c_38_7 => ?_)
        · replace h := h.1 c_38_7
          refine lv_bipush (v := (10 : Int32)) hx hb dX5_readNumber_45 (by decide) ?_
          refine lv_iload_n hx hb dX5_readNumber_47 rfl (lv_at hl 0 rfl) ?_
          refine lv_imul hx hb dX5_readNumber_48 ?_
          refine lv_aload_n hx hb dX5_readNumber_49 rfl (lv_at hl 2 rfl) ?_
          refine vp_callSi (W.runV (As := []) (rest := [.int ((10 : Int32) * v2_3)]) ⟨hx, hb, hml, hown, hts⟩ (kX5_here l g q b_m b_written b_spare b_spareWritten b_states b_fifth b_oldest b_stateCount b_text b_textLength b_at_4 b_read b_columns b_told b_wants b_comes _ h) (cwV 0 hts gX5_readNumber_X5_here rfl rfl rfl hdX5_here ⟨(Nat.le_of_ble_eq_true rfl), (Nat.le_of_ble_eq_true rfl)⟩) (preV_R (r := (RX5, TX5, 16)) hK hP (ci := 5) (q0 := 0) rfl rfl) rfl rfl hl.1 rfl (lv_room (Nat.le_of_ble_eq_true rfl)) dX5_readNumber_50 ⟨(Nat.le_of_ble_eq_true rfl), (Nat.le_of_ble_eq_true rfl)⟩) (fun r50_9 h => ?_)
          refine lv_iadd hx hb dX5_readNumber_53 ?_
          refine lv_bipush (v := (48 : Int32)) hx hb dX5_readNumber_54 (by decide) ?_
          refine lv_isub hx hb dX5_readNumber_56 ?_
          refine lv_topi (fun v2_10 e_v2_10 => ?_)
          replace h := h v2_10 e_v2_10
          refine lv_istore_n (lv' := [(2, .int v2_10), (1, .int b_at_2), (0, .ref (q 0))]) hx hb dX5_readNumber_57 rfl hl (by decide) rfl (fun ls hl => ?_)
          refine lv_aload_n hx hb dX5_readNumber_58 rfl (lv_at hl 2 rfl) ?_
          refine lv_dup hx hb dX5_readNumber_59 rfl ?_
          refine va_get (D := g.1) (ci := 5) (v := .int b_at_4) (C := RX5) (T := TX5) (N := 16) hx hb hts iX5 hown hK.1 hP 0 rfl rfl 10 (by decide) (hts (.fieldLink RX5 103 "LightWheelModel" "at" "I") (by decide +kernel)) (fun _ h9 => h9) rfl dX5_readNumber_60 ?_
          refine lv_iconst (v := (1 : Int32)) hx hb dX5_readNumber_63 (by decide) ?_
          refine lv_iadd hx hb dX5_readNumber_64 ?_
          refine lv_topi (fun f_at_11 e_f_at_11 => ?_)
          replace h := h f_at_11 e_f_at_11
          refine va_put (D := g.1) (ci := 5) (v := .int f_at_11) (ty := .int) (C := RX5) (T := TX5) (N := 16) hx hb hts iX5 tyX5 tyX5_ok nmX5 hown hK.1 hP hD hS 0 rfl rfl 10 (by decide) (hts (.fieldLink RX5 103 "LightWheelModel" "at" "I") (by decide +kernel)) (fun _ h9 => h9) rfl (by decide +kernel) rfl rfl (Nat.le_of_ble_eq_true rfl) dX5_readNumber_65 (fun H locs hP hD hS => ?_)
          have hP : va_P g.1 vwCl (wM g q b_m b_written b_spare b_spareWritten b_states b_fifth b_oldest b_stateCount b_text b_textLength f_at_11 b_read b_columns b_told b_wants b_comes) H := hP
          have hD : va_D A (wM g q b_m b_written b_spare b_spareWritten b_states b_fifth b_oldest b_stateCount b_text b_textLength f_at_11 b_read b_columns b_told b_wants b_comes) := hD
          refine lv_goto (tgt := 21) hx hb dX5_readNumber_68 (by decide) ?_
          exact ih_1 v2_10 f_at_11 H locs ls h hP hD hS (lv_sub hl [0, 1, 2] rfl)
        · replace h := h.2 c_38_7
          refine lv_iload_n hx hb dX5_readNumber_41 rfl (lv_at hl 0 rfl) ?_
          refine lv_goto (tgt := 57) hx hb dX5_readNumber_42 (by decide) ?_
          refine lv_istore_n (lv' := [(2, .int v2_3), (1, .int b_at_2), (0, .ref (q 0))]) hx hb dX5_readNumber_57 rfl hl (by decide) rfl (fun ls hl => ?_)
          refine lv_aload_n hx hb dX5_readNumber_58 rfl (lv_at hl 2 rfl) ?_
          refine lv_dup hx hb dX5_readNumber_59 rfl ?_
          refine va_get (D := g.1) (ci := 5) (v := .int b_at_4) (C := RX5) (T := TX5) (N := 16) hx hb hts iX5 hown hK.1 hP 0 rfl rfl 10 (by decide) (hts (.fieldLink RX5 103 "LightWheelModel" "at" "I") (by decide +kernel)) (fun _ h9 => h9) rfl dX5_readNumber_60 ?_
          refine lv_iconst (v := (1 : Int32)) hx hb dX5_readNumber_63 (by decide) ?_
          refine lv_iadd hx hb dX5_readNumber_64 ?_
          refine lv_topi (fun f_at_12 e_f_at_12 => ?_)
          replace h := h f_at_12 e_f_at_12
          refine va_put (D := g.1) (ci := 5) (v := .int f_at_12) (ty := .int) (C := RX5) (T := TX5) (N := 16) hx hb hts iX5 tyX5 tyX5_ok nmX5 hown hK.1 hP hD hS 0 rfl rfl 10 (by decide) (hts (.fieldLink RX5 103 "LightWheelModel" "at" "I") (by decide +kernel)) (fun _ h9 => h9) rfl (by decide +kernel) rfl rfl (Nat.le_of_ble_eq_true rfl) dX5_readNumber_65 (fun H locs hP hD hS => ?_)
          have hP : va_P g.1 vwCl (wM g q b_m b_written b_spare b_spareWritten b_states b_fifth b_oldest b_stateCount b_text b_textLength f_at_12 b_read b_columns b_told b_wants b_comes) H := hP
          have hD : va_D A (wM g q b_m b_written b_spare b_spareWritten b_states b_fifth b_oldest b_stateCount b_text b_textLength f_at_12 b_read b_columns b_told b_wants b_comes) := hD
          refine lv_goto (tgt := 21) hx hb dX5_readNumber_68 (by decide) ?_
          exact ih_1 v2_3 f_at_12 H locs ls h hP hD hS (lv_sub hl [0, 1, 2] rfl)
  obtain ⟨n_1, h⟩ := h
  refine loop_1 _ ?_ n_1 (0 : Int32) b_at_2 _ _ ls h hP hD hS (lv_sub hl [0, 1, 2] rfl)
  intro v2_3 b_at_4 H locs ls h hP hD hS hl
  refine lv_aload_n hx hb dX5_readNumber_71 rfl (lv_at hl 2 rfl) ?_
  refine va_get (D := g.1) (ci := 5) (v := .int b_at_4) (C := RX5) (T := TX5) (N := 16) hx hb hts iX5 hown hK.1 hP 0 rfl rfl 10 (by decide) (hts (.fieldLink RX5 103 "LightWheelModel" "at" "I") (by decide +kernel)) (fun _ h9 => h9) rfl dX5_readNumber_72 ?_
  refine lv_iload_n hx hb dX5_readNumber_75 rfl (lv_at hl 1 rfl) ?_
  refine lv_icmp_ne (tgt := 81) hx hb dX5_readNumber_76 (by decide) (fun c_76_12 => ?_) (fun c_76_12 => ?_)
  · replace h := h.1 c_76_12
    refine lv_aload_n hx hb dX5_readNumber_81 rfl (lv_at hl 2 rfl) ?_
    refine va_get (D := g.1) (ci := 5) (v := .ref (q 7)) (C := RX5) (T := TX5) (N := 16) hx hb hts iX5 hown hK.1 hP 0 rfl rfl 8 (by decide) (hts (.fieldLink RX5 28 "LightWheelModel" "text" "[I") (by decide +kernel)) (fun _ h9 => h9) rfl dX5_readNumber_82 ?_
    refine lv_iload_n hx hb dX5_readNumber_85 rfl (lv_at hl 1 rfl) ?_
    have o_86_13 := h.1
    replace h := h.2
    refine va_iald hx hb hK.1 hP 7 0 rfl rfl o_86_13 dX5_readNumber_86 ?_
    refine lv_bipush (v := (48 : Int32)) hx hb dX5_readNumber_87 (by decide) ?_
    refine lv_icmp_eq (tgt := 113) hx hb dX5_readNumber_89 (by decide) (fun c_89_14 => ?_) (fun c_89_14 => ?_)
    · replace h := h.1 c_89_14
      refine lv_aload_n hx hb dX5_readNumber_113 rfl (lv_at hl 2 rfl) ?_
      refine lv_iload_n hx hb dX5_readNumber_114 rfl (lv_at hl 1 rfl) ?_
      refine va_put (D := g.1) (ci := 5) (v := .int b_at_2) (ty := .int) (C := RX5) (T := TX5) (N := 16) hx hb hts iX5 tyX5 tyX5_ok nmX5 hown hK.1 hP hD hS 0 rfl rfl 10 (by decide) (hts (.fieldLink RX5 103 "LightWheelModel" "at" "I") (by decide +kernel)) (fun _ h9 => h9) rfl (by decide +kernel) rfl rfl (Nat.le_of_ble_eq_true rfl) dX5_readNumber_115 (fun H locs hP hD hS => ?_)
      have hP : va_P g.1 vwCl (wM g q b_m b_written b_spare b_spareWritten b_states b_fifth b_oldest b_stateCount b_text b_textLength b_at_2 b_read b_columns b_told b_wants b_comes) H := hP
      have hD : va_D A (wM g q b_m b_written b_spare b_spareWritten b_states b_fifth b_oldest b_stateCount b_text b_textLength b_at_2 b_read b_columns b_told b_wants b_comes) := hD
      refine lv_iconst (v := (0 : Int32)) hx hb dX5_readNumber_118 (by decide) ?_
      exact W.iret hx hb hr (fun t ht hW => ⟨⟨(0 : Int32), b_at_2, rfl, h, by rw [ht]; exact hP, hD⟩, hS.F ht⟩) hS.2.2 dX5_readNumber_119
    · replace h := h.2 c_89_14
      refine lv_iload_n hx hb dX5_readNumber_92 rfl (lv_at hl 0 rfl) ?_
      refine lv_iconst (v := (1 : Int32)) hx hb dX5_readNumber_93 (by decide) ?_
      refine lv_bipush (v := (12 : Int32)) hx hb dX5_readNumber_94 (by decide) ?_
      refine vp_callSi (W.runS (As := [.int v2_3, .int (1 : Int32), .int (12 : Int32)]) (rest := []) ⟨hx, hb, hml, hown, hts⟩ (kX5_in l g  v2_3 (1 : Int32) (12 : Int32) _ h) (va_cwS 3 hts gX5_readNumber_X5_in rfl rfl rfl hdX5_in.2 ⟨(Nat.le_of_ble_eq_true rfl), (Nat.le_of_ble_eq_true rfl)⟩) (preS_R hK (va_P_nil (D := g.1) (cl := vwCl))) rfl rfl hl.1 rfl (lv_room (Nat.le_of_ble_eq_true rfl)) dX5_readNumber_96 ⟨(Nat.le_of_ble_eq_true rfl), (Nat.le_of_ble_eq_true rfl)⟩) (fun r96_16 h => ?_)
      refine lv_if_eq (tgt := 113) hx hb dX5_readNumber_99 (by decide) (fun c_99_16 => ?_) (fun c_99_16 => ?_)
      · replace h := h.1 c_99_16
        refine lv_aload_n hx hb dX5_readNumber_113 rfl (lv_at hl 2 rfl) ?_
        refine lv_iload_n hx hb dX5_readNumber_114 rfl (lv_at hl 1 rfl) ?_
        refine va_put (D := g.1) (ci := 5) (v := .int b_at_2) (ty := .int) (C := RX5) (T := TX5) (N := 16) hx hb hts iX5 tyX5 tyX5_ok nmX5 hown hK.1 hP hD hS 0 rfl rfl 10 (by decide) (hts (.fieldLink RX5 103 "LightWheelModel" "at" "I") (by decide +kernel)) (fun _ h9 => h9) rfl (by decide +kernel) rfl rfl (Nat.le_of_ble_eq_true rfl) dX5_readNumber_115 (fun H locs hP hD hS => ?_)
        have hP : va_P g.1 vwCl (wM g q b_m b_written b_spare b_spareWritten b_states b_fifth b_oldest b_stateCount b_text b_textLength b_at_2 b_read b_columns b_told b_wants b_comes) H := hP
        have hD : va_D A (wM g q b_m b_written b_spare b_spareWritten b_states b_fifth b_oldest b_stateCount b_text b_textLength b_at_2 b_read b_columns b_told b_wants b_comes) := hD
        refine lv_iconst (v := (0 : Int32)) hx hb dX5_readNumber_118 (by decide) ?_
        exact W.iret hx hb hr (fun t ht hW => ⟨⟨(0 : Int32), b_at_2, rfl, h, by rw [ht]; exact hP, hD⟩, hS.F ht⟩) hS.2.2 dX5_readNumber_119
      · replace h := h.2 c_99_16
        refine lv_aload_n hx hb dX5_readNumber_102 rfl (lv_at hl 2 rfl) ?_
        refine va_get (D := g.1) (ci := 5) (v := .int b_told) (C := RX5) (T := TX5) (N := 16) hx hb hts iX5 hown hK.1 hP 0 rfl rfl 13 (by decide) (hts (.fieldLink RX5 113 "LightWheelModel" "told" "I") (by decide +kernel)) (fun _ h9 => h9) rfl dX5_readNumber_103 ?_
        refine lv_iload_n hx hb dX5_readNumber_106 rfl (lv_at hl 0 rfl) ?_
        refine lv_iadd hx hb dX5_readNumber_107 ?_
        refine lv_bipush (v := (12 : Int32)) hx hb dX5_readNumber_108 (by decide) ?_
        refine lv_icmp_le (tgt := 120) hx hb dX5_readNumber_110 (by decide) (fun c_110_17 => ?_) (fun c_110_17 => ?_)
        · replace h := h.1 c_110_17
          refine lv_aload_n hx hb dX5_readNumber_120 rfl (lv_at hl 2 rfl) ?_
          have hFc := va_freeA hD hS hA
          refine va_callv (va_runV (As := []) (rest := []) ⟨hx, hb, hml, hown, hts⟩ (kX5_skip l g q H.size b_m b_written b_spare b_spareWritten b_states b_fifth b_oldest b_stateCount b_text b_textLength b_at_4 b_read b_columns b_told b_wants b_comes _ h) (cwV 0 hts gX5_readNumber_X5_skip rfl rfl rfl hdX5_skip ⟨(Nat.le_of_ble_eq_true rfl), (Nat.le_of_ble_eq_true rfl)⟩) (preV_M (r := (RX5, TX5, 16)) hK hP hD (ci := 5) (q0 := 0) rfl rfl) rfl rfl hl.1 rfl (lv_room (Nat.le_of_ble_eq_true rfl)) dX5_readNumber_121 ⟨(Nat.le_of_ble_eq_true rfl), (Nat.le_of_ble_eq_true rfl)⟩) hS (fun q _ h9 => hFc q h9) hFc (fun u t H1 locs ht hvm hw hB hz1 hk1 hS => ?_)
          obtain ⟨b_at_19, ez9⟩ : ∃ y, y = u := ⟨_, rfl⟩
          subst ez9
          replace h := hw
          try dsimp only at h
          obtain ⟨hP, hD⟩ := jn0 (wf := (wM g q b_m b_written b_spare b_spareWritten b_states b_fifth b_oldest b_stateCount b_text b_textLength b_at_19 b_read b_columns b_told b_wants b_comes)) hB ht hFc
          have hP : va_P g.1 vwCl (wM g q b_m b_written b_spare b_spareWritten b_states b_fifth b_oldest b_stateCount b_text b_textLength b_at_19 b_read b_columns b_told b_wants b_comes) H1 := hP
          have hD : va_D A (wM g q b_m b_written b_spare b_spareWritten b_states b_fifth b_oldest b_stateCount b_text b_textLength b_at_19 b_read b_columns b_told b_wants b_comes) := hD
          clear hk1 hz1 hB ht hw hFc
          generalize H1 = H at hP hS ⊢
          refine lv_aload_n hx hb dX5_readNumber_124 rfl (lv_at hl 2 rfl) ?_
          refine vp_callSi (W.runV (As := []) (rest := []) ⟨hx, hb, hml, hown, hts⟩ (kX5_here l g q b_m b_written b_spare b_spareWritten b_states b_fifth b_oldest b_stateCount b_text b_textLength b_at_19 b_read b_columns b_told b_wants b_comes _ h) (cwV 0 hts gX5_readNumber_X5_here rfl rfl rfl hdX5_here ⟨(Nat.le_of_ble_eq_true rfl), (Nat.le_of_ble_eq_true rfl)⟩) (preV_R (r := (RX5, TX5, 16)) hK hP (ci := 5) (q0 := 0) rfl rfl) rfl rfl hl.1 rfl (lv_room (Nat.le_of_ble_eq_true rfl)) dX5_readNumber_125 ⟨(Nat.le_of_ble_eq_true rfl), (Nat.le_of_ble_eq_true rfl)⟩) (fun r125_20 h => ?_)
          refine lv_bipush (v := (41 : Int32)) hx hb dX5_readNumber_128 (by decide) ?_
          refine lv_icmp_eq (tgt := 135) hx hb dX5_readNumber_130 (by decide) (fun c_130_20 => ?_) (fun c_130_20 => ?_)
          · replace h := h.1 c_130_20
            refine lv_aload_n hx hb dX5_readNumber_135 rfl (lv_at hl 2 rfl) ?_
            refine lv_dup hx hb dX5_readNumber_136 rfl ?_
            refine va_get (D := g.1) (ci := 5) (v := .int b_at_19) (C := RX5) (T := TX5) (N := 16) hx hb hts iX5 hown hK.1 hP 0 rfl rfl 10 (by decide) (hts (.fieldLink RX5 103 "LightWheelModel" "at" "I") (by decide +kernel)) (fun _ h9 => h9) rfl dX5_readNumber_137 ?_
            refine lv_iconst (v := (1 : Int32)) hx hb dX5_readNumber_140 (by decide) ?_
            refine lv_iadd hx hb dX5_readNumber_141 ?_
            refine lv_topi (fun f_at_22 e_f_at_22 => ?_)
            replace h := h f_at_22 e_f_at_22
            refine va_put (D := g.1) (ci := 5) (v := .int f_at_22) (ty := .int) (C := RX5) (T := TX5) (N := 16) hx hb hts iX5 tyX5 tyX5_ok nmX5 hown hK.1 hP hD hS 0 rfl rfl 10 (by decide) (hts (.fieldLink RX5 103 "LightWheelModel" "at" "I") (by decide +kernel)) (fun _ h9 => h9) rfl (by decide +kernel) rfl rfl (Nat.le_of_ble_eq_true rfl) dX5_readNumber_142 (fun H locs hP hD hS => ?_)
            have hP : va_P g.1 vwCl (wM g q b_m b_written b_spare b_spareWritten b_states b_fifth b_oldest b_stateCount b_text b_textLength f_at_22 b_read b_columns b_told b_wants b_comes) H := hP
            have hD : va_D A (wM g q b_m b_written b_spare b_spareWritten b_states b_fifth b_oldest b_stateCount b_text b_textLength f_at_22 b_read b_columns b_told b_wants b_comes) := hD
            refine lv_aload_n hx hb dX5_readNumber_145 rfl (lv_at hl 2 rfl) ?_
            have hFc := va_freeA hD hS hA
            refine va_callv (va_runV (As := []) (rest := []) ⟨hx, hb, hml, hown, hts⟩ (kX5_skip l g q H.size b_m b_written b_spare b_spareWritten b_states b_fifth b_oldest b_stateCount b_text b_textLength f_at_22 b_read b_columns b_told b_wants b_comes _ h) (cwV 0 hts gX5_readNumber_X5_skip rfl rfl rfl hdX5_skip ⟨(Nat.le_of_ble_eq_true rfl), (Nat.le_of_ble_eq_true rfl)⟩) (preV_M (r := (RX5, TX5, 16)) hK hP hD (ci := 5) (q0 := 0) rfl rfl) rfl rfl hl.1 rfl (lv_room (Nat.le_of_ble_eq_true rfl)) dX5_readNumber_146 ⟨(Nat.le_of_ble_eq_true rfl), (Nat.le_of_ble_eq_true rfl)⟩) hS (fun q _ h9 => hFc q h9) hFc (fun u t H1 locs ht hvm hw hB hz1 hk1 hS => ?_)
            obtain ⟨b_at_23, ez9⟩ : ∃ y, y = u := ⟨_, rfl⟩
            subst ez9
            replace h := hw
            try dsimp only at h
            obtain ⟨hP, hD⟩ := jn0 (wf := (wM g q b_m b_written b_spare b_spareWritten b_states b_fifth b_oldest b_stateCount b_text b_textLength b_at_23 b_read b_columns b_told b_wants b_comes)) hB ht hFc
            have hP : va_P g.1 vwCl (wM g q b_m b_written b_spare b_spareWritten b_states b_fifth b_oldest b_stateCount b_text b_textLength b_at_23 b_read b_columns b_told b_wants b_comes) H1 := hP
            have hD : va_D A (wM g q b_m b_written b_spare b_spareWritten b_states b_fifth b_oldest b_stateCount b_text b_textLength b_at_23 b_read b_columns b_told b_wants b_comes) := hD
            clear hk1 hz1 hB ht hw hFc
            generalize H1 = H at hP hS ⊢
            refine lv_aload_n hx hb dX5_readNumber_149 rfl (lv_at hl 2 rfl) ?_
            refine vp_callSi (W.runV (As := []) (rest := []) ⟨hx, hb, hml, hown, hts⟩ (kX5_isColor l g q b_m b_written b_spare b_spareWritten b_states b_fifth b_oldest b_stateCount b_text b_textLength b_at_23 b_read b_columns b_told b_wants b_comes _ h) (cwV 0 hts gX5_readNumber_X5_isColor rfl rfl rfl hdX5_isColor ⟨(Nat.le_of_ble_eq_true rfl), (Nat.le_of_ble_eq_true rfl)⟩) (preV_R (r := (RX5, TX5, 16)) hK hP (ci := 5) (q0 := 0) rfl rfl) rfl rfl hl.1 rfl (lv_room (Nat.le_of_ble_eq_true rfl)) dX5_readNumber_150 ⟨(Nat.le_of_ble_eq_true rfl), (Nat.le_of_ble_eq_true rfl)⟩) (fun r150_24 h => ?_)
            refine lv_if_eq (tgt := 160) hx hb dX5_readNumber_153 (by decide) (fun c_153_24 => ?_) (fun c_153_24 => ?_)
            · replace h := h.1 c_153_24
              refine lv_iconst (v := (0 : Int32)) hx hb dX5_readNumber_160 (by decide) ?_
              exact W.iret hx hb hr (fun t ht hW => ⟨⟨(0 : Int32), b_at_23, rfl, h, by rw [ht]; exact hP, hD⟩, hS.F ht⟩) hS.2.2 dX5_readNumber_161
            · replace h := h.2 c_153_24
              refine lv_iload_n hx hb dX5_readNumber_156 rfl (lv_at hl 0 rfl) ?_
              refine lv_goto (tgt := 161) hx hb dX5_readNumber_157 (by decide) ?_
              exact W.iret hx hb hr (fun t ht hW => ⟨⟨v2_3, b_at_23, rfl, h, by rw [ht]; exact hP, hD⟩, hS.F ht⟩) hS.2.2 dX5_readNumber_161
          · replace h := h.2 c_130_20
            refine lv_iconst (v := (0 : Int32)) hx hb dX5_readNumber_133 (by decide) ?_
            exact W.iret hx hb hr (fun t ht hW => ⟨⟨(0 : Int32), b_at_19, rfl, h, by rw [ht]; exact hP, hD⟩, hS.F ht⟩) hS.2.2 dX5_readNumber_134
        · replace h := h.2 c_110_17
          refine lv_aload_n hx hb dX5_readNumber_113 rfl (lv_at hl 2 rfl) ?_
          refine lv_iload_n hx hb dX5_readNumber_114 rfl (lv_at hl 1 rfl) ?_
          refine va_put (D := g.1) (ci := 5) (v := .int b_at_2) (ty := .int) (C := RX5) (T := TX5) (N := 16) hx hb hts iX5 tyX5 tyX5_ok nmX5 hown hK.1 hP hD hS 0 rfl rfl 10 (by decide) (hts (.fieldLink RX5 103 "LightWheelModel" "at" "I") (by decide +kernel)) (fun _ h9 => h9) rfl (by decide +kernel) rfl rfl (Nat.le_of_ble_eq_true rfl) dX5_readNumber_115 (fun H locs hP hD hS => ?_)
          have hP : va_P g.1 vwCl (wM g q b_m b_written b_spare b_spareWritten b_states b_fifth b_oldest b_stateCount b_text b_textLength b_at_2 b_read b_columns b_told b_wants b_comes) H := hP
          have hD : va_D A (wM g q b_m b_written b_spare b_spareWritten b_states b_fifth b_oldest b_stateCount b_text b_textLength b_at_2 b_read b_columns b_told b_wants b_comes) := hD
          refine lv_iconst (v := (0 : Int32)) hx hb dX5_readNumber_118 (by decide) ?_
          exact W.iret hx hb hr (fun t ht hW => ⟨⟨(0 : Int32), b_at_2, rfl, h, by rw [ht]; exact hP, hD⟩, hS.F ht⟩) hS.2.2 dX5_readNumber_119
  · replace h := h.2 c_76_12
    refine lv_iconst (v := (0 : Int32)) hx hb dX5_readNumber_79 (by decide) ?_
    exact W.iret hx hb hr (fun t ht hW => ⟨⟨(0 : Int32), b_at_4, rfl, h, by rw [ht]; exact hP, hD⟩, hS.F ht⟩) hS.2.2 dX5_readNumber_80
theorem hdX5_readPart : yX5_readPart.cls = RX5 ∧ yX5_readPart.cls ≠ "java/lang/invoke/MethodHandle" ∧ yX5_readPart.cls ≠ "java/lang/invoke/VarHandle" ∧ (parseMethodDescriptor yX5_readPart.desc).map (fun d => d.parameters.length) = some 0 := by decide +kernel
set_option maxHeartbeats 4000000 in
set_option maxRecDepth 100000 in
theorem kX5_readPart (l : Launch) (g : GG) (q : Nat → Nat) (sz : Nat) (b_m : Nat → Int32) (b_written : Nat → Int32) (b_spare : Nat → Int32) (b_spareWritten : Nat → Int32) (b_states : Nat → Int32) (b_fifth : Nat → Int32) (b_oldest : Int32) (b_stateCount : Int32) (b_text : Nat → Int32) (b_textLength : Int32) (b_at : Int32) (b_read : Nat → Int32) (b_columns : Int32) (b_told : Int32) (b_wants : Nat → Int32) (b_comes : Nat → Int32)  (k : Int32 → Int32 → (Nat → Int32) → Int32 → Int32 → Prop) (h : PX5_readPart b_text b_textLength b_at b_read b_columns b_told  k) : Met l yX5_readPart wsX5_readPart ({ frames := 3, cells := 0, slots := 0, locals := 64 }) (PreM g [.ref (q 0)] (wM g q b_m b_written b_spare b_spareWritten b_states b_fifth b_oldest b_stateCount b_text b_textLength b_at b_read b_columns b_told b_wants b_comes) sz) (va_Qi (fun (r : Int32) (u : Int32 × (Nat → Int32) × Int32 × Int32) => k r u.1 u.2.1 u.2.2.1 u.2.2.2) (fun u t => PostB g (va_A (wM g q b_m b_written b_spare b_spareWritten b_states b_fifth b_oldest b_stateCount b_text b_textLength b_at b_read b_columns b_told b_wants b_comes) sz) (wM g q b_m b_written b_spare b_spareWritten b_states b_fifth b_oldest b_stateCount b_text b_textLength u.1 u.2.1 u.2.2.1 u.2.2.2 b_wants b_comes) t) (va_A (wM g q b_m b_written b_spare b_spareWritten b_states b_fifth b_oldest b_stateCount b_text b_textLength b_at b_read b_columns b_told b_wants b_comes) sz)) 0 0 (va_A (wM g q b_m b_written b_spare b_spareWritten b_states b_fifth b_oldest b_stateCount b_text b_textLength b_at b_read b_columns b_told b_wants b_comes) sz) := by
  refine Met.ofW (cc := cX5_readPart) (maxL := 2) (ret := (some .boolean)) (by decide) rfl ?_
  intro p e s m args below meth c s₁ B hml hv
  obtain ⟨rfl, hsz, hP, hK, hD0⟩ := hv
  have hx := B.exec
  have hb := B.bytes
  have hr := B.returns
  have hts := atoms_spec (ws := wsX5_readPart) B.pre
  have hown : s.vm.findClass RX5 = some m.cls := findClass_of_methodNamed B.named
  have hlocks := B.notSynchronized
  have iX5 : ∀ w ∈ wsX50, w ∈ wsX5_readPart := by decide +kernel
  subst hsz
  have hD := hD0.self (sz := s.heap.size)
  generalize hAe : va_A (wM g q b_m b_written b_spare b_spareWritten b_states b_fifth b_oldest b_stateCount b_text b_textLength b_at b_read b_columns b_told b_wants b_comes) s.heap.size = A at hD ⊢
  have hA : ∀ q : Nat, s.heap.size ≤ q → A q := fun q h => by rw [← hAe]; exact Or.inr h
  clear hAe hD0
  have hS : va_S A s.heap s.heap [] := va_S.rf
  have hl := lv_entry ([.ref (q 0)]) (n := 2) (Nat.le_of_ble_eq_true rfl)
  rw [lg_entry_eq]
  generalize (lg_sl ([.ref (q 0)]) ++ List.replicate (2 - (lg_sl ([.ref (q 0)])).length) Slot.unset).toArray = ls at hl ⊢
  have hl : lv_has ls 2 [(0, .ref (q 0))] := hl
  unfold PX5_readPart at h
  obtain ⟨H, hHe⟩ : ∃ y, y = s.heap := ⟨_, rfl⟩
  rw [← hHe] at hP
  have hS : va_S A s.heap H [] := by rw [hHe]; exact hS
  have hW0 : ∀ (Q : State → Prop), W p l e (headSpec wsX5_readPart ({ frames := 3, cells := 0, slots := 0, locals := 64 })).room s m ([.ref (q 0)] : List Value).toArray below meth c H [] 0 0 Q (F0 m 0 ls []) → W p l e (headSpec wsX5_readPart ({ frames := 3, cells := 0, slots := 0, locals := 64 })).room s m ([.ref (q 0)] : List Value).toArray below meth c s.heap [] 0 0 Q (F0 m 0 ls []) := by rw [hHe]; exact fun _ h9 => h9
  refine hW0 _ ?_
  clear hW0 hHe
  generalize ([] : List Loc) = locs at hS ⊢
  refine lv_aload_n hx hb dX5_readPart_0 rfl (lv_at hl 0 rfl) ?_
  refine vp_callSi (W.runV (As := []) (rest := []) ⟨hx, hb, hml, hown, hts⟩ (kX5_here l g q b_m b_written b_spare b_spareWritten b_states b_fifth b_oldest b_stateCount b_text b_textLength b_at b_read b_columns b_told b_wants b_comes _ h) (cwV 0 hts gX5_readPart_X5_here rfl rfl rfl hdX5_here ⟨(Nat.le_of_ble_eq_true rfl), (Nat.le_of_ble_eq_true rfl)⟩) (preV_R (r := (RX5, TX5, 16)) hK hP (ci := 5) (q0 := 0) rfl rfl) rfl rfl hl.1 rfl (lv_room (Nat.le_of_ble_eq_true rfl)) dX5_readPart_1 ⟨(Nat.le_of_ble_eq_true rfl), (Nat.le_of_ble_eq_true rfl)⟩) (fun r1_1 h => ?_)
  refine lv_bipush (v := (59 : Int32)) hx hb dX5_readPart_4 (by decide) ?_
  refine lv_icmp_ne (tgt := 49) hx hb dX5_readPart_6 (by decide) (fun c_6_1 => ?_) (fun c_6_1 => ?_)
  · replace h := h.1 c_6_1
    refine lv_aload_n hx hb dX5_readPart_49 rfl (lv_at hl 0 rfl) ?_
    refine vp_callSi (W.runV (As := []) (rest := []) ⟨hx, hb, hml, hown, hts⟩ (kX5_here l g q b_m b_written b_spare b_spareWritten b_states b_fifth b_oldest b_stateCount b_text b_textLength b_at b_read b_columns b_told b_wants b_comes _ h) (cwV 0 hts gX5_readPart_X5_here rfl rfl rfl hdX5_here ⟨(Nat.le_of_ble_eq_true rfl), (Nat.le_of_ble_eq_true rfl)⟩) (preV_R (r := (RX5, TX5, 16)) hK hP (ci := 5) (q0 := 0) rfl rfl) rfl rfl hl.1 rfl (lv_room (Nat.le_of_ble_eq_true rfl)) dX5_readPart_50 ⟨(Nat.le_of_ble_eq_true rfl), (Nat.le_of_ble_eq_true rfl)⟩) (fun r50_3 h => ?_)
    refine lv_bipush (v := (40 : Int32)) hx hb dX5_readPart_53 (by decide) ?_
    refine lv_icmp_ne (tgt := 82) hx hb dX5_readPart_55 (by decide) (fun c_55_3 => ?_) (fun c_55_3 => ?_)
    · replace h := h.1 c_55_3
      refine lv_aload_n hx hb dX5_readPart_82 rfl (lv_at hl 0 rfl) ?_
      refine vp_callSi (W.runV (As := []) (rest := []) ⟨hx, hb, hml, hown, hts⟩ (kX5_isColor l g q b_m b_written b_spare b_spareWritten b_states b_fifth b_oldest b_stateCount b_text b_textLength b_at b_read b_columns b_told b_wants b_comes _ h) (cwV 0 hts gX5_readPart_X5_isColor rfl rfl rfl hdX5_isColor ⟨(Nat.le_of_ble_eq_true rfl), (Nat.le_of_ble_eq_true rfl)⟩) (preV_R (r := (RX5, TX5, 16)) hK hP (ci := 5) (q0 := 0) rfl rfl) rfl rfl hl.1 rfl (lv_room (Nat.le_of_ble_eq_true rfl)) dX5_readPart_83 ⟨(Nat.le_of_ble_eq_true rfl), (Nat.le_of_ble_eq_true rfl)⟩) (fun r83_5 h => ?_)
      refine lv_if_eq (tgt := 102) hx hb dX5_readPart_86 (by decide) (fun c_86_5 => ?_) (fun c_86_5 => ?_)
      · replace h := h.1 c_86_5
        refine lv_iconst (v := (0 : Int32)) hx hb dX5_readPart_102 (by decide) ?_
        refine lv_istore_n (lv' := [(1, .int (0 : Int32)), (0, .ref (q 0))]) hx hb dX5_readPart_103 rfl hl (by decide) rfl (fun ls hl => ?_)
        refine lv_iload_n hx hb dX5_readPart_104 rfl (lv_at hl 0 rfl) ?_
        refine lv_if_eq (tgt := 113) hx hb dX5_readPart_105 (by decide) (fun _ => ?_) (fun c_105_6 => absurd c_105_6 (by decide))
        refine lv_iload_n hx hb dX5_readPart_113 rfl (lv_at hl 0 rfl) ?_
        exact W.zret (v := (0 : Int32)) hx hb hr rfl (fun t ht hW => ⟨⟨(0 : Int32), (b_at, b_read, b_columns, b_told), rfl, h, by rw [ht]; exact hP, hD⟩, hS.F ht⟩) hS.2.2 dX5_readPart_114
      · replace h := h.2 c_86_5
        refine lv_aload_n hx hb dX5_readPart_89 rfl (lv_at hl 0 rfl) ?_
        refine va_get (D := g.1) (ci := 5) (v := .int b_told) (C := RX5) (T := TX5) (N := 16) hx hb hts iX5 hown hK.1 hP 0 rfl rfl 13 (by decide) (hts (.fieldLink RX5 113 "LightWheelModel" "told" "I") (by decide +kernel)) (fun _ h9 => h9) rfl dX5_readPart_90 ?_
        refine lv_bipush (v := (12 : Int32)) hx hb dX5_readPart_93 (by decide) ?_
        refine lv_icmp_ge (tgt := 102) hx hb dX5_readPart_95 (by decide) (fun c_95_7 => ?_) (fun c_95_7 => ?_)
        · replace h := h.1 c_95_7
          refine lv_iconst (v := (0 : Int32)) hx hb dX5_readPart_102 (by decide) ?_
          refine lv_istore_n (lv' := [(1, .int (0 : Int32)), (0, .ref (q 0))]) hx hb dX5_readPart_103 rfl hl (by decide) rfl (fun ls hl => ?_)
          refine lv_iload_n hx hb dX5_readPart_104 rfl (lv_at hl 0 rfl) ?_
          refine lv_if_eq (tgt := 113) hx hb dX5_readPart_105 (by decide) (fun _ => ?_) (fun c_105_8 => absurd c_105_8 (by decide))
          refine lv_iload_n hx hb dX5_readPart_113 rfl (lv_at hl 0 rfl) ?_
          exact W.zret (v := (0 : Int32)) hx hb hr rfl (fun t ht hW => ⟨⟨(0 : Int32), (b_at, b_read, b_columns, b_told), rfl, h, by rw [ht]; exact hP, hD⟩, hS.F ht⟩) hS.2.2 dX5_readPart_114
        · replace h := h.2 c_95_7
          refine lv_iconst (v := (1 : Int32)) hx hb dX5_readPart_98 (by decide) ?_
          refine lv_goto (tgt := 103) hx hb dX5_readPart_99 (by decide) ?_
          refine lv_istore_n (lv' := [(1, .int (1 : Int32)), (0, .ref (q 0))]) hx hb dX5_readPart_103 rfl hl (by decide) rfl (fun ls hl => ?_)
          refine lv_iload_n hx hb dX5_readPart_104 rfl (lv_at hl 0 rfl) ?_
          refine lv_if_eq (tgt := 113) hx hb dX5_readPart_105 (by decide) (fun c_105_9 => absurd c_105_9 (by decide)) (fun _ => ?_)
          refine lv_aload_n hx hb dX5_readPart_108 rfl (lv_at hl 1 rfl) ?_
          refine lv_iconst (v := (1 : Int32)) hx hb dX5_readPart_109 (by decide) ?_
          have hFc := va_freeA hD hS hA
          refine va_callv (va_runV (As := [.int (1 : Int32)]) (rest := []) ⟨hx, hb, hml, hown, hts⟩ (kX5_takeColor l g q H.size b_m b_written b_spare b_spareWritten b_states b_fifth b_oldest b_stateCount b_text b_textLength b_at b_read b_columns b_told b_wants b_comes (1 : Int32) _ h) (cwV 1 hts gX5_readPart_X5_takeColor rfl rfl rfl hdX5_takeColor ⟨(Nat.le_of_ble_eq_true rfl), (Nat.le_of_ble_eq_true rfl)⟩) (preV_M (r := (RX5, TX5, 16)) hK hP hD (ci := 5) (q0 := 0) rfl rfl) rfl rfl hl.1 rfl (lv_room (Nat.le_of_ble_eq_true rfl)) dX5_readPart_110 ⟨(Nat.le_of_ble_eq_true rfl), (Nat.le_of_ble_eq_true rfl)⟩) hS (fun q _ h9 => hFc q h9) hFc (fun u t H1 locs ht hvm hw hB hz1 hk1 hS => ?_)
          obtain ⟨b_at_11, b_read_12, b_told_13⟩ := u
          replace h := hw
          try dsimp only at h
          obtain ⟨hP, hD⟩ := jn0 (wf := (wM g q b_m b_written b_spare b_spareWritten b_states b_fifth b_oldest b_stateCount b_text b_textLength b_at_11 b_read_12 b_columns b_told_13 b_wants b_comes)) hB ht hFc
          have hP : va_P g.1 vwCl (wM g q b_m b_written b_spare b_spareWritten b_states b_fifth b_oldest b_stateCount b_text b_textLength b_at_11 b_read_12 b_columns b_told_13 b_wants b_comes) H1 := hP
          have hD : va_D A (wM g q b_m b_written b_spare b_spareWritten b_states b_fifth b_oldest b_stateCount b_text b_textLength b_at_11 b_read_12 b_columns b_told_13 b_wants b_comes) := hD
          clear hk1 hz1 hB ht hw hFc
          generalize H1 = H at hP hS ⊢
          refine lv_iload_n hx hb dX5_readPart_113 rfl (lv_at hl 0 rfl) ?_
          exact W.zret (v := (1 : Int32)) hx hb hr rfl (fun t ht hW => ⟨⟨(1 : Int32), (b_at_11, b_read_12, b_columns, b_told_13), rfl, h, by rw [ht]; exact hP, hD⟩, hS.F ht⟩) hS.2.2 dX5_readPart_114
    · replace h := h.2 c_55_3
      refine lv_aload_n hx hb dX5_readPart_58 rfl (lv_at hl 0 rfl) ?_
      have hFc := va_freeA hD hS hA
      refine va_calli (va_runV (As := []) (rest := []) ⟨hx, hb, hml, hown, hts⟩ (kX5_readNumber l g q H.size b_m b_written b_spare b_spareWritten b_states b_fifth b_oldest b_stateCount b_text b_textLength b_at b_read b_columns b_told b_wants b_comes _ h) (cwV 0 hts gX5_readPart_X5_readNumber rfl rfl rfl hdX5_readNumber ⟨(Nat.le_of_ble_eq_true rfl), (Nat.le_of_ble_eq_true rfl)⟩) (preV_M (r := (RX5, TX5, 16)) hK hP hD (ci := 5) (q0 := 0) rfl rfl) rfl rfl hl.1 rfl (lv_room (Nat.le_of_ble_eq_true rfl)) dX5_readPart_59 ⟨(Nat.le_of_ble_eq_true rfl), (Nat.le_of_ble_eq_true rfl)⟩) hS (fun q _ h9 => hFc q h9) hFc (fun r59_15 u t H1 locs ht hvm hw hB hz1 hk1 hS => ?_)
      obtain ⟨b_at_14, ez9⟩ : ∃ y, y = u := ⟨_, rfl⟩
      subst ez9
      replace h := hw
      try dsimp only at h
      obtain ⟨hP, hD⟩ := jn0 (wf := (wM g q b_m b_written b_spare b_spareWritten b_states b_fifth b_oldest b_stateCount b_text b_textLength b_at_14 b_read b_columns b_told b_wants b_comes)) hB ht hFc
      have hP : va_P g.1 vwCl (wM g q b_m b_written b_spare b_spareWritten b_states b_fifth b_oldest b_stateCount b_text b_textLength b_at_14 b_read b_columns b_told b_wants b_comes) H1 := hP
      have hD : va_D A (wM g q b_m b_written b_spare b_spareWritten b_states b_fifth b_oldest b_stateCount b_text b_textLength b_at_14 b_read b_columns b_told b_wants b_comes) := hD
      clear hk1 hz1 hB ht hw hFc
      generalize H1 = H at hP hS ⊢
      refine lv_istore_n (lv' := [(1, .int r59_15), (0, .ref (q 0))]) hx hb dX5_readPart_62 rfl hl (by decide) rfl (fun ls hl => ?_)
      refine lv_iload_n hx hb dX5_readPart_63 rfl (lv_at hl 0 rfl) ?_
      refine lv_if_le (tgt := 72) hx hb dX5_readPart_64 (by decide) (fun c_64_15 => ?_) (fun c_64_15 => ?_)
      · replace h := h.1 c_64_15
        refine lv_iload_n hx hb dX5_readPart_72 rfl (lv_at hl 0 rfl) ?_
        refine lv_if_le (tgt := 80) hx hb dX5_readPart_73 (by decide) (fun c_73_16 => ?_) (fun c_73_16 => ?_)
        · replace h := h.1 c_73_16
          refine lv_iconst (v := (0 : Int32)) hx hb dX5_readPart_80 (by decide) ?_
          exact W.zret (v := (0 : Int32)) hx hb hr rfl (fun t ht hW => ⟨⟨(0 : Int32), (b_at_14, b_read, b_columns, b_told), rfl, h, by rw [ht]; exact hP, hD⟩, hS.F ht⟩) hS.2.2 dX5_readPart_81
        · replace h := h.2 c_73_16
          refine lv_iconst (v := (1 : Int32)) hx hb dX5_readPart_76 (by decide) ?_
          refine lv_goto (tgt := 81) hx hb dX5_readPart_77 (by decide) ?_
          exact W.zret (v := (1 : Int32)) hx hb hr rfl (fun t ht hW => ⟨⟨(1 : Int32), (b_at_14, b_read, b_columns, b_told), rfl, h, by rw [ht]; exact hP, hD⟩, hS.F ht⟩) hS.2.2 dX5_readPart_81
      · replace h := h.2 c_64_15
        refine lv_aload_n hx hb dX5_readPart_67 rfl (lv_at hl 1 rfl) ?_
        refine lv_iload_n hx hb dX5_readPart_68 rfl (lv_at hl 0 rfl) ?_
        have hFc := va_freeA hD hS hA
        refine va_callv (va_runV (As := [.int r59_15]) (rest := []) ⟨hx, hb, hml, hown, hts⟩ (kX5_takeColor l g q H.size b_m b_written b_spare b_spareWritten b_states b_fifth b_oldest b_stateCount b_text b_textLength b_at_14 b_read b_columns b_told b_wants b_comes r59_15 _ h) (cwV 1 hts gX5_readPart_X5_takeColor rfl rfl rfl hdX5_takeColor ⟨(Nat.le_of_ble_eq_true rfl), (Nat.le_of_ble_eq_true rfl)⟩) (preV_M (r := (RX5, TX5, 16)) hK hP hD (ci := 5) (q0 := 0) rfl rfl) rfl rfl hl.1 rfl (lv_room (Nat.le_of_ble_eq_true rfl)) dX5_readPart_69 ⟨(Nat.le_of_ble_eq_true rfl), (Nat.le_of_ble_eq_true rfl)⟩) hS (fun q _ h9 => hFc q h9) hFc (fun u t H1 locs ht hvm hw hB hz1 hk1 hS => ?_)
        obtain ⟨b_at_18, b_read_19, b_told_20⟩ := u
        replace h := hw
        try dsimp only at h
        obtain ⟨hP, hD⟩ := jn0 (wf := (wM g q b_m b_written b_spare b_spareWritten b_states b_fifth b_oldest b_stateCount b_text b_textLength b_at_18 b_read_19 b_columns b_told_20 b_wants b_comes)) hB ht hFc
        have hP : va_P g.1 vwCl (wM g q b_m b_written b_spare b_spareWritten b_states b_fifth b_oldest b_stateCount b_text b_textLength b_at_18 b_read_19 b_columns b_told_20 b_wants b_comes) H1 := hP
        have hD : va_D A (wM g q b_m b_written b_spare b_spareWritten b_states b_fifth b_oldest b_stateCount b_text b_textLength b_at_18 b_read_19 b_columns b_told_20 b_wants b_comes) := hD
        clear hk1 hz1 hB ht hw hFc
        generalize H1 = H at hP hS ⊢
        refine lv_iload_n hx hb dX5_readPart_72 rfl (lv_at hl 0 rfl) ?_
        refine lv_if_le (tgt := 80) hx hb dX5_readPart_73 (by decide) (fun c_73_20 => ?_) (fun c_73_20 => ?_)
        · replace h := h.1 c_73_20
          refine lv_iconst (v := (0 : Int32)) hx hb dX5_readPart_80 (by decide) ?_
          exact W.zret (v := (0 : Int32)) hx hb hr rfl (fun t ht hW => ⟨⟨(0 : Int32), (b_at_18, b_read_19, b_columns, b_told_20), rfl, h, by rw [ht]; exact hP, hD⟩, hS.F ht⟩) hS.2.2 dX5_readPart_81
        · replace h := h.2 c_73_20
          refine lv_iconst (v := (1 : Int32)) hx hb dX5_readPart_76 (by decide) ?_
          refine lv_goto (tgt := 81) hx hb dX5_readPart_77 (by decide) ?_
          exact W.zret (v := (1 : Int32)) hx hb hr rfl (fun t ht hW => ⟨⟨(1 : Int32), (b_at_18, b_read_19, b_columns, b_told_20), rfl, h, by rw [ht]; exact hP, hD⟩, hS.F ht⟩) hS.2.2 dX5_readPart_81
  · replace h := h.2 c_6_1
    refine lv_aload_n hx hb dX5_readPart_9 rfl (lv_at hl 0 rfl) ?_
    refine va_get (D := g.1) (ci := 5) (v := .int b_columns) (C := RX5) (T := TX5) (N := 16) hx hb hts iX5 hown hK.1 hP 0 rfl rfl 12 (by decide) (hts (.fieldLink RX5 110 "LightWheelModel" "columns" "I") (by decide +kernel)) (fun _ h9 => h9) rfl dX5_readPart_10 ?_
    refine lv_iconst (v := (1 : Int32)) hx hb dX5_readPart_13 (by decide) ?_
    refine lv_iadd hx hb dX5_readPart_14 ?_
    refine lv_bipush (v := (40 : Int32)) hx hb dX5_readPart_15 (by decide) ?_
    refine lv_icmp_ne (tgt := 22) hx hb dX5_readPart_17 (by decide) (fun c_17_21 => ?_) (fun c_17_21 => ?_)
    · replace h := h.1 c_17_21
      refine lv_aload_n hx hb dX5_readPart_22 rfl (lv_at hl 0 rfl) ?_
      refine lv_dup hx hb dX5_readPart_23 rfl ?_
      refine va_get (D := g.1) (ci := 5) (v := .int b_at) (C := RX5) (T := TX5) (N := 16) hx hb hts iX5 hown hK.1 hP 0 rfl rfl 10 (by decide) (hts (.fieldLink RX5 103 "LightWheelModel" "at" "I") (by decide +kernel)) (fun _ h9 => h9) rfl dX5_readPart_24 ?_
      refine lv_iconst (v := (1 : Int32)) hx hb dX5_readPart_27 (by decide) ?_
      refine lv_iadd hx hb dX5_readPart_28 ?_
      refine lv_topi (fun f_at_23 e_f_at_23 => ?_)
      replace h := h f_at_23 e_f_at_23
      refine va_put (D := g.1) (ci := 5) (v := .int f_at_23) (ty := .int) (C := RX5) (T := TX5) (N := 16) hx hb hts iX5 tyX5 tyX5_ok nmX5 hown hK.1 hP hD hS 0 rfl rfl 10 (by decide) (hts (.fieldLink RX5 103 "LightWheelModel" "at" "I") (by decide +kernel)) (fun _ h9 => h9) rfl (by decide +kernel) rfl rfl (Nat.le_of_ble_eq_true rfl) dX5_readPart_29 (fun H locs hP hD hS => ?_)
      have hP : va_P g.1 vwCl (wM g q b_m b_written b_spare b_spareWritten b_states b_fifth b_oldest b_stateCount b_text b_textLength f_at_23 b_read b_columns b_told b_wants b_comes) H := hP
      have hD : va_D A (wM g q b_m b_written b_spare b_spareWritten b_states b_fifth b_oldest b_stateCount b_text b_textLength f_at_23 b_read b_columns b_told b_wants b_comes) := hD
      refine lv_aload_n hx hb dX5_readPart_32 rfl (lv_at hl 0 rfl) ?_
      refine lv_dup hx hb dX5_readPart_33 rfl ?_
      refine va_get (D := g.1) (ci := 5) (v := .int b_columns) (C := RX5) (T := TX5) (N := 16) hx hb hts iX5 hown hK.1 hP 0 rfl rfl 12 (by decide) (hts (.fieldLink RX5 110 "LightWheelModel" "columns" "I") (by decide +kernel)) (fun _ h9 => h9) rfl dX5_readPart_34 ?_
      refine lv_iconst (v := (1 : Int32)) hx hb dX5_readPart_37 (by decide) ?_
      refine lv_iadd hx hb dX5_readPart_38 ?_
      refine lv_topi (fun f_columns_24 e_f_columns_24 => ?_)
      replace h := h f_columns_24 e_f_columns_24
      refine va_put (D := g.1) (ci := 5) (v := .int f_columns_24) (ty := .int) (C := RX5) (T := TX5) (N := 16) hx hb hts iX5 tyX5 tyX5_ok nmX5 hown hK.1 hP hD hS 0 rfl rfl 12 (by decide) (hts (.fieldLink RX5 110 "LightWheelModel" "columns" "I") (by decide +kernel)) (fun _ h9 => h9) rfl (by decide +kernel) rfl rfl (Nat.le_of_ble_eq_true rfl) dX5_readPart_39 (fun H locs hP hD hS => ?_)
      have hP : va_P g.1 vwCl (wM g q b_m b_written b_spare b_spareWritten b_states b_fifth b_oldest b_stateCount b_text b_textLength f_at_23 b_read f_columns_24 b_told b_wants b_comes) H := hP
      have hD : va_D A (wM g q b_m b_written b_spare b_spareWritten b_states b_fifth b_oldest b_stateCount b_text b_textLength f_at_23 b_read f_columns_24 b_told b_wants b_comes) := hD
      refine lv_aload_n hx hb dX5_readPart_42 rfl (lv_at hl 0 rfl) ?_
      refine lv_iconst (v := (0 : Int32)) hx hb dX5_readPart_43 (by decide) ?_
      refine va_put (D := g.1) (ci := 5) (v := .int (0 : Int32)) (ty := .int) (C := RX5) (T := TX5) (N := 16) hx hb hts iX5 tyX5 tyX5_ok nmX5 hown hK.1 hP hD hS 0 rfl rfl 13 (by decide) (hts (.fieldLink RX5 113 "LightWheelModel" "told" "I") (by decide +kernel)) (fun _ h9 => h9) rfl (by decide +kernel) rfl rfl (Nat.le_of_ble_eq_true rfl) dX5_readPart_44 (fun H locs hP hD hS => ?_)
      have hP : va_P g.1 vwCl (wM g q b_m b_written b_spare b_spareWritten b_states b_fifth b_oldest b_stateCount b_text b_textLength f_at_23 b_read f_columns_24 (0 : Int32) b_wants b_comes) H := hP
      have hD : va_D A (wM g q b_m b_written b_spare b_spareWritten b_states b_fifth b_oldest b_stateCount b_text b_textLength f_at_23 b_read f_columns_24 (0 : Int32) b_wants b_comes) := hD
      refine lv_iconst (v := (1 : Int32)) hx hb dX5_readPart_47 (by decide) ?_
      exact W.zret (v := (1 : Int32)) hx hb hr rfl (fun t ht hW => ⟨⟨(1 : Int32), (f_at_23, b_read, f_columns_24, (0 : Int32)), rfl, h, by rw [ht]; exact hP, hD⟩, hS.F ht⟩) hS.2.2 dX5_readPart_48
    · replace h := h.2 c_17_21
      refine lv_iconst (v := (0 : Int32)) hx hb dX5_readPart_20 (by decide) ?_
      exact W.zret (v := (0 : Int32)) hx hb hr rfl (fun t ht hW => ⟨⟨(0 : Int32), (b_at, b_read, b_columns, b_told), rfl, h, by rw [ht]; exact hP, hD⟩, hS.F ht⟩) hS.2.2 dX5_readPart_21
theorem hdX5_readText : yX5_readText.cls = RX5 ∧ yX5_readText.cls ≠ "java/lang/invoke/MethodHandle" ∧ yX5_readText.cls ≠ "java/lang/invoke/VarHandle" ∧ (parseMethodDescriptor yX5_readText.desc).map (fun d => d.parameters.length) = some 0 := by decide +kernel
set_option maxHeartbeats 4000000 in
set_option maxRecDepth 100000 in
theorem kX5_readText (l : Launch) (g : GG) (q : Nat → Nat) (sz : Nat) (b_m : Nat → Int32) (b_written : Nat → Int32) (b_spare : Nat → Int32) (b_spareWritten : Nat → Int32) (b_states : Nat → Int32) (b_fifth : Nat → Int32) (b_oldest : Int32) (b_stateCount : Int32) (b_text : Nat → Int32) (b_textLength : Int32) (b_at : Int32) (b_read : Nat → Int32) (b_columns : Int32) (b_told : Int32) (b_wants : Nat → Int32) (b_comes : Nat → Int32)  (k : Int32 → Int32 → (Nat → Int32) → Int32 → Int32 → Prop) (h : PX5_readText b_text b_textLength b_at b_read b_columns b_told  k) : Met l yX5_readText wsX5_readText ({ frames := 4, cells := 0, slots := 0, locals := 85 }) (PreM g [.ref (q 0)] (wM g q b_m b_written b_spare b_spareWritten b_states b_fifth b_oldest b_stateCount b_text b_textLength b_at b_read b_columns b_told b_wants b_comes) sz) (va_Qi (fun (r : Int32) (u : Int32 × (Nat → Int32) × Int32 × Int32) => k r u.1 u.2.1 u.2.2.1 u.2.2.2) (fun u t => PostB g (va_A (wM g q b_m b_written b_spare b_spareWritten b_states b_fifth b_oldest b_stateCount b_text b_textLength b_at b_read b_columns b_told b_wants b_comes) sz) (wM g q b_m b_written b_spare b_spareWritten b_states b_fifth b_oldest b_stateCount b_text b_textLength u.1 u.2.1 u.2.2.1 u.2.2.2 b_wants b_comes) t) (va_A (wM g q b_m b_written b_spare b_spareWritten b_states b_fifth b_oldest b_stateCount b_text b_textLength b_at b_read b_columns b_told b_wants b_comes) sz)) 0 0 (va_A (wM g q b_m b_written b_spare b_spareWritten b_states b_fifth b_oldest b_stateCount b_text b_textLength b_at b_read b_columns b_told b_wants b_comes) sz) := by
  refine Met.ofW (cc := cX5_readText) (maxL := 2) (ret := (some .boolean)) (by decide) rfl ?_
  intro p e s m args below meth c s₁ B hml hv
  obtain ⟨rfl, hsz, hP, hK, hD0⟩ := hv
  have hx := B.exec
  have hb := B.bytes
  have hr := B.returns
  have hts := atoms_spec (ws := wsX5_readText) B.pre
  have hown : s.vm.findClass RX5 = some m.cls := findClass_of_methodNamed B.named
  have hlocks := B.notSynchronized
  have iX5 : ∀ w ∈ wsX50, w ∈ wsX5_readText := by decide +kernel
  subst hsz
  have hD := hD0.self (sz := s.heap.size)
  generalize hAe : va_A (wM g q b_m b_written b_spare b_spareWritten b_states b_fifth b_oldest b_stateCount b_text b_textLength b_at b_read b_columns b_told b_wants b_comes) s.heap.size = A at hD ⊢
  have hA : ∀ q : Nat, s.heap.size ≤ q → A q := fun q h => by rw [← hAe]; exact Or.inr h
  clear hAe hD0
  have hS : va_S A s.heap s.heap [] := va_S.rf
  have hl := lv_entry ([.ref (q 0)]) (n := 2) (Nat.le_of_ble_eq_true rfl)
  rw [lg_entry_eq]
  generalize (lg_sl ([.ref (q 0)]) ++ List.replicate (2 - (lg_sl ([.ref (q 0)])).length) Slot.unset).toArray = ls at hl ⊢
  have hl : lv_has ls 2 [(0, .ref (q 0))] := hl
  unfold PX5_readText at h
  obtain ⟨H, hHe⟩ : ∃ y, y = s.heap := ⟨_, rfl⟩
  rw [← hHe] at hP
  have hS : va_S A s.heap H [] := by rw [hHe]; exact hS
  have hW0 : ∀ (Q : State → Prop), W p l e (headSpec wsX5_readText ({ frames := 4, cells := 0, slots := 0, locals := 85 })).room s m ([.ref (q 0)] : List Value).toArray below meth c H [] 0 0 Q (F0 m 0 ls []) → W p l e (headSpec wsX5_readText ({ frames := 4, cells := 0, slots := 0, locals := 85 })).room s m ([.ref (q 0)] : List Value).toArray below meth c s.heap [] 0 0 Q (F0 m 0 ls []) := by rw [hHe]; exact fun _ h9 => h9
  refine hW0 _ ?_
  clear hW0 hHe
  generalize ([] : List Loc) = locs at hS ⊢
  refine lv_aload_n hx hb dX5_readText_0 rfl (lv_at hl 0 rfl) ?_
  refine lv_iconst (v := (0 : Int32)) hx hb dX5_readText_1 (by decide) ?_
  refine va_put (D := g.1) (ci := 5) (v := .int (0 : Int32)) (ty := .int) (C := RX5) (T := TX5) (N := 16) hx hb hts iX5 tyX5 tyX5_ok nmX5 hown hK.1 hP hD hS 0 rfl rfl 10 (by decide) (hts (.fieldLink RX5 103 "LightWheelModel" "at" "I") (by decide +kernel)) (fun _ h9 => h9) rfl (by decide +kernel) rfl rfl (Nat.le_of_ble_eq_true rfl) dX5_readText_2 (fun H locs hP hD hS => ?_)
  have hP : va_P g.1 vwCl (wM g q b_m b_written b_spare b_spareWritten b_states b_fifth b_oldest b_stateCount b_text b_textLength (0 : Int32) b_read b_columns b_told b_wants b_comes) H := hP
  have hD : va_D A (wM g q b_m b_written b_spare b_spareWritten b_states b_fifth b_oldest b_stateCount b_text b_textLength (0 : Int32) b_read b_columns b_told b_wants b_comes) := hD
  refine lv_aload_n hx hb dX5_readText_5 rfl (lv_at hl 0 rfl) ?_
  refine lv_iconst (v := (0 : Int32)) hx hb dX5_readText_6 (by decide) ?_
  refine va_put (D := g.1) (ci := 5) (v := .int (0 : Int32)) (ty := .int) (C := RX5) (T := TX5) (N := 16) hx hb hts iX5 tyX5 tyX5_ok nmX5 hown hK.1 hP hD hS 0 rfl rfl 12 (by decide) (hts (.fieldLink RX5 110 "LightWheelModel" "columns" "I") (by decide +kernel)) (fun _ h9 => h9) rfl (by decide +kernel) rfl rfl (Nat.le_of_ble_eq_true rfl) dX5_readText_7 (fun H locs hP hD hS => ?_)
  have hP : va_P g.1 vwCl (wM g q b_m b_written b_spare b_spareWritten b_states b_fifth b_oldest b_stateCount b_text b_textLength (0 : Int32) b_read (0 : Int32) b_told b_wants b_comes) H := hP
  have hD : va_D A (wM g q b_m b_written b_spare b_spareWritten b_states b_fifth b_oldest b_stateCount b_text b_textLength (0 : Int32) b_read (0 : Int32) b_told b_wants b_comes) := hD
  refine lv_aload_n hx hb dX5_readText_10 rfl (lv_at hl 0 rfl) ?_
  refine lv_iconst (v := (0 : Int32)) hx hb dX5_readText_11 (by decide) ?_
  refine va_put (D := g.1) (ci := 5) (v := .int (0 : Int32)) (ty := .int) (C := RX5) (T := TX5) (N := 16) hx hb hts iX5 tyX5 tyX5_ok nmX5 hown hK.1 hP hD hS 0 rfl rfl 13 (by decide) (hts (.fieldLink RX5 113 "LightWheelModel" "told" "I") (by decide +kernel)) (fun _ h9 => h9) rfl (by decide +kernel) rfl rfl (Nat.le_of_ble_eq_true rfl) dX5_readText_12 (fun H locs hP hD hS => ?_)
  have hP : va_P g.1 vwCl (wM g q b_m b_written b_spare b_spareWritten b_states b_fifth b_oldest b_stateCount b_text b_textLength (0 : Int32) b_read (0 : Int32) (0 : Int32) b_wants b_comes) H := hP
  have hD : va_D A (wM g q b_m b_written b_spare b_spareWritten b_states b_fifth b_oldest b_stateCount b_text b_textLength (0 : Int32) b_read (0 : Int32) (0 : Int32) b_wants b_comes) := hD
  refine lv_iconst (v := (0 : Int32)) hx hb dX5_readText_15 (by decide) ?_
  refine lv_istore_n (lv' := [(1, .int (0 : Int32)), (0, .ref (q 0))]) hx hb dX5_readText_16 rfl hl (by decide) rfl (fun ls hl => ?_)
  have loop_1 : ∀ (kx_1 : Int32 → (Nat → Int32) → Prop), (∀ (v1_1 : Int32) (b_read_2 : Nat → Int32) (H : Heap) (locs : List Loc) (ls : Array Slot), kx_1 v1_1 b_read_2 → va_P g.1 vwCl (wM g q b_m b_written b_spare b_spareWritten b_states b_fifth b_oldest b_stateCount b_text b_textLength (0 : Int32) b_read_2 (0 : Int32) (0 : Int32) b_wants b_comes) H → va_D A (wM g q b_m b_written b_spare b_spareWritten b_states b_fifth b_oldest b_stateCount b_text b_textLength (0 : Int32) b_read_2 (0 : Int32) (0 : Int32) b_wants b_comes) → va_S A s.heap H locs → lv_has ls 2 [(1, .int v1_1), (0, .ref (q 0))] → W p l e (headSpec wsX5_readText ({ frames := 4, cells := 0, slots := 0, locals := 85 })).room s m ([.ref (q 0)] : List Value).toArray below meth c H locs 0 0 (MQ below (va_Qi (fun (r : Int32) (u : Int32 × (Nat → Int32) × Int32 × Int32) => k r u.1 u.2.1 u.2.2.1 u.2.2.2) (fun u t => PostB g A (wM g q b_m b_written b_spare b_spareWritten b_states b_fifth b_oldest b_stateCount b_text b_textLength u.1 u.2.1 u.2.2.1 u.2.2.2 b_wants b_comes) t) A) ([.ref (q 0)] : List Value).toArray s 0 0 A) (F0 m 36 ls [])) → ∀ (n_1 : Nat) (v1_1 : Int32) (b_read_2 : Nat → Int32) (H : Heap) (locs : List Loc) (ls : Array Slot), PX5_readText_L1  kx_1 n_1 v1_1 b_read_2 → va_P g.1 vwCl (wM g q b_m b_written b_spare b_spareWritten b_states b_fifth b_oldest b_stateCount b_text b_textLength (0 : Int32) b_read_2 (0 : Int32) (0 : Int32) b_wants b_comes) H → va_D A (wM g q b_m b_written b_spare b_spareWritten b_states b_fifth b_oldest b_stateCount b_text b_textLength (0 : Int32) b_read_2 (0 : Int32) (0 : Int32) b_wants b_comes) → va_S A s.heap H locs → lv_has ls 2 [(1, .int v1_1), (0, .ref (q 0))] → W p l e (headSpec wsX5_readText ({ frames := 4, cells := 0, slots := 0, locals := 85 })).room s m ([.ref (q 0)] : List Value).toArray below meth c H locs 0 0 (MQ below (va_Qi (fun (r : Int32) (u : Int32 × (Nat → Int32) × Int32 × Int32) => k r u.1 u.2.1 u.2.2.1 u.2.2.2) (fun u t => PostB g A (wM g q b_m b_written b_spare b_spareWritten b_states b_fifth b_oldest b_stateCount b_text b_textLength u.1 u.2.1 u.2.2.1 u.2.2.2 b_wants b_comes) t) A) ([.ref (q 0)] : List Value).toArray s 0 0 A) (F0 m 17 ls []) := by
    intro kx_1 hexit_1 n_1
    induction n_1 with
    | zero => exact fun _ _ _ _ _ h _ _ _ _ => (h : False).elim
    | succ n_1 ih_1 =>
      intro v1_1 b_read_2 H locs ls h hP hD hS hl
      unfold PX5_readText_L1 at h
      refine lv_iload_n hx hb dX5_readText_17 rfl (lv_at hl 0 rfl) ?_
      refine lv_bipush (v := (80 : Int32)) hx hb dX5_readText_18 (by decide) ?_
      refine lv_icmp_ge (tgt := 36) hx hb dX5_readText_20 (by decide) (fun c_20_2 => ?_) (fun c_20_2 => ?_)
      · replace h := h.1 c_20_2
        exact hexit_1 v1_1 b_read_2 H locs ls h hP hD hS (lv_sub hl [0, 1] rfl)
      · replace h := h.2 c_20_2
        refine lv_aload_n hx hb dX5_readText_23 rfl (lv_at hl 1 rfl) ?_
        refine va_get (D := g.1) (ci := 5) (v := .ref (q 8)) (C := RX5) (T := TX5) (N := 16) hx hb hts iX5 hown hK.1 hP 0 rfl rfl 11 (by decide) (hts (.fieldLink RX5 31 "LightWheelModel" "read" "[I") (by decide +kernel)) (fun _ h9 => h9) rfl dX5_readText_24 ?_
        refine lv_iload_n hx hb dX5_readText_27 rfl (lv_at hl 0 rfl) ?_
        refine lv_iconst (v := (0 : Int32)) hx hb dX5_readText_28 (by decide) ?_
        have o_29_3 := h.1
        replace h := h.2
        refine xs_iast hx hb hK.1 hP hD hS 8 0 rfl rfl o_29_3 dX5_readText_29 (fun b_read_5 e_b_read_5 H locs hP hD hS => ?_)
        replace h := h b_read_5 e_b_read_5
        have hP : va_P g.1 vwCl (wM g q b_m b_written b_spare b_spareWritten b_states b_fifth b_oldest b_stateCount b_text b_textLength (0 : Int32) b_read_5 (0 : Int32) (0 : Int32) b_wants b_comes) H := hP
        have hD : va_D A (wM g q b_m b_written b_spare b_spareWritten b_states b_fifth b_oldest b_stateCount b_text b_textLength (0 : Int32) b_read_5 (0 : Int32) (0 : Int32) b_wants b_comes) := hD
        obtain ⟨v1_6, e_v1_6⟩ : ∃ y : Int32, y = v1_1 + (1 : Int32) := ⟨_, rfl⟩
        replace h := h v1_6 e_v1_6
        refine lv_iinc (v := v1_6) (lv' := [(1, .int v1_6), (0, .ref (q 0))]) hx hb dX5_readText_30 hl (k := 0) rfl (by rw [e_v1_6]; rfl) (by decide) rfl (fun ls hl => ?_)
        refine lv_goto (tgt := 17) hx hb dX5_readText_33 (by decide) ?_
        exact ih_1 v1_6 b_read_5 H locs ls h hP hD hS (lv_sub hl [0, 1] rfl)
  obtain ⟨n_1, h⟩ := h
  refine loop_1 _ ?_ n_1 (0 : Int32) b_read _ _ ls h hP hD hS (lv_sub hl [0, 1] rfl)
  intro v1_1 b_read_2 H locs ls h hP hD hS hl
  refine lv_aload_n hx hb dX5_readText_36 rfl (lv_at hl 1 rfl) ?_
  have hFc := va_freeA hD hS hA
  refine va_callv (va_runV (As := []) (rest := []) ⟨hx, hb, hml, hown, hts⟩ (kX5_skip l g q H.size b_m b_written b_spare b_spareWritten b_states b_fifth b_oldest b_stateCount b_text b_textLength (0 : Int32) b_read_2 (0 : Int32) (0 : Int32) b_wants b_comes _ h) (cwV 0 hts gX5_readText_X5_skip rfl rfl rfl hdX5_skip ⟨(Nat.le_of_ble_eq_true rfl), (Nat.le_of_ble_eq_true rfl)⟩) (preV_M (r := (RX5, TX5, 16)) hK hP hD (ci := 5) (q0 := 0) rfl rfl) rfl rfl hl.1 rfl (lv_room (Nat.le_of_ble_eq_true rfl)) dX5_readText_37 ⟨(Nat.le_of_ble_eq_true rfl), (Nat.le_of_ble_eq_true rfl)⟩) hS (fun q _ h9 => hFc q h9) hFc (fun u t H1 locs ht hvm hw hB hz1 hk1 hS => ?_)
  obtain ⟨b_at_7, ez9⟩ : ∃ y, y = u := ⟨_, rfl⟩
  subst ez9
  replace h := hw
  try dsimp only at h
  obtain ⟨hP, hD⟩ := jn0 (wf := (wM g q b_m b_written b_spare b_spareWritten b_states b_fifth b_oldest b_stateCount b_text b_textLength b_at_7 b_read_2 (0 : Int32) (0 : Int32) b_wants b_comes)) hB ht hFc
  have hP : va_P g.1 vwCl (wM g q b_m b_written b_spare b_spareWritten b_states b_fifth b_oldest b_stateCount b_text b_textLength b_at_7 b_read_2 (0 : Int32) (0 : Int32) b_wants b_comes) H1 := hP
  have hD : va_D A (wM g q b_m b_written b_spare b_spareWritten b_states b_fifth b_oldest b_stateCount b_text b_textLength b_at_7 b_read_2 (0 : Int32) (0 : Int32) b_wants b_comes) := hD
  clear hk1 hz1 hB ht hw hFc
  generalize H1 = H at hP hS ⊢
  refine lv_iconst (v := (1 : Int32)) hx hb dX5_readText_40 (by decide) ?_
  refine lv_istore_n (lv' := [(1, .int (1 : Int32)), (0, .ref (q 0))]) hx hb dX5_readText_41 rfl hl (by decide) rfl (fun ls hl => ?_)
  have loop_2 : ∀ (kx_2 : Int32 → Int32 → (Nat → Int32) → Int32 → Int32 → Prop), (∀ (v1_8 : Int32) (b_at_9 : Int32) (b_read_10 : Nat → Int32) (b_columns_11 : Int32) (b_told_12 : Int32) (H : Heap) (locs : List Loc) (ls : Array Slot), kx_2 v1_8 b_at_9 b_read_10 b_columns_11 b_told_12 → va_P g.1 vwCl (wM g q b_m b_written b_spare b_spareWritten b_states b_fifth b_oldest b_stateCount b_text b_textLength b_at_9 b_read_10 b_columns_11 b_told_12 b_wants b_comes) H → va_D A (wM g q b_m b_written b_spare b_spareWritten b_states b_fifth b_oldest b_stateCount b_text b_textLength b_at_9 b_read_10 b_columns_11 b_told_12 b_wants b_comes) → va_S A s.heap H locs → lv_has ls 2 [(1, .int v1_8), (0, .ref (q 0))] → W p l e (headSpec wsX5_readText ({ frames := 4, cells := 0, slots := 0, locals := 85 })).room s m ([.ref (q 0)] : List Value).toArray below meth c H locs 0 0 (MQ below (va_Qi (fun (r : Int32) (u : Int32 × (Nat → Int32) × Int32 × Int32) => k r u.1 u.2.1 u.2.2.1 u.2.2.2) (fun u t => PostB g A (wM g q b_m b_written b_spare b_spareWritten b_states b_fifth b_oldest b_stateCount b_text b_textLength u.1 u.2.1 u.2.2.1 u.2.2.2 b_wants b_comes) t) A) ([.ref (q 0)] : List Value).toArray s 0 0 A) (F0 m 73 ls [])) → ∀ (n_2 : Nat) (v1_8 : Int32) (b_at_9 : Int32) (b_read_10 : Nat → Int32) (b_columns_11 : Int32) (b_told_12 : Int32) (H : Heap) (locs : List Loc) (ls : Array Slot), PX5_readText_L2 b_text b_textLength kx_2 n_2 v1_8 b_at_9 b_read_10 b_columns_11 b_told_12 → va_P g.1 vwCl (wM g q b_m b_written b_spare b_spareWritten b_states b_fifth b_oldest b_stateCount b_text b_textLength b_at_9 b_read_10 b_columns_11 b_told_12 b_wants b_comes) H → va_D A (wM g q b_m b_written b_spare b_spareWritten b_states b_fifth b_oldest b_stateCount b_text b_textLength b_at_9 b_read_10 b_columns_11 b_told_12 b_wants b_comes) → va_S A s.heap H locs → lv_has ls 2 [(1, .int v1_8), (0, .ref (q 0))] → W p l e (headSpec wsX5_readText ({ frames := 4, cells := 0, slots := 0, locals := 85 })).room s m ([.ref (q 0)] : List Value).toArray below meth c H locs 0 0 (MQ below (va_Qi (fun (r : Int32) (u : Int32 × (Nat → Int32) × Int32 × Int32) => k r u.1 u.2.1 u.2.2.1 u.2.2.2) (fun u t => PostB g A (wM g q b_m b_written b_spare b_spareWritten b_states b_fifth b_oldest b_stateCount b_text b_textLength u.1 u.2.1 u.2.2.1 u.2.2.2 b_wants b_comes) t) A) ([.ref (q 0)] : List Value).toArray s 0 0 A) (F0 m 42 ls []) := by
    intro kx_2 hexit_2 n_2
    induction n_2 with
    | zero => exact fun _ _ _ _ _ _ _ _ h _ _ _ _ => (h : False).elim
    | succ n_2 ih_2 =>
      intro v1_8 b_at_9 b_read_10 b_columns_11 b_told_12 H locs ls h hP hD hS hl
      unfold PX5_readText_L2 at h
      refine lv_iload_n hx hb dX5_readText_42 rfl (lv_at hl 0 rfl) ?_
      refine lv_if_eq (tgt := 73) hx hb dX5_readText_43 (by decide) (fun c_43_12 => ?_) (fun c_43_12 => ?_)
      · replace h := h.1 c_43_12
        exact hexit_2 v1_8 b_at_9 b_read_10 b_columns_11 b_told_12 H locs ls h hP hD hS (lv_sub hl [0, 1] rfl)
      · replace h := h.2 c_43_12
        refine lv_aload_n hx hb dX5_readText_46 rfl (lv_at hl 1 rfl) ?_
        refine va_get (D := g.1) (ci := 5) (v := .int b_at_9) (C := RX5) (T := TX5) (N := 16) hx hb hts iX5 hown hK.1 hP 0 rfl rfl 10 (by decide) (hts (.fieldLink RX5 103 "LightWheelModel" "at" "I") (by decide +kernel)) (fun _ h9 => h9) rfl dX5_readText_47 ?_
        refine lv_aload_n hx hb dX5_readText_50 rfl (lv_at hl 1 rfl) ?_
        refine va_get (D := g.1) (ci := 5) (v := .int b_textLength) (C := RX5) (T := TX5) (N := 16) hx hb hts iX5 hown hK.1 hP 0 rfl rfl 9 (by decide) (hts (.fieldLink RX5 100 "LightWheelModel" "textLength" "I") (by decide +kernel)) (fun _ h9 => h9) rfl dX5_readText_51 ?_
        refine lv_icmp_ge (tgt := 73) hx hb dX5_readText_54 (by decide) (fun c_54_13 => ?_) (fun c_54_13 => ?_)
        · replace h := h.1 c_54_13
          exact hexit_2 v1_8 b_at_9 b_read_10 b_columns_11 b_told_12 H locs ls h hP hD hS (lv_sub hl [0, 1] rfl)
        · replace h := h.2 c_54_13
          refine lv_aload_n hx hb dX5_readText_57 rfl (lv_at hl 1 rfl) ?_
          have hFc := va_freeA hD hS hA
          refine va_calli (va_runV (As := []) (rest := []) ⟨hx, hb, hml, hown, hts⟩ (kX5_readPart l g q H.size b_m b_written b_spare b_spareWritten b_states b_fifth b_oldest b_stateCount b_text b_textLength b_at_9 b_read_10 b_columns_11 b_told_12 b_wants b_comes _ h) (cwV 0 hts gX5_readText_X5_readPart rfl rfl rfl hdX5_readPart ⟨(Nat.le_of_ble_eq_true rfl), (Nat.le_of_ble_eq_true rfl)⟩) (preV_M (r := (RX5, TX5, 16)) hK hP hD (ci := 5) (q0 := 0) rfl rfl) rfl rfl hl.1 rfl (lv_room (Nat.le_of_ble_eq_true rfl)) dX5_readText_58 ⟨(Nat.le_of_ble_eq_true rfl), (Nat.le_of_ble_eq_true rfl)⟩) hS (fun q _ h9 => hFc q h9) hFc (fun r58_19 u t H1 locs ht hvm hw hB hz1 hk1 hS => ?_)
          obtain ⟨b_at_15, b_read_16, b_columns_17, b_told_18⟩ := u
          replace h := hw
          try dsimp only at h
          obtain ⟨hP, hD⟩ := jn0 (wf := (wM g q b_m b_written b_spare b_spareWritten b_states b_fifth b_oldest b_stateCount b_text b_textLength b_at_15 b_read_16 b_columns_17 b_told_18 b_wants b_comes)) hB ht hFc
          have hP : va_P g.1 vwCl (wM g q b_m b_written b_spare b_spareWritten b_states b_fifth b_oldest b_stateCount b_text b_textLength b_at_15 b_read_16 b_columns_17 b_told_18 b_wants b_comes) H1 := hP
          have hD : va_D A (wM g q b_m b_written b_spare b_spareWritten b_states b_fifth b_oldest b_stateCount b_text b_textLength b_at_15 b_read_16 b_columns_17 b_told_18 b_wants b_comes) := hD
          clear hk1 hz1 hB ht hw hFc
          generalize H1 = H at hP hS ⊢
          refine lv_istore_n (lv' := [(1, .int r58_19), (0, .ref (q 0))]) hx hb dX5_readText_61 rfl hl (by decide) rfl (fun ls hl => ?_)
          refine lv_iload_n hx hb dX5_readText_62 rfl (lv_at hl 0 rfl) ?_
          refine lv_if_eq (tgt := 42) hx hb dX5_readText_63 (by decide) (fun c_63_19 => ?_) (fun c_63_19 => ?_)
          · replace h := h.1 c_63_19
            exact ih_2 r58_19 b_at_15 b_read_16 b_columns_17 b_told_18 H locs ls h hP hD hS (lv_sub hl [0, 1] rfl)
          · replace h := h.2 c_63_19
            refine lv_aload_n hx hb dX5_readText_66 rfl (lv_at hl 1 rfl) ?_
            have hFc := va_freeA hD hS hA
            refine va_callv (va_runV (As := []) (rest := []) ⟨hx, hb, hml, hown, hts⟩ (kX5_skip l g q H.size b_m b_written b_spare b_spareWritten b_states b_fifth b_oldest b_stateCount b_text b_textLength b_at_15 b_read_16 b_columns_17 b_told_18 b_wants b_comes _ h) (cwV 0 hts gX5_readText_X5_skip rfl rfl rfl hdX5_skip ⟨(Nat.le_of_ble_eq_true rfl), (Nat.le_of_ble_eq_true rfl)⟩) (preV_M (r := (RX5, TX5, 16)) hK hP hD (ci := 5) (q0 := 0) rfl rfl) rfl rfl hl.1 rfl (lv_room (Nat.le_of_ble_eq_true rfl)) dX5_readText_67 ⟨(Nat.le_of_ble_eq_true rfl), (Nat.le_of_ble_eq_true rfl)⟩) hS (fun q _ h9 => hFc q h9) hFc (fun u t H1 locs ht hvm hw hB hz1 hk1 hS => ?_)
            obtain ⟨b_at_21, ez9⟩ : ∃ y, y = u := ⟨_, rfl⟩
            subst ez9
            replace h := hw
            try dsimp only at h
            obtain ⟨hP, hD⟩ := jn0 (wf := (wM g q b_m b_written b_spare b_spareWritten b_states b_fifth b_oldest b_stateCount b_text b_textLength b_at_21 b_read_16 b_columns_17 b_told_18 b_wants b_comes)) hB ht hFc
            have hP : va_P g.1 vwCl (wM g q b_m b_written b_spare b_spareWritten b_states b_fifth b_oldest b_stateCount b_text b_textLength b_at_21 b_read_16 b_columns_17 b_told_18 b_wants b_comes) H1 := hP
            have hD : va_D A (wM g q b_m b_written b_spare b_spareWritten b_states b_fifth b_oldest b_stateCount b_text b_textLength b_at_21 b_read_16 b_columns_17 b_told_18 b_wants b_comes) := hD
            clear hk1 hz1 hB ht hw hFc
            generalize H1 = H at hP hS ⊢
            refine lv_goto (tgt := 42) hx hb dX5_readText_70 (by decide) ?_
            exact ih_2 r58_19 b_at_21 b_read_16 b_columns_17 b_told_18 H locs ls h hP hD hS (lv_sub hl [0, 1] rfl)
  obtain ⟨n_2, h⟩ := h
  refine loop_2 _ ?_ n_2 (1 : Int32) b_at_7 b_read_2 (0 : Int32) (0 : Int32) _ _ ls h hP hD hS (lv_sub hl [0, 1] rfl)
  intro v1_8 b_at_9 b_read_10 b_columns_11 b_told_12 H locs ls h hP hD hS hl
  refine lv_iload_n hx hb dX5_readText_73 rfl (lv_at hl 0 rfl) ?_
  have hbz := h.1
  replace h := h.2
  exact W.zret (v := v1_8) hx hb hr (by rcases hbz with e9 | e9 <;> rw [e9] <;> rfl) (fun t ht hW => ⟨⟨v1_8, (b_at_9, b_read_10, b_columns_11, b_told_12), rfl, h, by rw [ht]; exact hP, hD⟩, hS.F ht⟩) hS.2.2 dX5_readText_74
theorem hdX5_load : yX5_load.cls = RX5 ∧ yX5_load.cls ≠ "java/lang/invoke/MethodHandle" ∧ yX5_load.cls ≠ "java/lang/invoke/VarHandle" ∧ (parseMethodDescriptor yX5_load.desc).map (fun d => d.parameters.length) = some 1 := by decide +kernel
set_option maxHeartbeats 4000000 in
set_option maxRecDepth 100000 in
theorem kX5_load (l : Launch) (g : GG) (q : Nat → Nat) (sz : Nat) (b_m : Nat → Int32) (b_written : Nat → Int32) (b_spare : Nat → Int32) (b_spareWritten : Nat → Int32) (b_states : Nat → Int32) (b_fifth : Nat → Int32) (b_oldest : Int32) (b_stateCount : Int32) (b_text : Nat → Int32) (b_textLength : Int32) (b_at : Int32) (b_read : Nat → Int32) (b_columns : Int32) (b_told : Int32) (b_wants : Nat → Int32) (b_comes : Nat → Int32) (a_1 : Int32) (k : Int32 → (Nat → Int32) → (Nat → Int32) → (Nat → Int32) → Int32 → Int32 → Int32 → Int32 → (Nat → Int32) → Int32 → Int32 → Prop) (h : PX5_load b_m b_written b_states b_fifth b_oldest b_stateCount b_text b_textLength b_at b_read b_columns b_told a_1 k) : Met l yX5_load wsX5_load ({ frames := 5, cells := 0, slots := 0, locals := 106 }) (PreM g [.ref (q 0), .int a_1] (wM g q b_m b_written b_spare b_spareWritten b_states b_fifth b_oldest b_stateCount b_text b_textLength b_at b_read b_columns b_told b_wants b_comes) sz) (va_Qi (fun (r : Int32) (u : (Nat → Int32) × (Nat → Int32) × (Nat → Int32) × Int32 × Int32 × Int32 × Int32 × (Nat → Int32) × Int32 × Int32) => k r u.1 u.2.1 u.2.2.1 u.2.2.2.1 u.2.2.2.2.1 u.2.2.2.2.2.1 u.2.2.2.2.2.2.1 u.2.2.2.2.2.2.2.1 u.2.2.2.2.2.2.2.2.1 u.2.2.2.2.2.2.2.2.2) (fun u t => PostB g (va_A (wM g q b_m b_written b_spare b_spareWritten b_states b_fifth b_oldest b_stateCount b_text b_textLength b_at b_read b_columns b_told b_wants b_comes) sz) (wM g q u.1 b_written b_spare b_spareWritten u.2.1 u.2.2.1 u.2.2.2.1 u.2.2.2.2.1 b_text u.2.2.2.2.2.1 u.2.2.2.2.2.2.1 u.2.2.2.2.2.2.2.1 u.2.2.2.2.2.2.2.2.1 u.2.2.2.2.2.2.2.2.2 b_wants b_comes) t) (va_A (wM g q b_m b_written b_spare b_spareWritten b_states b_fifth b_oldest b_stateCount b_text b_textLength b_at b_read b_columns b_told b_wants b_comes) sz)) 0 0 (va_A (wM g q b_m b_written b_spare b_spareWritten b_states b_fifth b_oldest b_stateCount b_text b_textLength b_at b_read b_columns b_told b_wants b_comes) sz) := by
  refine Met.ofW (cc := cX5_load) (maxL := 3) (ret := (some .int)) (by decide) rfl ?_
  intro p e s m args below meth c s₁ B hml hv
  obtain ⟨rfl, hsz, hP, hK, hD0⟩ := hv
  have hx := B.exec
  have hb := B.bytes
  have hr := B.returns
  have hts := atoms_spec (ws := wsX5_load) B.pre
  have hown : s.vm.findClass RX5 = some m.cls := findClass_of_methodNamed B.named
  have hlocks := B.notSynchronized
  have iX5 : ∀ w ∈ wsX50, w ∈ wsX5_load := by decide +kernel
  subst hsz
  have hD := hD0.self (sz := s.heap.size)
  generalize hAe : va_A (wM g q b_m b_written b_spare b_spareWritten b_states b_fifth b_oldest b_stateCount b_text b_textLength b_at b_read b_columns b_told b_wants b_comes) s.heap.size = A at hD ⊢
  have hA : ∀ q : Nat, s.heap.size ≤ q → A q := fun q h => by rw [← hAe]; exact Or.inr h
  clear hAe hD0
  have hS : va_S A s.heap s.heap [] := va_S.rf
  have hl := lv_entry ([.ref (q 0), .int a_1]) (n := 3) (Nat.le_of_ble_eq_true rfl)
  rw [lg_entry_eq]
  generalize (lg_sl ([.ref (q 0), .int a_1]) ++ List.replicate (3 - (lg_sl ([.ref (q 0), .int a_1])).length) Slot.unset).toArray = ls at hl ⊢
  have hl : lv_has ls 3 [(0, .ref (q 0)), (1, .int a_1)] := hl
  unfold PX5_load at h
  obtain ⟨H, hHe⟩ : ∃ y, y = s.heap := ⟨_, rfl⟩
  rw [← hHe] at hP
  have hS : va_S A s.heap H [] := by rw [hHe]; exact hS
  have hW0 : ∀ (Q : State → Prop), W p l e (headSpec wsX5_load ({ frames := 5, cells := 0, slots := 0, locals := 106 })).room s m ([.ref (q 0), .int a_1] : List Value).toArray below meth c H [] 0 0 Q (F0 m 0 ls []) → W p l e (headSpec wsX5_load ({ frames := 5, cells := 0, slots := 0, locals := 106 })).room s m ([.ref (q 0), .int a_1] : List Value).toArray below meth c s.heap [] 0 0 Q (F0 m 0 ls []) := by rw [hHe]; exact fun _ h9 => h9
  refine hW0 _ ?_
  clear hW0 hHe
  generalize ([] : List Loc) = locs at hS ⊢
  refine lv_aload_n hx hb dX5_load_0 rfl (lv_at hl 0 rfl) ?_
  refine lv_iload_n hx hb dX5_load_1 rfl (lv_at hl 1 rfl) ?_
  refine vp_callSi (W.runV (As := [.int a_1]) (rest := []) ⟨hx, hb, hml, hown, hts⟩ (kX5_isPicture l g q b_m b_written b_spare b_spareWritten b_states b_fifth b_oldest b_stateCount b_text b_textLength b_at b_read b_columns b_told b_wants b_comes a_1 _ h) (cwV 1 hts gX5_load_X5_isPicture rfl rfl rfl hdX5_isPicture ⟨(Nat.le_of_ble_eq_true rfl), (Nat.le_of_ble_eq_true rfl)⟩) (preV_R (r := (RX5, TX5, 16)) hK hP (ci := 5) (q0 := 0) rfl rfl) rfl rfl hl.1 rfl (lv_room (Nat.le_of_ble_eq_true rfl)) dX5_load_2 ⟨(Nat.le_of_ble_eq_true rfl), (Nat.le_of_ble_eq_true rfl)⟩) (fun r2_1 h => ?_)
  refine lv_if_ne (tgt := 11) hx hb dX5_load_5 (by decide) (fun c_5_1 => ?_) (fun c_5_1 => ?_)
  · replace h := h.1 c_5_1
    refine lv_aload_n hx hb dX5_load_11 rfl (lv_at hl 0 rfl) ?_
    have hFc := va_freeA hD hS hA
    refine va_calli (va_runV (As := []) (rest := []) ⟨hx, hb, hml, hown, hts⟩ (kX5_readText l g q H.size b_m b_written b_spare b_spareWritten b_states b_fifth b_oldest b_stateCount b_text b_textLength b_at b_read b_columns b_told b_wants b_comes _ h) (cwV 0 hts gX5_load_X5_readText rfl rfl rfl hdX5_readText ⟨(Nat.le_of_ble_eq_true rfl), (Nat.le_of_ble_eq_true rfl)⟩) (preV_M (r := (RX5, TX5, 16)) hK hP hD (ci := 5) (q0 := 0) rfl rfl) rfl rfl hl.1 rfl (lv_room (Nat.le_of_ble_eq_true rfl)) dX5_load_12 ⟨(Nat.le_of_ble_eq_true rfl), (Nat.le_of_ble_eq_true rfl)⟩) hS (fun q _ h9 => hFc q h9) hFc (fun r12_7 u t H1 locs ht hvm hw hB hz1 hk1 hS => ?_)
    obtain ⟨b_at_3, b_read_4, b_columns_5, b_told_6⟩ := u
    replace h := hw
    try dsimp only at h
    obtain ⟨hP, hD⟩ := jn0 (wf := (wM g q b_m b_written b_spare b_spareWritten b_states b_fifth b_oldest b_stateCount b_text b_textLength b_at_3 b_read_4 b_columns_5 b_told_6 b_wants b_comes)) hB ht hFc
    have hP : va_P g.1 vwCl (wM g q b_m b_written b_spare b_spareWritten b_states b_fifth b_oldest b_stateCount b_text b_textLength b_at_3 b_read_4 b_columns_5 b_told_6 b_wants b_comes) H1 := hP
    have hD : va_D A (wM g q b_m b_written b_spare b_spareWritten b_states b_fifth b_oldest b_stateCount b_text b_textLength b_at_3 b_read_4 b_columns_5 b_told_6 b_wants b_comes) := hD
    clear hk1 hz1 hB ht hw hFc
    generalize H1 = H at hP hS ⊢
    refine lv_if_ne (tgt := 27) hx hb dX5_load_15 (by decide) (fun c_15_7 => ?_) (fun c_15_7 => ?_)
    · replace h := h.1 c_15_7
      refine lv_aload_n hx hb dX5_load_27 rfl (lv_at hl 0 rfl) ?_
      have hFc := va_freeA hD hS hA
      refine va_callv (va_runV (As := []) (rest := []) ⟨hx, hb, hml, hown, hts⟩ (kX5_record l g q H.size b_m b_written b_spare b_spareWritten b_states b_fifth b_oldest b_stateCount b_text b_textLength b_at_3 b_read_4 b_columns_5 b_told_6 b_wants b_comes _ h) (cwV 0 hts gX5_load_X5_record rfl rfl rfl hdX5_record ⟨(Nat.le_of_ble_eq_true rfl), (Nat.le_of_ble_eq_true rfl)⟩) (preV_M (r := (RX5, TX5, 16)) hK hP hD (ci := 5) (q0 := 0) rfl rfl) rfl rfl hl.1 rfl (lv_room (Nat.le_of_ble_eq_true rfl)) dX5_load_28 ⟨(Nat.le_of_ble_eq_true rfl), (Nat.le_of_ble_eq_true rfl)⟩) hS (fun q _ h9 => hFc q h9) hFc (fun u t H1 locs ht hvm hw hB hz1 hk1 hS => ?_)
      obtain ⟨b_states_9, b_fifth_10, b_oldest_11, b_stateCount_12⟩ := u
      replace h := hw
      try dsimp only at h
      obtain ⟨hP, hD⟩ := jn0 (wf := (wM g q b_m b_written b_spare b_spareWritten b_states_9 b_fifth_10 b_oldest_11 b_stateCount_12 b_text b_textLength b_at_3 b_read_4 b_columns_5 b_told_6 b_wants b_comes)) hB ht hFc
      have hP : va_P g.1 vwCl (wM g q b_m b_written b_spare b_spareWritten b_states_9 b_fifth_10 b_oldest_11 b_stateCount_12 b_text b_textLength b_at_3 b_read_4 b_columns_5 b_told_6 b_wants b_comes) H1 := hP
      have hD : va_D A (wM g q b_m b_written b_spare b_spareWritten b_states_9 b_fifth_10 b_oldest_11 b_stateCount_12 b_text b_textLength b_at_3 b_read_4 b_columns_5 b_told_6 b_wants b_comes) := hD
      clear hk1 hz1 hB ht hw hFc
      generalize H1 = H at hP hS ⊢
      refine lv_aload_n hx hb dX5_load_31 rfl (lv_at hl 0 rfl) ?_
      refine lv_iconst (v := (0 : Int32)) hx hb dX5_load_32 (by decide) ?_
      refine va_put (D := g.1) (ci := 5) (v := .int (0 : Int32)) (ty := .int) (C := RX5) (T := TX5) (N := 16) hx hb hts iX5 tyX5 tyX5_ok nmX5 hown hK.1 hP hD hS 0 rfl rfl 9 (by decide) (hts (.fieldLink RX5 100 "LightWheelModel" "textLength" "I") (by decide +kernel)) (fun _ h9 => h9) rfl (by decide +kernel) rfl rfl (Nat.le_of_ble_eq_true rfl) dX5_load_33 (fun H locs hP hD hS => ?_)
      have hP : va_P g.1 vwCl (wM g q b_m b_written b_spare b_spareWritten b_states_9 b_fifth_10 b_oldest_11 b_stateCount_12 b_text (0 : Int32) b_at_3 b_read_4 b_columns_5 b_told_6 b_wants b_comes) H := hP
      have hD : va_D A (wM g q b_m b_written b_spare b_spareWritten b_states_9 b_fifth_10 b_oldest_11 b_stateCount_12 b_text (0 : Int32) b_at_3 b_read_4 b_columns_5 b_told_6 b_wants b_comes) := hD
      refine lv_aload_n hx hb dX5_load_36 rfl (lv_at hl 0 rfl) ?_
      refine va_get (D := g.1) (ci := 5) (v := .ref (q 1)) (C := RX5) (T := TX5) (N := 16) hx hb hts iX5 hown hK.1 hP 0 rfl rfl 0 (by decide) (hts (.fieldLink RX5 7 "LightWheelModel" "m" "[I") (by decide +kernel)) (fun _ h9 => h9) rfl dX5_load_37 ?_
      refine lv_bipush (v := (12 : Int32)) hx hb dX5_load_40 (by decide) ?_
      refine lv_iconst (v := (4 : Int32)) hx hb dX5_load_42 (by decide) ?_
      refine lv_iload_n hx hb dX5_load_43 rfl (lv_at hl 1 rfl) ?_
      refine lv_imul hx hb dX5_load_44 ?_
      refine lv_iadd hx hb dX5_load_45 ?_
      refine lv_iconst (v := (0 : Int32)) hx hb dX5_load_46 (by decide) ?_
      refine lv_iadd hx hb dX5_load_47 ?_
      refine lv_aload_n hx hb dX5_load_48 rfl (lv_at hl 0 rfl) ?_
      refine va_get (D := g.1) (ci := 5) (v := .int b_columns_5) (C := RX5) (T := TX5) (N := 16) hx hb hts iX5 hown hK.1 hP 0 rfl rfl 12 (by decide) (hts (.fieldLink RX5 110 "LightWheelModel" "columns" "I") (by decide +kernel)) (fun _ h9 => h9) rfl dX5_load_49 ?_
      refine lv_iconst (v := (1 : Int32)) hx hb dX5_load_52 (by decide) ?_
      refine lv_iadd hx hb dX5_load_53 ?_
      have o_54_12 := h.1
      replace h := h.2
      refine xs_iast hx hb hK.1 hP hD hS 1 0 rfl rfl o_54_12 dX5_load_54 (fun b_m_14 e_b_m_14 H locs hP hD hS => ?_)
      replace h := h b_m_14 e_b_m_14
      have hP : va_P g.1 vwCl (wM g q b_m_14 b_written b_spare b_spareWritten b_states_9 b_fifth_10 b_oldest_11 b_stateCount_12 b_text (0 : Int32) b_at_3 b_read_4 b_columns_5 b_told_6 b_wants b_comes) H := hP
      have hD : va_D A (wM g q b_m_14 b_written b_spare b_spareWritten b_states_9 b_fifth_10 b_oldest_11 b_stateCount_12 b_text (0 : Int32) b_at_3 b_read_4 b_columns_5 b_told_6 b_wants b_comes) := hD
      refine lv_iconst (v := (0 : Int32)) hx hb dX5_load_55 (by decide) ?_
      refine lv_istore_n (lv' := [(2, .int (0 : Int32)), (0, .ref (q 0)), (1, .int a_1)]) hx hb dX5_load_56 rfl hl (by decide) rfl (fun ls hl => ?_)
      have loop_1 : ∀ (kx_1 : Int32 → (Nat → Int32) → Prop), (∀ (v2_15 : Int32) (b_m_16 : Nat → Int32) (H : Heap) (locs : List Loc) (ls : Array Slot), kx_1 v2_15 b_m_16 → va_P g.1 vwCl (wM g q b_m_16 b_written b_spare b_spareWritten b_states_9 b_fifth_10 b_oldest_11 b_stateCount_12 b_text (0 : Int32) b_at_3 b_read_4 b_columns_5 b_told_6 b_wants b_comes) H → va_D A (wM g q b_m_16 b_written b_spare b_spareWritten b_states_9 b_fifth_10 b_oldest_11 b_stateCount_12 b_text (0 : Int32) b_at_3 b_read_4 b_columns_5 b_told_6 b_wants b_comes) → va_S A s.heap H locs → lv_has ls 3 [(2, .int v2_15), (0, .ref (q 0)), (1, .int a_1)] → W p l e (headSpec wsX5_load ({ frames := 5, cells := 0, slots := 0, locals := 106 })).room s m ([.ref (q 0), .int a_1] : List Value).toArray below meth c H locs 0 0 (MQ below (va_Qi (fun (r : Int32) (u : (Nat → Int32) × (Nat → Int32) × (Nat → Int32) × Int32 × Int32 × Int32 × Int32 × (Nat → Int32) × Int32 × Int32) => k r u.1 u.2.1 u.2.2.1 u.2.2.2.1 u.2.2.2.2.1 u.2.2.2.2.2.1 u.2.2.2.2.2.2.1 u.2.2.2.2.2.2.2.1 u.2.2.2.2.2.2.2.2.1 u.2.2.2.2.2.2.2.2.2) (fun u t => PostB g A (wM g q u.1 b_written b_spare b_spareWritten u.2.1 u.2.2.1 u.2.2.2.1 u.2.2.2.2.1 b_text u.2.2.2.2.2.1 u.2.2.2.2.2.2.1 u.2.2.2.2.2.2.2.1 u.2.2.2.2.2.2.2.2.1 u.2.2.2.2.2.2.2.2.2 b_wants b_comes) t) A) ([.ref (q 0), .int a_1] : List Value).toArray s 0 0 A) (F0 m 89 ls [])) → ∀ (n_1 : Nat) (v2_15 : Int32) (b_m_16 : Nat → Int32) (H : Heap) (locs : List Loc) (ls : Array Slot), PX5_load_L1 a_1 b_read_4 kx_1 n_1 v2_15 b_m_16 → va_P g.1 vwCl (wM g q b_m_16 b_written b_spare b_spareWritten b_states_9 b_fifth_10 b_oldest_11 b_stateCount_12 b_text (0 : Int32) b_at_3 b_read_4 b_columns_5 b_told_6 b_wants b_comes) H → va_D A (wM g q b_m_16 b_written b_spare b_spareWritten b_states_9 b_fifth_10 b_oldest_11 b_stateCount_12 b_text (0 : Int32) b_at_3 b_read_4 b_columns_5 b_told_6 b_wants b_comes) → va_S A s.heap H locs → lv_has ls 3 [(2, .int v2_15), (0, .ref (q 0)), (1, .int a_1)] → W p l e (headSpec wsX5_load ({ frames := 5, cells := 0, slots := 0, locals := 106 })).room s m ([.ref (q 0), .int a_1] : List Value).toArray below meth c H locs 0 0 (MQ below (va_Qi (fun (r : Int32) (u : (Nat → Int32) × (Nat → Int32) × (Nat → Int32) × Int32 × Int32 × Int32 × Int32 × (Nat → Int32) × Int32 × Int32) => k r u.1 u.2.1 u.2.2.1 u.2.2.2.1 u.2.2.2.2.1 u.2.2.2.2.2.1 u.2.2.2.2.2.2.1 u.2.2.2.2.2.2.2.1 u.2.2.2.2.2.2.2.2.1 u.2.2.2.2.2.2.2.2.2) (fun u t => PostB g A (wM g q u.1 b_written b_spare b_spareWritten u.2.1 u.2.2.1 u.2.2.2.1 u.2.2.2.2.1 b_text u.2.2.2.2.2.1 u.2.2.2.2.2.2.1 u.2.2.2.2.2.2.2.1 u.2.2.2.2.2.2.2.2.1 u.2.2.2.2.2.2.2.2.2 b_wants b_comes) t) A) ([.ref (q 0), .int a_1] : List Value).toArray s 0 0 A) (F0 m 57 ls []) := by
        intro kx_1 hexit_1 n_1
        induction n_1 with
        | zero => exact fun _ _ _ _ _ h _ _ _ _ => (h : False).elim
        | succ n_1 ih_1 =>
          intro v2_15 b_m_16 H locs ls h hP hD hS hl
          unfold PX5_load_L1 at h
          refine lv_iload_n hx hb dX5_load_57 rfl (lv_at hl 0 rfl) ?_
          refine lv_bipush (v := (80 : Int32)) hx hb dX5_load_58 (by decide) ?_
          refine lv_icmp_ge (tgt := 89) hx hb dX5_load_60 (by decide) (fun c_60_16 => ?_) (fun c_60_16 => ?_)
          · replace h := h.1 c_60_16
            exact hexit_1 v2_15 b_m_16 H locs ls h hP hD hS (lv_sub hl [0, 1, 2] rfl)
          · replace h := h.2 c_60_16
            refine lv_aload_n hx hb dX5_load_63 rfl (lv_at hl 1 rfl) ?_
            refine va_get (D := g.1) (ci := 5) (v := .ref (q 1)) (C := RX5) (T := TX5) (N := 16) hx hb hts iX5 hown hK.1 hP 0 rfl rfl 0 (by decide) (hts (.fieldLink RX5 7 "LightWheelModel" "m" "[I") (by decide +kernel)) (fun _ h9 => h9) rfl dX5_load_64 ?_
            refine lv_bipush (v := (28 : Int32)) hx hb dX5_load_67 (by decide) ?_
            refine lv_bipush (v := (80 : Int32)) hx hb dX5_load_69 (by decide) ?_
            refine lv_iload_n hx hb dX5_load_71 rfl (lv_at hl 2 rfl) ?_
            refine lv_imul hx hb dX5_load_72 ?_
            refine lv_iadd hx hb dX5_load_73 ?_
            refine lv_iload_n hx hb dX5_load_74 rfl (lv_at hl 0 rfl) ?_
            refine lv_iadd hx hb dX5_load_75 ?_
            refine lv_aload_n hx hb dX5_load_76 rfl (lv_at hl 1 rfl) ?_
            refine va_get (D := g.1) (ci := 5) (v := .ref (q 8)) (C := RX5) (T := TX5) (N := 16) hx hb hts iX5 hown hK.1 hP 0 rfl rfl 11 (by decide) (hts (.fieldLink RX5 31 "LightWheelModel" "read" "[I") (by decide +kernel)) (fun _ h9 => h9) rfl dX5_load_77 ?_
            refine lv_iload_n hx hb dX5_load_80 rfl (lv_at hl 0 rfl) ?_
            have o_81_17 := h.1
            replace h := h.2
            refine va_iald hx hb hK.1 hP 8 0 rfl rfl o_81_17 dX5_load_81 ?_
            have o_82_18 := h.1
            replace h := h.2
            refine xs_iast hx hb hK.1 hP hD hS 1 0 rfl rfl o_82_18 dX5_load_82 (fun b_m_20 e_b_m_20 H locs hP hD hS => ?_)
            replace h := h b_m_20 e_b_m_20
            have hP : va_P g.1 vwCl (wM g q b_m_20 b_written b_spare b_spareWritten b_states_9 b_fifth_10 b_oldest_11 b_stateCount_12 b_text (0 : Int32) b_at_3 b_read_4 b_columns_5 b_told_6 b_wants b_comes) H := hP
            have hD : va_D A (wM g q b_m_20 b_written b_spare b_spareWritten b_states_9 b_fifth_10 b_oldest_11 b_stateCount_12 b_text (0 : Int32) b_at_3 b_read_4 b_columns_5 b_told_6 b_wants b_comes) := hD
            obtain ⟨v2_21, e_v2_21⟩ : ∃ y : Int32, y = v2_15 + (1 : Int32) := ⟨_, rfl⟩
            replace h := h v2_21 e_v2_21
            refine lv_iinc (v := v2_21) (lv' := [(2, .int v2_21), (0, .ref (q 0)), (1, .int a_1)]) hx hb dX5_load_83 hl (k := 0) rfl (by rw [e_v2_21]; rfl) (by decide) rfl (fun ls hl => ?_)
            refine lv_goto (tgt := 57) hx hb dX5_load_86 (by decide) ?_
            exact ih_1 v2_21 b_m_20 H locs ls h hP hD hS (lv_sub hl [0, 1, 2] rfl)
      obtain ⟨n_1, h⟩ := h
      refine loop_1 _ ?_ n_1 (0 : Int32) b_m_14 _ _ ls h hP hD hS (lv_sub hl [0, 1, 2] rfl)
      intro v2_15 b_m_16 H locs ls h hP hD hS hl
      refine lv_aload_n hx hb dX5_load_89 rfl (lv_at hl 1 rfl) ?_
      refine va_get (D := g.1) (ci := 5) (v := .int b_columns_5) (C := RX5) (T := TX5) (N := 16) hx hb hts iX5 hown hK.1 hP 0 rfl rfl 12 (by decide) (hts (.fieldLink RX5 110 "LightWheelModel" "columns" "I") (by decide +kernel)) (fun _ h9 => h9) rfl dX5_load_90 ?_
      refine lv_iconst (v := (1 : Int32)) hx hb dX5_load_93 (by decide) ?_
      refine lv_iadd hx hb dX5_load_94 ?_
      exact W.iret hx hb hr (fun t ht hW => ⟨⟨(b_columns_5 + (1 : Int32)), (b_m_16, b_states_9, b_fifth_10, b_oldest_11, b_stateCount_12, (0 : Int32), b_at_3, b_read_4, b_columns_5, b_told_6), rfl, h, by rw [ht]; exact hP, hD⟩, hS.F ht⟩) hS.2.2 dX5_load_95
    · replace h := h.2 c_15_7
      refine lv_sipush (v := (-1000 : Int32)) hx hb dX5_load_18 (by decide) ?_
      refine lv_aload_n hx hb dX5_load_21 rfl (lv_at hl 0 rfl) ?_
      refine va_get (D := g.1) (ci := 5) (v := .int b_at_3) (C := RX5) (T := TX5) (N := 16) hx hb hts iX5 hown hK.1 hP 0 rfl rfl 10 (by decide) (hts (.fieldLink RX5 103 "LightWheelModel" "at" "I") (by decide +kernel)) (fun _ h9 => h9) rfl dX5_load_22 ?_
      refine lv_isub hx hb dX5_load_25 ?_
      exact W.iret hx hb hr (fun t ht hW => ⟨⟨((-1000 : Int32) - b_at_3), (b_m, b_states, b_fifth, b_oldest, b_stateCount, b_textLength, b_at_3, b_read_4, b_columns_5, b_told_6), rfl, h, by rw [ht]; exact hP, hD⟩, hS.F ht⟩) hS.2.2 dX5_load_26
  · replace h := h.2 c_5_1
    refine lv_bipush (v := (-101 : Int32)) hx hb dX5_load_8 (by decide) ?_
    exact W.iret hx hb hr (fun t ht hW => ⟨⟨(-101 : Int32), (b_m, b_states, b_fifth, b_oldest, b_stateCount, b_textLength, b_at, b_read, b_columns, b_told), rfl, h, by rw [ht]; exact hP, hD⟩, hS.F ht⟩) hS.2.2 dX5_load_10
