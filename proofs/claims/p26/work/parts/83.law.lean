def PL_law_J5 (lb_1 : Int32 → VS → Prop) (v2_15 : Int32) (r71_21 : Int32) (V_28 : VS) : Prop := ((¬ (v2_15 - v2_15 / (17 : Int32) * (17 : Int32)) = (16 : Int32) → (∀ v2_30 : Int32, v2_30 = v2_15 + (1 : Int32) → lb_1 v2_30 V_28)) ∧ ((v2_15 - v2_15 / (17 : Int32) * (17 : Int32)) = (16 : Int32) → PA_count V_28 (1 : Int32) (fun r989_31 => PA_count V_28 (5 : Int32) (fun r996_32 => PL_low (r71_21 >>> ((7 : Int32) &&& 31)) (6 : Int32) (fun r1010_33 => PA_bestSpeed V_28 ((1 : Int32) + r1010_33) (fun r1014_34 V_35 => ((r1014_34 < (-60 : Int32) → False) ∧ (¬ r1014_34 < (-60 : Int32) → (((60 : Int32) < r1014_34 → False) ∧ (¬ (60 : Int32) < r1014_34 → ((¬ (r1014_34 - r1014_34 / (10 : Int32) * (10 : Int32)) = 0 → False) ∧ ((r1014_34 - r1014_34 / (10 : Int32) * (10 : Int32)) = 0 → PA_count V_35 (1 : Int32) (fun r1043_39 => ((¬ r1043_39 = r989_31 → False) ∧ (r1043_39 = r989_31 → PA_count V_35 (5 : Int32) (fun r1053_41 => ((¬ r1053_41 = r996_32 → False) ∧ (r1053_41 = r996_32 → PA_run V_35 (3 : Int32) (fun r1063_43 V_44 => ((r1063_43 < 0 → False) ∧ (¬ r1063_43 < 0 → PA_undo V_44  (fun r1070_46 V_47 => ((r1070_46 < 0 → False) ∧ (¬ r1070_46 < 0 → PA_count V_47 (1 : Int32) (fun r1078_49 => ((¬ r1078_49 = r989_31 → False) ∧ (r1078_49 = r989_31 → PA_count V_47 (5 : Int32) (fun r1088_51 => ((r1088_51 = r996_32 → (∀ v2_53 : Int32, v2_53 = v2_15 + (1 : Int32) → lb_1 v2_53 V_47)) ∧ (¬ r1088_51 = r996_32 → False))))))))))))))))))))))))))))))
def PL_law_J6 (V_16 : VS) (r71_21 : Int32) (jt_4 : VS → Prop) (t_65 : Int32) : Prop := PL_low r71_21 t_65 (fun r941_66 => PL_runs V_16 ((1 : Int32) + r941_66) (fun r945_67 V_68 => ((¬ r945_67 = 0 → jt_4 V_68) ∧ (r945_67 = 0 → False))))
def PL_law_J7 (V_16 : VS) (jt_4 : VS → Prop) (r676_89 : Int32) (t_90 : Int32) : Prop := PA_setting V_16 r676_89 (fun r758_91 => PA_set V_16 r676_89 t_90 (fun r768_92 V_93 => ((¬ r768_92 = r758_91 → False) ∧ (r768_92 = r758_91 → PA_setting V_93 r676_89 (fun r779_95 => ((r779_95 = t_90 → jt_4 V_93) ∧ (¬ r779_95 = t_90 → False)))))))
def PL_law_J9 (r598_114 : Int32) (jt_8 : Prop) (t_118 : Int32) : Prop := ((r598_114 = t_118 → jt_8) ∧ (¬ r598_114 = t_118 → False))
def PL_law_J8 (jt_4 : VS → Prop) (V_109 : VS)  : Prop := jt_4 V_109
def PL_law_J10 (jt_4 : VS → Prop) (V_130 : VS) (r490_135 : Int32) (t_136 : Int32) : Prop := ((r490_135 = t_136 → jt_4 V_130) ∧ (¬ r490_135 = t_136 → False))
def PL_law_J13 (jt_4 : VS → Prop) (V_155 : VS) : Prop := jt_4 V_155
def PL_law_J12 (r71_21 : Int32) (t_24 : Int32) (jt_4 : VS → Prop) (r245_140 : Int32) (r257_141 : Int32) (r281_143 : Int32) (r290_144 : Int32) (V_146 : VS) (r331_150 : Int32) (t_151 : Int32) (t_152 : Int32) : Prop := ((¬ r331_150 = ((r290_144 - t_151) + t_152) → False) ∧ (r331_150 = ((r290_144 - t_151) + t_152) → PL_low (r71_21 >>> ((13 : Int32) &&& 31)) (4 : Int32) (fun r367_154 => ((¬ r367_154 = 0 → (PL_law_J13 jt_4) V_146) ∧ (r367_154 = 0 → PA_undo V_146  (fun r374_157 V_158 => ((r374_157 < 0 → False) ∧ (¬ r374_157 < 0 → PA_color V_158 t_24 r245_140 r257_141 (fun r387_160 => ((r387_160 = r281_143 → (PL_law_J13 jt_4) V_158) ∧ (¬ r387_160 = r281_143 → False)))))))))))
def PL_law_J11 (r71_21 : Int32) (t_24 : Int32) (jt_4 : VS → Prop) (r245_140 : Int32) (r257_141 : Int32) (r269_142 : Int32) (r281_143 : Int32) (r290_144 : Int32) (V_146 : VS) (r331_150 : Int32) (t_151 : Int32) : Prop := ((r269_142 ≤ 0 → (PL_law_J12 r71_21 t_24 jt_4 r245_140 r257_141 r281_143 r290_144 V_146 r331_150 t_151) (0 : Int32)) ∧ (¬ r269_142 ≤ 0 → (PL_law_J12 r71_21 t_24 jt_4 r245_140 r257_141 r281_143 r290_144 V_146 r331_150 t_151) (1 : Int32)))
def PL_law_J15 (jt_4 : VS → Prop) (V_167 : VS)  : Prop := jt_4 V_167
def PL_law_J14 (jt_4 : VS → Prop) (v8_165 : Int32) (r148_166 : Int32) (V_167 : VS) (t_168 : Int32) : Prop := ((¬ r148_166 = t_168 → False) ∧ (r148_166 = t_168 → ((r148_166 < 0 → (PL_law_J15 jt_4 V_167)) ∧ (¬ r148_166 < 0 → PA_picture V_167 r148_166 (0 : Int32) (fun r180_171 => ((¬ r180_171 = v8_165 → False) ∧ (r180_171 = v8_165 → PA_picture V_167 r148_166 (2 : Int32) (fun r192_173 => ((¬ r192_173 = (6 : Int32) → False) ∧ (r192_173 = (6 : Int32) → PA_picture V_167 r148_166 (4 : Int32) (fun r204_175 => ((¬ r204_175 = 0 → False) ∧ (r204_175 = 0 → PA_picture V_167 r148_166 (5 : Int32) (fun r214_177 => ((r214_177 = ((6 : Int32) * v8_165) → (PL_law_J15 jt_4 V_167)) ∧ (¬ r214_177 = ((6 : Int32) * v8_165) → False))))))))))))))))
def PL_law_J4 (lb_1 : Int32 → VS → Prop) (v2_15 : Int32) (r71_21 : Int32) (V_25 : VS) : Prop := PL_places V_25 r71_21 (fun r956_26 => ((r956_26 = 0 → False) ∧ (¬ r956_26 = 0 → ((¬ (v2_15 - v2_15 / (5 : Int32) * (5 : Int32)) = (4 : Int32) → (PL_law_J5 lb_1 v2_15 r71_21) V_25) ∧ ((v2_15 - v2_15 / (5 : Int32) * (5 : Int32)) = (4 : Int32) → PL_pictures V_25  (fun r970_55 V_56 => ((¬ r970_55 = 0 → (PL_law_J5 lb_1 v2_15 r71_21) V_56) ∧ (r970_55 = 0 → False))))))))
def PL_law_J3 (lb_1 : Int32 → VS → Prop) (v2_15 : Int32) (V_16 : VS) (r71_21 : Int32) (r78_22 : Int32) (t_23 : Int32) (t_24 : Int32) : Prop := ((¬ t_23 = 0 → (((4 : Int32) ≤ t_23 → ((¬ t_23 = (4 : Int32) → ((¬ t_23 = (5 : Int32) → ((¬ t_23 = (6 : Int32) → ((¬ t_23 = (7 : Int32) → PL_low (r71_21 >>> ((20 : Int32) &&& 31)) (6 : Int32) (fun r928_64 => ((¬ r928_64 = 0 → (PL_law_J6 V_16 r71_21 (PL_law_J4 lb_1 v2_15 r71_21)) (9 : Int32)) ∧ (r928_64 = 0 → (PL_law_J6 V_16 r71_21 (PL_law_J4 lb_1 v2_15 r71_21)) (60 : Int32))))) ∧ (t_23 = (7 : Int32) → PA_count V_16 (7 : Int32) (fun r802_71 => PL_low r71_21 (2 : Int32) (fun r810_72 => PL_low (r71_21 >>> ((1 : Int32) &&& 31)) (12 : Int32) (fun r821_73 => PA_broken V_16 r810_72 r821_73 (fun r831_74 => PL_low (r71_21 >>> ((5 : Int32) &&& 31)) (2 : Int32) (fun r842_75 => PA_setSecondArm V_16 r842_75 (fun r845_76 V_77 => ((¬ r845_76 = r802_71 → False) ∧ (r845_76 = r802_71 → PA_count V_77 (7 : Int32) (fun r856_79 => PL_low (r71_21 >>> ((5 : Int32) &&& 31)) (2 : Int32) (fun r864_80 => ((¬ r856_79 = r864_80 → False) ∧ (r856_79 = r864_80 → PL_low (r71_21 >>> ((6 : Int32) &&& 31)) (2 : Int32) (fun r881_82 => PA_setBroken V_77 r810_72 r821_73 r881_82 (fun r884_83 V_84 => ((¬ r884_83 = r831_74 → False) ∧ (r884_83 = r831_74 → PA_broken V_84 r810_72 r821_73 (fun r897_86 => PL_low (r71_21 >>> ((6 : Int32) &&& 31)) (2 : Int32) (fun r906_87 => ((r897_86 = r906_87 → (PL_law_J4 lb_1 v2_15 r71_21) V_84) ∧ (¬ r897_86 = r906_87 → False))))))))))))))))))))))) ∧ (t_23 = (6 : Int32) → PL_low r71_21 (4 : Int32) (fun r676_89 => ((¬ r676_89 = 0 → ((¬ r676_89 = (1 : Int32) → ((¬ r676_89 = (2 : Int32) → PL_low (r71_21 >>> ((2 : Int32) &&& 31)) (99 : Int32) (fun r749_100 => (PL_law_J7 V_16 (PL_law_J4 lb_1 v2_15 r71_21) r676_89) ((1 : Int32) + r749_100))) ∧ (r676_89 = (2 : Int32) → PL_low (r71_21 >>> ((2 : Int32) &&& 31)) (300 : Int32) (fun r735_101 => (PL_law_J7 V_16 (PL_law_J4 lb_1 v2_15 r71_21) r676_89) ((1 : Int32) + r735_101))))) ∧ (r676_89 = (1 : Int32) → PL_low (r71_21 >>> ((2 : Int32) &&& 31)) (20 : Int32) (fun r714_102 => (PL_law_J7 V_16 (PL_law_J4 lb_1 v2_15 r71_21) r676_89) ((1 : Int32) + r714_102))))) ∧ (r676_89 = 0 → PL_low (r71_21 >>> ((2 : Int32) &&& 31)) (121 : Int32) (fun r692_103 => (PL_law_J7 V_16 (PL_law_J4 lb_1 v2_15 r71_21) r676_89) (r692_103 - (60 : Int32))))))))) ∧ (t_23 = (5 : Int32) → PA_picture V_16 t_24 (3 : Int32) (fun r527_104 => PL_low (r71_21 >>> ((3 : Int32) &&& 31)) (720 : Int32) (fun r542_105 => PA_columnAt V_16 t_24 r542_105 (fun r545_106 => PL_low r71_21 (3 : Int32) (fun r553_107 => PA_setKind V_16 t_24 r553_107 (fun r563_108 V_109 => ((¬ r563_108 = r527_104 → False) ∧ (r563_108 = r527_104 → PA_picture V_109 t_24 (3 : Int32) (fun r575_111 => ((r575_111 = r553_107 → PL_low (r71_21 >>> ((3 : Int32) &&& 31)) (720 : Int32) (fun r595_113 => PA_columnAt V_109 t_24 r595_113 (fun r598_114 => (((2 : Int32) ≤ r527_104 → (PL_law_J8 (PL_law_J4 lb_1 v2_15 r71_21) V_109)) ∧ (¬ (2 : Int32) ≤ r527_104 → (((2 : Int32) ≤ r553_107 → (PL_law_J8 (PL_law_J4 lb_1 v2_15 r71_21) V_109)) ∧ (¬ (2 : Int32) ≤ r553_107 → ((¬ r545_106 = (-109 : Int32) → ((¬ r527_104 = r553_107 → PA_picture V_109 t_24 (0 : Int32) (fun r650_121 => (PL_law_J9 r598_114 (PL_law_J8 (PL_law_J4 lb_1 v2_15 r71_21) V_109)) ((r650_121 - (1 : Int32)) - r545_106))) ∧ (r527_104 = r553_107 → (PL_law_J9 r598_114 (PL_law_J8 (PL_law_J4 lb_1 v2_15 r71_21) V_109)) r545_106))) ∧ (r545_106 = (-109 : Int32) → ((r598_114 = (-109 : Int32) → (PL_law_J8 (PL_law_J4 lb_1 v2_15 r71_21) V_109)) ∧ (¬ r598_114 = (-109 : Int32) → False))))))))))) ∧ (¬ r575_111 = r553_107 → False))))))))))))) ∧ (t_23 = (4 : Int32) → PA_picture V_16 t_24 (1 : Int32) (fun r410_123 => PA_picture V_16 t_24 (0 : Int32) (fun r419_124 => PL_low (r71_21 >>> ((10 : Int32) &&& 31)) (18 : Int32) (fun r430_125 => (∀ v9_126 : Int32, v9_126 = (r419_124 * ((1 : Int32) + r430_125)) → PL_low r71_21 (720 : Int32) (fun r445_127 => PL_low (r71_21 >>> ((10 : Int32) &&& 31)) (18 : Int32) (fun r456_128 => PA_setPlace V_16 t_24 r445_127 ((1 : Int32) + r456_128) (fun r460_129 V_130 => ((¬ r460_129 = r410_123 → False) ∧ (r460_129 = r410_123 → PA_picture V_130 t_24 (1 : Int32) (fun r472_132 => PL_low r71_21 (720 : Int32) (fun r480_133 => ((¬ r472_132 = r480_133 → False) ∧ (r472_132 = r480_133 → PA_picture V_130 t_24 (5 : Int32) (fun r490_135 => ((v9_126 ≤ (720 : Int32) → (PL_law_J10 (PL_law_J4 lb_1 v2_15 r71_21) V_130 r490_135) v9_126) ∧ (¬ v9_126 ≤ (720 : Int32) → (PL_law_J10 (PL_law_J4 lb_1 v2_15 r71_21) V_130 r490_135) (720 : Int32)))))))))))))))))))) ∧ (¬ (4 : Int32) ≤ t_23 → PA_picture V_16 t_24 (0 : Int32) (fun r242_139 => PL_low r71_21 r242_139 (fun r245_140 => PL_low (r71_21 >>> ((6 : Int32) &&& 31)) (12 : Int32) (fun r257_141 => PL_low (r71_21 >>> ((10 : Int32) &&& 31)) (8 : Int32) (fun r269_142 => PA_color V_16 t_24 r245_140 r257_141 (fun r281_143 => PA_picture V_16 t_24 (4 : Int32) (fun r290_144 => PA_paint V_16 t_24 r245_140 r257_141 r269_142 (fun r304_145 V_146 => ((¬ r304_145 = r281_143 → False) ∧ (r304_145 = r281_143 → PA_color V_146 t_24 r245_140 r257_141 (fun r319_148 => ((¬ r319_148 = r269_142 → False) ∧ (r319_148 = r269_142 → PA_picture V_146 t_24 (4 : Int32) (fun r331_150 => ((r281_143 ≤ 0 → (PL_law_J11 r71_21 t_24 (PL_law_J4 lb_1 v2_15 r71_21) r245_140 r257_141 r269_142 r281_143 r290_144 V_146 r331_150) (0 : Int32)) ∧ (¬ r281_143 ≤ 0 → (PL_law_J11 r71_21 t_24 (PL_law_J4 lb_1 v2_15 r71_21) r245_140 r257_141 r269_142 r281_143 r290_144 V_146 r331_150) (1 : Int32))))))))))))))))))) ∧ (t_23 = 0 → PL_low r71_21 (12 : Int32) (fun r139_164 => (∀ v8_165 : Int32, v8_165 = ((1 : Int32) + r139_164) → PA_addPicture V_16 v8_165 (fun r148_166 V_167 => ((¬ r78_22 = (4 : Int32) → (PL_law_J14 (PL_law_J4 lb_1 v2_15 r71_21) v8_165 r148_166 V_167) r78_22) ∧ (r78_22 = (4 : Int32) → (PL_law_J14 (PL_law_J4 lb_1 v2_15 r71_21) v8_165 r148_166 V_167) (-103 : Int32))))))))
def PL_law_J2 (lb_1 : Int32 → VS → Prop) (v2_15 : Int32) (V_16 : VS) (r61_19 : Int32) (r71_21 : Int32) (r78_22 : Int32) (t_23 : Int32) : Prop := ((¬ r78_22 = 0 → PL_low (r61_19 >>> ((5 : Int32) &&& 31)) r78_22 (fun r124_181 => (PL_law_J3 lb_1 v2_15 V_16 r71_21 r78_22 t_23) r124_181)) ∧ (r78_22 = 0 → (PL_law_J3 lb_1 v2_15 V_16 r71_21 r78_22 t_23) (0 : Int32)))
def PL_law_L1  (kx_1 : Int32 → VS → Prop) : Nat → Int32 → VS → Prop
  | 0, _, _ => False
  | n_1 + 1, v2_15, V_16 => (((34 : Int32) ≤ v2_15 → kx_1 v2_15 V_16) ∧ (¬ (34 : Int32) ≤ v2_15 → (((0 : Int32) ≤ ((2 : Int32) * v2_15)) ∧ ∀ r61_19 : Int32, (((0 : Int32) ≤ (((2 : Int32) * v2_15) + (1 : Int32))) ∧ ∀ r71_21 : Int32, PA_count V_16 (0 : Int32) (fun r78_22 => (((2 : Int32) ≤ v2_15 → (((10 : Int32) ≤ v2_15 → PL_low r61_19 (12 : Int32) (fun r105_184 => (PL_law_J2 (PL_law_L1  kx_1 n_1) v2_15 V_16 r61_19 r71_21 r78_22) r105_184)) ∧ (¬ (10 : Int32) ≤ v2_15 → (PL_law_J2 (PL_law_L1  kx_1 n_1) v2_15 V_16 r61_19 r71_21 r78_22) (1 : Int32)))) ∧ (¬ (2 : Int32) ≤ v2_15 → (PL_law_J2 (PL_law_L1  kx_1 n_1) v2_15 V_16 r61_19 r71_21 r78_22) (0 : Int32))))))))
def PL_law (V : VS) : Prop := PL_refuses V  (fun r9_1 V_2 => ((r9_1 = 0 → False) ∧ (¬ r9_1 = 0 → PA_undo V_2  (fun r16_4 V_5 => ((¬ r16_4 = (-102 : Int32) → False) ∧ (r16_4 = (-102 : Int32) → PL_pictures V_5  (fun r25_7 V_8 => ((r25_7 = 0 → False) ∧ (¬ r25_7 = 0 → PA_gaps V_8 (0 : Int32) (fun r33_10 V_11 => ((¬ r33_10 = 0 → False) ∧ (r33_10 = 0 → PA_count V_11 (5 : Int32) (fun r41_13 => ((r41_13 = 0 → (∃ n_1, PL_law_L1  (fun v2_15 V_16 => PL_refuses V_16  (fun r1105_185 V_186 => (r1105_185 = 1))) n_1 (0 : Int32) V_11)) ∧ (¬ r41_13 = 0 → False)))))))))))))))
set_option maxHeartbeats 16000000 in
set_option maxRecDepth 100000 in
theorem law_body {p : Program} {e : Env} {s : State} {m : MethodId} {below : List Frame} {meth : Method} {c : Code} (l : Launch) {b L : Nat} {xs : Nat → Int32} (hL : L ≤ 260) (C0 : lw_At p s m meth c b L xs) (g : GG) (hK : KK g s) (hST : ST (fun q : Nat => s.heap.size ≤ q) s) (a : QS) (V : VS) (h : PL_law V) (ws : va_W) (H : Heap) (locs : List Loc) (ls : Array Slot) (hAW : AW g a V ws) (hP : va_P g.1 vwCl ws H) (hD : va_D (fun q : Nat => s.heap.size ≤ q) ws) (hS : va_S (fun q : Nat => s.heap.size ≤ q) s.heap H locs) (hl : lv_has ls 13 [(1, .ref (a.1 0)), (0, .ref b)]) : W p l e room_1 s m #[Value.ref b] below meth c H locs 600000 7302250 (lw_Z below #[Value.ref b] s) (F0 m 8 ls []) := by
  obtain ⟨hx, hb, hr, hml, hown, hts0, hX, hbl, hlocks, hgv⟩ := id C0
  have hown : s.vm.findClass RL = some m.cls := hown
  have hts : ∀ w ∈ wsL_law, w.before #[Value.ref b] s = true := fun w h => hts0 w (wsL_law_in w h)
  have hA : ∀ q : Nat, s.heap.size ≤ q → (fun q : Nat => s.heap.size ≤ q) q := fun _ h => h
  have hbA : ¬ (fun q : Nat => s.heap.size ≤ q) b := Nat.not_le.mpr hbl
  unfold PL_law at h
  refine lv_aload_n hx hb dL_law_8 rfl (lv_at hl 0 rfl) ?_
  refine vl_calli (V := V) (va_runS (As := [.ref (a.1 0)]) (rest := []) ⟨hx, hb, hml, hown, hts⟩ (kL_refuses l g a V ws H.size hAW  _ h) (va_cwS 1 hts gL_law_L_refuses rfl rfl rfl hdL_refuses.2 ⟨(Nat.le_of_ble_eq_true rfl), (Nat.le_of_ble_eq_true rfl)⟩) (preS_MSg hK hP hD hST hS (va_freeA hD hS hA)) rfl rfl hl.1 rfl (lv_room (Nat.le_of_ble_eq_true rfl)) dL_law_9 ⟨(Nat.le_of_ble_eq_true rfl), (Nat.le_of_ble_eq_true rfl)⟩) hS (va_freeA hD hS hA) ?_
  clear h hAW hP hD hS
  clear ws H locs
  intro r9_1 V_2 ws H locs hAW hP hD hS h
  refine lv_if_eq (tgt := 47) hx hb dL_law_12 (by decide) (fun c_12_2 => ?_) (fun c_12_2 => ?_)
  · replace h := h.1 c_12_2
    refine lv_iconst (v := (0 : Int32)) hx hb dL_law_47 (by decide) ?_
    exact h.elim
  · replace h := h.2 c_12_2
    refine lv_aload_n hx hb dL_law_15 rfl (lv_at hl 0 rfl) ?_
    obtain ⟨fs9, heA⟩ := hAW.recv
    refine vl_calli (V := V_2) (va_runV (As := []) (rest := []) ⟨hx, hb, hml, hown, hts⟩ (a_undo l g a V_2 ws H.size hAW  _ h) (cwV 0 hts gL_law_X4_undo rfl rfl rfl hdX4_undo ⟨(Nat.le_of_ble_eq_true rfl), (Nat.le_of_ble_eq_true rfl)⟩) (preV_M (r := (RX4, TX4, 9)) hK hP hD (ci := 4) (q0 := 0) rfl heA) rfl rfl hl.1 rfl (lv_room (Nat.le_of_ble_eq_true rfl)) dL_law_16 ⟨(Nat.le_of_ble_eq_true rfl), (Nat.le_of_ble_eq_true rfl)⟩) hS (va_freeA hD hS hA) ?_
    clear heA fs9
    clear h hAW hP hD hS
    clear ws H locs
    intro r16_4 V_5 ws H locs hAW hP hD hS h
    refine lv_bipush (v := (-102 : Int32)) hx hb dL_law_19 (by decide) ?_
    refine lv_icmp_ne (tgt := 47) hx hb dL_law_21 (by decide) (fun c_21_5 => ?_) (fun c_21_5 => ?_)
    · replace h := h.1 c_21_5
      refine lv_iconst (v := (0 : Int32)) hx hb dL_law_47 (by decide) ?_
      exact h.elim
    · replace h := h.2 c_21_5
      refine lv_aload_n hx hb dL_law_24 rfl (lv_at hl 0 rfl) ?_
      refine vl_calli (V := V_5) (va_runS (As := [.ref (a.1 0)]) (rest := []) ⟨hx, hb, hml, hown, hts⟩ (kL_pictures l g a V_5 ws H.size hAW  _ h) (va_cwS 1 hts gL_law_L_pictures rfl rfl rfl hdL_pictures.2 ⟨(Nat.le_of_ble_eq_true rfl), (Nat.le_of_ble_eq_true rfl)⟩) (preS_MSg hK hP hD hST hS (va_freeA hD hS hA)) rfl rfl hl.1 rfl (lv_room (Nat.le_of_ble_eq_true rfl)) dL_law_25 ⟨(Nat.le_of_ble_eq_true rfl), (Nat.le_of_ble_eq_true rfl)⟩) hS (va_freeA hD hS hA) ?_
      clear h hAW hP hD hS
      clear ws H locs
      intro r25_7 V_8 ws H locs hAW hP hD hS h
      refine lv_if_eq (tgt := 47) hx hb dL_law_28 (by decide) (fun c_28_8 => ?_) (fun c_28_8 => ?_)
      · replace h := h.1 c_28_8
        refine lv_iconst (v := (0 : Int32)) hx hb dL_law_47 (by decide) ?_
        exact h.elim
      · replace h := h.2 c_28_8
        refine lv_aload_n hx hb dL_law_31 rfl (lv_at hl 0 rfl) ?_
        refine lv_iconst (v := (0 : Int32)) hx hb dL_law_32 (by decide) ?_
        obtain ⟨fs9, heA⟩ := hAW.recv
        refine vl_calli (V := V_8) (va_runV (As := [.int (0 : Int32)]) (rest := []) ⟨hx, hb, hml, hown, hts⟩ (a_gaps l g a V_8 ws H.size hAW (0 : Int32) _ h) (cwV 1 hts gL_law_X4_gaps rfl rfl rfl hdX4_gaps ⟨(Nat.le_of_ble_eq_true rfl), (Nat.le_of_ble_eq_true rfl)⟩) (preV_M (r := (RX4, TX4, 9)) hK hP hD (ci := 4) (q0 := 0) rfl heA) rfl rfl hl.1 rfl (lv_room (Nat.le_of_ble_eq_true rfl)) dL_law_33 ⟨(Nat.le_of_ble_eq_true rfl), (Nat.le_of_ble_eq_true rfl)⟩) hS (va_freeA hD hS hA) ?_
        clear heA fs9
        clear h hAW hP hD hS
        clear ws H locs
        intro r33_10 V_11 ws H locs hAW hP hD hS h
        refine lv_if_ne (tgt := 47) hx hb dL_law_36 (by decide) (fun c_36_11 => ?_) (fun c_36_11 => ?_)
        · replace h := h.1 c_36_11
          refine lv_iconst (v := (0 : Int32)) hx hb dL_law_47 (by decide) ?_
          exact h.elim
        · replace h := h.2 c_36_11
          refine lv_aload_n hx hb dL_law_39 rfl (lv_at hl 0 rfl) ?_
          refine lv_iconst (v := (5 : Int32)) hx hb dL_law_40 (by decide) ?_
          obtain ⟨fs9, heA⟩ := hAW.recv
          refine vp_callSi (W.runV (As := [.int (5 : Int32)]) (rest := []) ⟨hx, hb, hml, hown, hts⟩ (a_count l g a V_11 ws hAW (5 : Int32) _ h) (cwV 1 hts gL_law_X4_count rfl rfl rfl hdX4_count ⟨(Nat.le_of_ble_eq_true rfl), (Nat.le_of_ble_eq_true rfl)⟩) (preV_R (r := (RX4, TX4, 9)) hK hP (ci := 4) (q0 := 0) rfl heA) rfl rfl hl.1 rfl (lv_room (Nat.le_of_ble_eq_true rfl)) dL_law_41 ⟨(Nat.le_of_ble_eq_true rfl), (Nat.le_of_ble_eq_true rfl)⟩) (fun r41_13 h => ?_)
          clear heA fs9
          refine lv_if_eq (tgt := 49) hx hb dL_law_44 (by decide) (fun c_44_13 => ?_) (fun c_44_13 => ?_)
          · replace h := h.1 c_44_13
            refine lv_iconst (v := (0 : Int32)) hx hb dL_law_49 (by decide) ?_
            refine lv_istore_n (lv' := [(2, .int (0 : Int32)), (1, .ref (a.1 0)), (0, .ref b)]) hx hb dL_law_50 rfl hl (by decide) rfl (fun ls hl => ?_)
            have loop_1 : ∀ (kx_1 : Int32 → VS → Prop), (∀ (v2_15 : Int32) (V_16 : VS) (ws : va_W) (H : Heap) (locs : List Loc) (ls : Array Slot), kx_1 v2_15 V_16 → AW g a V_16 ws → va_P g.1 vwCl ws H → va_D (fun q : Nat => s.heap.size ≤ q) ws → va_S (fun q : Nat => s.heap.size ≤ q) s.heap H locs → lv_has ls 13 [(2, .int v2_15), (1, .ref (a.1 0)), (0, .ref b)] → W p l e room_1 s m #[Value.ref b] below meth c H locs 600000 7302250 (lw_Z below #[Value.ref b] s) (F0 m 1104 ls [])) → ∀ (n_1 : Nat) (v2_15 : Int32) (V_16 : VS) (ws : va_W) (H : Heap) (locs : List Loc) (ls : Array Slot), PL_law_L1  kx_1 n_1 v2_15 V_16 → AW g a V_16 ws → va_P g.1 vwCl ws H → va_D (fun q : Nat => s.heap.size ≤ q) ws → va_S (fun q : Nat => s.heap.size ≤ q) s.heap H locs → lv_has ls 13 [(2, .int v2_15), (1, .ref (a.1 0)), (0, .ref b)] → W p l e room_1 s m #[Value.ref b] below meth c H locs 600000 7302250 (lw_Z below #[Value.ref b] s) (F0 m 51 ls []) := by
              intro kx_1 hexit_1 n_1
              induction n_1 with
              | zero => exact fun _ _ _ _ _ _ h _ _ _ _ _ => (h : False).elim
              | succ n_1 ih_1 =>
                intro v2_15 V_16 ws H locs ls h hAW hP hD hS hl
                unfold PL_law_L1 at h
                refine lv_iload_n hx hb dL_law_51 rfl (lv_at hl 0 rfl) ?_
                refine lv_bipush (v := (34 : Int32)) hx hb dL_law_52 (by decide) ?_
                refine lv_icmp_ge (tgt := 1104) hx hb dL_law_54 (by decide) (fun c_54_16 => ?_) (fun c_54_16 => ?_)
                · replace h := h.1 c_54_16
                  exact hexit_1 v2_15 V_16 ws H locs ls h hAW hP hD hS (lv_sub hl [0, 1, 2] rfl)
                · replace h := h.2 c_54_16
                  refine lv_aload_n hx hb dL_law_57 rfl (lv_at hl 2 rfl) ?_
                  refine lv_iconst (v := (2 : Int32)) hx hb dL_law_58 (by decide) ?_
                  refine lv_iload_n hx hb dL_law_59 rfl (lv_at hl 0 rfl) ?_
                  refine lv_imul hx hb dL_law_60 ?_
                  have o_61_17 := h.1
                  replace h := h.2
                  refine vp_callSi (W.runS (As := [.ref b, .int ((2 : Int32) * v2_15)]) (rest := []) ⟨hx, hb, hml, hown, hts⟩ (kL_lot l b L xs ((2 : Int32) * v2_15) hL o_61_17) (va_cwS 2 hts gL_law_L_lot rfl rfl rfl hdL_lot.2 ⟨(Nat.le_of_ble_eq_true rfl), (Nat.le_of_ble_eq_true rfl)⟩) (preS_X hX hbl hbA hS) rfl rfl hl.1 rfl (lv_room (Nat.le_of_ble_eq_true rfl)) dL_law_61 ⟨(Nat.le_of_ble_eq_true rfl), (Nat.le_of_ble_eq_true rfl)⟩) (fun r61_19 _ => ?_)
                  replace h := h r61_19
                  refine lv_istore_n (lv' := [(3, .int r61_19), (2, .int v2_15), (1, .ref (a.1 0)), (0, .ref b)]) hx hb dL_law_64 rfl hl (by decide) rfl (fun ls hl => ?_)
                  refine lv_aload_n hx hb dL_law_65 rfl (lv_at hl 3 rfl) ?_
                  refine lv_iconst (v := (2 : Int32)) hx hb dL_law_66 (by decide) ?_
                  refine lv_iload_n hx hb dL_law_67 rfl (lv_at hl 1 rfl) ?_
                  refine lv_imul hx hb dL_law_68 ?_
                  refine lv_iconst (v := (1 : Int32)) hx hb dL_law_69 (by decide) ?_
                  refine lv_iadd hx hb dL_law_70 ?_
                  have o_71_19 := h.1
                  replace h := h.2
                  refine vp_callSi (W.runS (As := [.ref b, .int (((2 : Int32) * v2_15) + (1 : Int32))]) (rest := []) ⟨hx, hb, hml, hown, hts⟩ (kL_lot l b L xs (((2 : Int32) * v2_15) + (1 : Int32)) hL o_71_19) (va_cwS 2 hts gL_law_L_lot rfl rfl rfl hdL_lot.2 ⟨(Nat.le_of_ble_eq_true rfl), (Nat.le_of_ble_eq_true rfl)⟩) (preS_X hX hbl hbA hS) rfl rfl hl.1 rfl (lv_room (Nat.le_of_ble_eq_true rfl)) dL_law_71 ⟨(Nat.le_of_ble_eq_true rfl), (Nat.le_of_ble_eq_true rfl)⟩) (fun r71_21 _ => ?_)
                  replace h := h r71_21
                  refine lv_istore (lv' := [(4, .int r71_21), (3, .int r61_19), (2, .int v2_15), (1, .ref (a.1 0)), (0, .ref b)]) hx hb dL_law_74 hl (by decide) rfl (fun ls hl => ?_)
                  refine lv_aload_n hx hb dL_law_76 rfl (lv_at hl 3 rfl) ?_
                  refine lv_iconst (v := (0 : Int32)) hx hb dL_law_77 (by decide) ?_
                  obtain ⟨fs9, heA⟩ := hAW.recv
                  refine vp_callSi (W.runV (As := [.int (0 : Int32)]) (rest := []) ⟨hx, hb, hml, hown, hts⟩ (a_count l g a V_16 ws hAW (0 : Int32) _ h) (cwV 1 hts gL_law_X4_count rfl rfl rfl hdX4_count ⟨(Nat.le_of_ble_eq_true rfl), (Nat.le_of_ble_eq_true rfl)⟩) (preV_R (r := (RX4, TX4, 9)) hK hP (ci := 4) (q0 := 0) rfl heA) rfl rfl hl.1 rfl (lv_room (Nat.le_of_ble_eq_true rfl)) dL_law_78 ⟨(Nat.le_of_ble_eq_true rfl), (Nat.le_of_ble_eq_true rfl)⟩) (fun r78_22 h => ?_)
                  clear heA fs9
                  refine lv_istore (lv' := [(5, .int r78_22), (4, .int r71_21), (3, .int r61_19), (2, .int v2_15), (1, .ref (a.1 0)), (0, .ref b)]) hx hb dL_law_81 hl (by decide) rfl (fun ls hl => ?_)
                  refine lv_iload_n hx hb dL_law_83 rfl (lv_at hl 3 rfl) ?_
                  refine lv_iconst (v := (2 : Int32)) hx hb dL_law_84 (by decide) ?_
                  have tail_2 : ∀ (t_23 : Int32) (ws : va_W) (H : Heap) (locs : List Loc) (ls : Array Slot), PL_law_J2 (PL_law_L1  kx_1 n_1) v2_15 V_16 r61_19 r71_21 r78_22 t_23 → AW g a V_16 ws → va_P g.1 vwCl ws H → va_D (fun q : Nat => s.heap.size ≤ q) ws → va_S (fun q : Nat => s.heap.size ≤ q) s.heap H locs → lv_has ls 13 [(5, .int r78_22), (4, .int r71_21), (3, .int r61_19), (2, .int v2_15), (1, .ref (a.1 0)), (0, .ref b)] → W p l e room_1 s m #[Value.ref b] below meth c H locs 600000 7302250 (lw_Z below #[Value.ref b] s) (F0 m 108 ls [.int t_23]) := by
                    intro t_23 ws H locs ls h hAW hP hD hS hl
                    unfold PL_law_J2 at h
                    refine lv_istore (lv' := [(6, .int t_23), (5, .int r78_22), (4, .int r71_21), (3, .int r61_19), (2, .int v2_15), (1, .ref (a.1 0)), (0, .ref b)]) hx hb dL_law_108 hl (by decide) rfl (fun ls hl => ?_)
                    refine lv_iload hx hb dL_law_110 (lv_at hl 1 rfl) ?_
                    have tail_3 : ∀ (t_24 : Int32) (ws : va_W) (H : Heap) (locs : List Loc) (ls : Array Slot), PL_law_J3 (PL_law_L1  kx_1 n_1) v2_15 V_16 r71_21 r78_22 t_23 t_24 → AW g a V_16 ws → va_P g.1 vwCl ws H → va_D (fun q : Nat => s.heap.size ≤ q) ws → va_S (fun q : Nat => s.heap.size ≤ q) s.heap H locs → lv_has ls 13 [(6, .int t_23), (5, .int r78_22), (4, .int r71_21), (3, .int r61_19), (2, .int v2_15), (1, .ref (a.1 0)), (0, .ref b)] → W p l e room_1 s m #[Value.ref b] below meth c H locs 600000 7302250 (lw_Z below #[Value.ref b] s) (F0 m 127 ls [.int t_24]) := by
                      intro t_24 ws H locs ls h hAW hP hD hS hl
                      unfold PL_law_J3 at h
                      refine lv_istore (lv' := [(7, .int t_24), (6, .int t_23), (5, .int r78_22), (4, .int r71_21), (3, .int r61_19), (2, .int v2_15), (1, .ref (a.1 0)), (0, .ref b)]) hx hb dL_law_127 hl (by decide) rfl (fun ls hl => ?_)
                      refine lv_iload hx hb dL_law_129 (lv_at hl 1 rfl) ?_
                      have tail_4 : ∀ (V_25 : VS) (ws : va_W) (H : Heap) (locs : List Loc) (ls : Array Slot), PL_law_J4 (PL_law_L1  kx_1 n_1) v2_15 r71_21 V_25 → AW g a V_25 ws → va_P g.1 vwCl ws H → va_D (fun q : Nat => s.heap.size ≤ q) ws → va_S (fun q : Nat => s.heap.size ≤ q) s.heap H locs → lv_has ls 13 [(7, .int t_24), (6, .int t_23), (5, .int r78_22), (4, .int r71_21), (3, .int r61_19), (2, .int v2_15), (1, .ref (a.1 0)), (0, .ref b)] → W p l e room_1 s m #[Value.ref b] below meth c H locs 600000 7302250 (lw_Z below #[Value.ref b] s) (F0 m 953 ls []) := by
                        intro V_25 ws H locs ls h hAW hP hD hS hl
                        unfold PL_law_J4 at h
                        refine lv_aload_n hx hb dL_law_953 rfl (lv_at hl 6 rfl) ?_
                        refine lv_iload hx hb dL_law_954 (lv_at hl 3 rfl) ?_
                        refine vp_callSi (W.runS (As := [.ref (a.1 0), .int r71_21]) (rest := []) ⟨hx, hb, hml, hown, hts⟩ (kL_places l g a V_25 ws hAW r71_21 _ h) (va_cwS 2 hts gL_law_L_places rfl rfl rfl hdL_places.2 ⟨(Nat.le_of_ble_eq_true rfl), (Nat.le_of_ble_eq_true rfl)⟩) (preS_R hK hP) rfl rfl hl.1 rfl (lv_room (Nat.le_of_ble_eq_true rfl)) dL_law_956 ⟨(Nat.le_of_ble_eq_true rfl), (Nat.le_of_ble_eq_true rfl)⟩) (fun r956_26 h => ?_)
                        refine lv_if_eq (tgt := 976) hx hb dL_law_959 (by decide) (fun c_959_26 => ?_) (fun c_959_26 => ?_)
                        · replace h := h.1 c_959_26
                          refine lv_iconst (v := (0 : Int32)) hx hb dL_law_976 (by decide) ?_
                          exact h.elim
                        · replace h := h.2 c_959_26
                          refine lv_iload_n hx hb dL_law_962 rfl (lv_at hl 5 rfl) ?_
                          refine lv_iconst (v := (5 : Int32)) hx hb dL_law_963 (by decide) ?_
                          refine lv_irem hx hb dL_law_964 (by decide) ?_
                          refine lv_iconst (v := (4 : Int32)) hx hb dL_law_965 (by decide) ?_
                          have tail_5 : ∀ (V_28 : VS) (ws : va_W) (H : Heap) (locs : List Loc) (ls : Array Slot), PL_law_J5 (PL_law_L1  kx_1 n_1) v2_15 r71_21 V_28 → AW g a V_28 ws → va_P g.1 vwCl ws H → va_D (fun q : Nat => s.heap.size ≤ q) ws → va_S (fun q : Nat => s.heap.size ≤ q) s.heap H locs → lv_has ls 13 [(7, .int t_24), (6, .int t_23), (5, .int r78_22), (4, .int r71_21), (3, .int r61_19), (2, .int v2_15), (1, .ref (a.1 0)), (0, .ref b)] → W p l e room_1 s m #[Value.ref b] below meth c H locs 600000 7302250 (lw_Z below #[Value.ref b] s) (F0 m 978 ls []) := by
                            intro V_28 ws H locs ls h hAW hP hD hS hl
                            unfold PL_law_J5 at h
                            refine lv_iload_n hx hb dL_law_978 rfl (lv_at hl 5 rfl) ?_
                            refine lv_bipush (v := (17 : Int32)) hx hb dL_law_979 (by decide) ?_
                            refine lv_irem hx hb dL_law_981 (by decide) ?_
                            refine lv_bipush (v := (16 : Int32)) hx hb dL_law_982 (by decide) ?_
                            refine lv_icmp_ne (tgt := 1098) hx hb dL_law_984 (by decide) (fun c_984_28 => ?_) (fun c_984_28 => ?_)
                            · replace h := h.1 c_984_28
                              obtain ⟨v2_30, e_v2_30⟩ : ∃ y : Int32, y = v2_15 + (1 : Int32) := ⟨_, rfl⟩
                              replace h := h v2_30 e_v2_30
                              refine lv_iinc (v := v2_30) (lv' := [(2, .int v2_30), (7, .int t_24), (6, .int t_23), (5, .int r78_22), (4, .int r71_21), (3, .int r61_19), (1, .ref (a.1 0)), (0, .ref b)]) hx hb dL_law_1098 hl (k := 5) rfl (by rw [e_v2_30]; rfl) (by decide) rfl (fun ls hl => ?_)
                              refine lv_goto (tgt := 51) hx hb dL_law_1101 (by decide) ?_
                              exact ih_1 v2_30 V_28 ws H locs ls h hAW hP hD hS (lv_sub hl [0, 6, 7] rfl)
                            · replace h := h.2 c_984_28
                              refine lv_aload_n hx hb dL_law_987 rfl (lv_at hl 6 rfl) ?_
                              refine lv_iconst (v := (1 : Int32)) hx hb dL_law_988 (by decide) ?_
                              obtain ⟨fs9, heA⟩ := hAW.recv
                              refine vp_callSi (W.runV (As := [.int (1 : Int32)]) (rest := []) ⟨hx, hb, hml, hown, hts⟩ (a_count l g a V_28 ws hAW (1 : Int32) _ h) (cwV 1 hts gL_law_X4_count rfl rfl rfl hdX4_count ⟨(Nat.le_of_ble_eq_true rfl), (Nat.le_of_ble_eq_true rfl)⟩) (preV_R (r := (RX4, TX4, 9)) hK hP (ci := 4) (q0 := 0) rfl heA) rfl rfl hl.1 rfl (lv_room (Nat.le_of_ble_eq_true rfl)) dL_law_989 ⟨(Nat.le_of_ble_eq_true rfl), (Nat.le_of_ble_eq_true rfl)⟩) (fun r989_31 h => ?_)
                              clear heA fs9
                              refine lv_istore (lv' := [(8, .int r989_31), (7, .int t_24), (6, .int t_23), (5, .int r78_22), (4, .int r71_21), (3, .int r61_19), (2, .int v2_15), (1, .ref (a.1 0)), (0, .ref b)]) hx hb dL_law_992 hl (by decide) rfl (fun ls hl => ?_)
                              refine lv_aload_n hx hb dL_law_994 rfl (lv_at hl 7 rfl) ?_
                              refine lv_iconst (v := (5 : Int32)) hx hb dL_law_995 (by decide) ?_
                              obtain ⟨fs9, heA⟩ := hAW.recv
                              refine vp_callSi (W.runV (As := [.int (5 : Int32)]) (rest := []) ⟨hx, hb, hml, hown, hts⟩ (a_count l g a V_28 ws hAW (5 : Int32) _ h) (cwV 1 hts gL_law_X4_count rfl rfl rfl hdX4_count ⟨(Nat.le_of_ble_eq_true rfl), (Nat.le_of_ble_eq_true rfl)⟩) (preV_R (r := (RX4, TX4, 9)) hK hP (ci := 4) (q0 := 0) rfl heA) rfl rfl hl.1 rfl (lv_room (Nat.le_of_ble_eq_true rfl)) dL_law_996 ⟨(Nat.le_of_ble_eq_true rfl), (Nat.le_of_ble_eq_true rfl)⟩) (fun r996_32 h => ?_)
                              clear heA fs9
                              refine lv_istore (lv' := [(9, .int r996_32), (8, .int r989_31), (7, .int t_24), (6, .int t_23), (5, .int r78_22), (4, .int r71_21), (3, .int r61_19), (2, .int v2_15), (1, .ref (a.1 0)), (0, .ref b)]) hx hb dL_law_999 hl (by decide) rfl (fun ls hl => ?_)
                              refine lv_aload_n hx hb dL_law_1001 rfl (lv_at hl 8 rfl) ?_
                              refine lv_iconst (v := (1 : Int32)) hx hb dL_law_1002 (by decide) ?_
                              refine lv_iload hx hb dL_law_1003 (lv_at hl 5 rfl) ?_
                              refine lv_bipush (v := (7 : Int32)) hx hb dL_law_1005 (by decide) ?_
                              refine lv_ishr hx hb dL_law_1007 ?_
                              refine lv_bipush (v := (6 : Int32)) hx hb dL_law_1008 (by decide) ?_
                              refine vp_callSi (W.runS (As := [.int (r71_21 >>> ((7 : Int32) &&& 31)), .int (6 : Int32)]) (rest := [.int (1 : Int32), .ref (a.1 0)]) ⟨hx, hb, hml, hown, hts⟩ (kL_low l g  (r71_21 >>> ((7 : Int32) &&& 31)) (6 : Int32) _ h) (va_cwS 2 hts gL_law_L_low rfl rfl rfl hdL_low.2 ⟨(Nat.le_of_ble_eq_true rfl), (Nat.le_of_ble_eq_true rfl)⟩) (preS_R hK (va_P_nil (D := g.1) (cl := vwCl))) rfl rfl hl.1 rfl (lv_room (Nat.le_of_ble_eq_true rfl)) dL_law_1010 ⟨(Nat.le_of_ble_eq_true rfl), (Nat.le_of_ble_eq_true rfl)⟩) (fun r1010_33 h => ?_)
                              refine lv_iadd hx hb dL_law_1013 ?_
                              obtain ⟨fs9, heA⟩ := hAW.recv
                              refine vl_calli (V := V_28) (va_runV (As := [.int ((1 : Int32) + r1010_33)]) (rest := []) ⟨hx, hb, hml, hown, hts⟩ (a_bestSpeed l g a V_28 ws H.size hAW ((1 : Int32) + r1010_33) _ h) (cwV 1 hts gL_law_X4_bestSpeed rfl rfl rfl hdX4_bestSpeed ⟨(Nat.le_of_ble_eq_true rfl), (Nat.le_of_ble_eq_true rfl)⟩) (preV_MSg (r := (RX4, TX4, 9)) hK hP hD hST hS (va_freeA hD hS hA) (ci := 4) (q0 := 0) rfl heA) rfl rfl hl.1 rfl (lv_room (Nat.le_of_ble_eq_true rfl)) dL_law_1014 ⟨(Nat.le_of_ble_eq_true rfl), (Nat.le_of_ble_eq_true rfl)⟩) hS (va_freeA hD hS hA) ?_
                              clear heA fs9
                              clear h hAW hP hD hS
                              clear ws H locs
                              intro r1014_34 V_35 ws H locs hAW hP hD hS h
                              refine lv_istore (lv' := [(10, .int r1014_34), (9, .int r996_32), (8, .int r989_31), (7, .int t_24), (6, .int t_23), (5, .int r78_22), (4, .int r71_21), (3, .int r61_19), (2, .int v2_15), (1, .ref (a.1 0)), (0, .ref b)]) hx hb dL_law_1017 hl (by decide) rfl (fun ls hl => ?_)
                              refine lv_iload hx hb dL_law_1019 (lv_at hl 0 rfl) ?_
                              refine lv_bipush (v := (-60 : Int32)) hx hb dL_law_1021 (by decide) ?_
                              refine lv_icmp_lt (tgt := 1096) hx hb dL_law_1023 (by decide) (fun c_1023_35 => ?_) (fun c_1023_35 => ?_)
                              · replace h := h.1 c_1023_35
                                refine lv_iconst (v := (0 : Int32)) hx hb dL_law_1096 (by decide) ?_
                                exact h.elim
                              · replace h := h.2 c_1023_35
                                refine lv_iload hx hb dL_law_1026 (lv_at hl 0 rfl) ?_
                                refine lv_bipush (v := (60 : Int32)) hx hb dL_law_1028 (by decide) ?_
                                refine lv_icmp_gt (tgt := 1096) hx hb dL_law_1030 (by decide) (fun c_1030_36 => ?_) (fun c_1030_36 => ?_)
                                · replace h := h.1 c_1030_36
                                  refine lv_iconst (v := (0 : Int32)) hx hb dL_law_1096 (by decide) ?_
                                  exact h.elim
                                · replace h := h.2 c_1030_36
                                  refine lv_iload hx hb dL_law_1033 (lv_at hl 0 rfl) ?_
                                  refine lv_bipush (v := (10 : Int32)) hx hb dL_law_1035 (by decide) ?_
                                  refine lv_irem hx hb dL_law_1037 (by decide) ?_
                                  refine lv_if_ne (tgt := 1096) hx hb dL_law_1038 (by decide) (fun c_1038_37 => ?_) (fun c_1038_37 => ?_)
                                  · replace h := h.1 c_1038_37
                                    refine lv_iconst (v := (0 : Int32)) hx hb dL_law_1096 (by decide) ?_
                                    exact h.elim
                                  · replace h := h.2 c_1038_37
                                    refine lv_aload_n hx hb dL_law_1041 rfl (lv_at hl 9 rfl) ?_
                                    refine lv_iconst (v := (1 : Int32)) hx hb dL_law_1042 (by decide) ?_
                                    obtain ⟨fs9, heA⟩ := hAW.recv
                                    refine vp_callSi (W.runV (As := [.int (1 : Int32)]) (rest := []) ⟨hx, hb, hml, hown, hts⟩ (a_count l g a V_35 ws hAW (1 : Int32) _ h) (cwV 1 hts gL_law_X4_count rfl rfl rfl hdX4_count ⟨(Nat.le_of_ble_eq_true rfl), (Nat.le_of_ble_eq_true rfl)⟩) (preV_R (r := (RX4, TX4, 9)) hK hP (ci := 4) (q0 := 0) rfl heA) rfl rfl hl.1 rfl (lv_room (Nat.le_of_ble_eq_true rfl)) dL_law_1043 ⟨(Nat.le_of_ble_eq_true rfl), (Nat.le_of_ble_eq_true rfl)⟩) (fun r1043_39 h => ?_)
                                    clear heA fs9
                                    refine lv_iload hx hb dL_law_1046 (lv_at hl 2 rfl) ?_
                                    refine lv_icmp_ne (tgt := 1096) hx hb dL_law_1048 (by decide) (fun c_1048_39 => ?_) (fun c_1048_39 => ?_)
                                    · replace h := h.1 c_1048_39
                                      refine lv_iconst (v := (0 : Int32)) hx hb dL_law_1096 (by decide) ?_
                                      exact h.elim
                                    · replace h := h.2 c_1048_39
                                      refine lv_aload_n hx hb dL_law_1051 rfl (lv_at hl 9 rfl) ?_
                                      refine lv_iconst (v := (5 : Int32)) hx hb dL_law_1052 (by decide) ?_
                                      obtain ⟨fs9, heA⟩ := hAW.recv
                                      refine vp_callSi (W.runV (As := [.int (5 : Int32)]) (rest := []) ⟨hx, hb, hml, hown, hts⟩ (a_count l g a V_35 ws hAW (5 : Int32) _ h) (cwV 1 hts gL_law_X4_count rfl rfl rfl hdX4_count ⟨(Nat.le_of_ble_eq_true rfl), (Nat.le_of_ble_eq_true rfl)⟩) (preV_R (r := (RX4, TX4, 9)) hK hP (ci := 4) (q0 := 0) rfl heA) rfl rfl hl.1 rfl (lv_room (Nat.le_of_ble_eq_true rfl)) dL_law_1053 ⟨(Nat.le_of_ble_eq_true rfl), (Nat.le_of_ble_eq_true rfl)⟩) (fun r1053_41 h => ?_)
                                      clear heA fs9
                                      refine lv_iload hx hb dL_law_1056 (lv_at hl 1 rfl) ?_
                                      refine lv_icmp_ne (tgt := 1096) hx hb dL_law_1058 (by decide) (fun c_1058_41 => ?_) (fun c_1058_41 => ?_)
                                      · replace h := h.1 c_1058_41
                                        refine lv_iconst (v := (0 : Int32)) hx hb dL_law_1096 (by decide) ?_
                                        exact h.elim
                                      · replace h := h.2 c_1058_41
                                        refine lv_aload_n hx hb dL_law_1061 rfl (lv_at hl 9 rfl) ?_
                                        refine lv_iconst (v := (3 : Int32)) hx hb dL_law_1062 (by decide) ?_
                                        obtain ⟨fs9, heA⟩ := hAW.recv
                                        refine vl_calli (V := V_35) (va_runV (As := [.int (3 : Int32)]) (rest := []) ⟨hx, hb, hml, hown, hts⟩ (a_run l g a V_35 ws H.size hAW (3 : Int32) _ h) (cwV 1 hts gL_law_X4_run rfl rfl rfl hdX4_run ⟨(Nat.le_of_ble_eq_true rfl), (Nat.le_of_ble_eq_true rfl)⟩) (preV_M (r := (RX4, TX4, 9)) hK hP hD (ci := 4) (q0 := 0) rfl heA) rfl rfl hl.1 rfl (lv_room (Nat.le_of_ble_eq_true rfl)) dL_law_1063 ⟨(Nat.le_of_ble_eq_true rfl), (Nat.le_of_ble_eq_true rfl)⟩) hS (va_freeA hD hS hA) ?_
                                        clear heA fs9
                                        clear h hAW hP hD hS
                                        clear ws H locs
                                        intro r1063_43 V_44 ws H locs hAW hP hD hS h
                                        refine lv_if_lt (tgt := 1096) hx hb dL_law_1066 (by decide) (fun c_1066_44 => ?_) (fun c_1066_44 => ?_)
                                        · replace h := h.1 c_1066_44
                                          refine lv_iconst (v := (0 : Int32)) hx hb dL_law_1096 (by decide) ?_
                                          exact h.elim
                                        · replace h := h.2 c_1066_44
                                          refine lv_aload_n hx hb dL_law_1069 rfl (lv_at hl 9 rfl) ?_
                                          obtain ⟨fs9, heA⟩ := hAW.recv
                                          refine vl_calli (V := V_44) (va_runV (As := []) (rest := []) ⟨hx, hb, hml, hown, hts⟩ (a_undo l g a V_44 ws H.size hAW  _ h) (cwV 0 hts gL_law_X4_undo rfl rfl rfl hdX4_undo ⟨(Nat.le_of_ble_eq_true rfl), (Nat.le_of_ble_eq_true rfl)⟩) (preV_M (r := (RX4, TX4, 9)) hK hP hD (ci := 4) (q0 := 0) rfl heA) rfl rfl hl.1 rfl (lv_room (Nat.le_of_ble_eq_true rfl)) dL_law_1070 ⟨(Nat.le_of_ble_eq_true rfl), (Nat.le_of_ble_eq_true rfl)⟩) hS (va_freeA hD hS hA) ?_
                                          clear heA fs9
                                          clear h hAW hP hD hS
                                          clear ws H locs
                                          intro r1070_46 V_47 ws H locs hAW hP hD hS h
                                          refine lv_if_lt (tgt := 1096) hx hb dL_law_1073 (by decide) (fun c_1073_47 => ?_) (fun c_1073_47 => ?_)
                                          · replace h := h.1 c_1073_47
                                            refine lv_iconst (v := (0 : Int32)) hx hb dL_law_1096 (by decide) ?_
                                            exact h.elim
                                          · replace h := h.2 c_1073_47
                                            refine lv_aload_n hx hb dL_law_1076 rfl (lv_at hl 9 rfl) ?_
                                            refine lv_iconst (v := (1 : Int32)) hx hb dL_law_1077 (by decide) ?_
                                            obtain ⟨fs9, heA⟩ := hAW.recv
                                            refine vp_callSi (W.runV (As := [.int (1 : Int32)]) (rest := []) ⟨hx, hb, hml, hown, hts⟩ (a_count l g a V_47 ws hAW (1 : Int32) _ h) (cwV 1 hts gL_law_X4_count rfl rfl rfl hdX4_count ⟨(Nat.le_of_ble_eq_true rfl), (Nat.le_of_ble_eq_true rfl)⟩) (preV_R (r := (RX4, TX4, 9)) hK hP (ci := 4) (q0 := 0) rfl heA) rfl rfl hl.1 rfl (lv_room (Nat.le_of_ble_eq_true rfl)) dL_law_1078 ⟨(Nat.le_of_ble_eq_true rfl), (Nat.le_of_ble_eq_true rfl)⟩) (fun r1078_49 h => ?_)
                                            clear heA fs9
                                            refine lv_iload hx hb dL_law_1081 (lv_at hl 2 rfl) ?_
                                            refine lv_icmp_ne (tgt := 1096) hx hb dL_law_1083 (by decide) (fun c_1083_49 => ?_) (fun c_1083_49 => ?_)
                                            · replace h := h.1 c_1083_49
                                              refine lv_iconst (v := (0 : Int32)) hx hb dL_law_1096 (by decide) ?_
                                              exact h.elim
                                            · replace h := h.2 c_1083_49
                                              refine lv_aload_n hx hb dL_law_1086 rfl (lv_at hl 9 rfl) ?_
                                              refine lv_iconst (v := (5 : Int32)) hx hb dL_law_1087 (by decide) ?_
                                              obtain ⟨fs9, heA⟩ := hAW.recv
                                              refine vp_callSi (W.runV (As := [.int (5 : Int32)]) (rest := []) ⟨hx, hb, hml, hown, hts⟩ (a_count l g a V_47 ws hAW (5 : Int32) _ h) (cwV 1 hts gL_law_X4_count rfl rfl rfl hdX4_count ⟨(Nat.le_of_ble_eq_true rfl), (Nat.le_of_ble_eq_true rfl)⟩) (preV_R (r := (RX4, TX4, 9)) hK hP (ci := 4) (q0 := 0) rfl heA) rfl rfl hl.1 rfl (lv_room (Nat.le_of_ble_eq_true rfl)) dL_law_1088 ⟨(Nat.le_of_ble_eq_true rfl), (Nat.le_of_ble_eq_true rfl)⟩) (fun r1088_51 h => ?_)
                                              clear heA fs9
                                              refine lv_iload hx hb dL_law_1091 (lv_at hl 1 rfl) ?_
                                              refine lv_icmp_eq (tgt := 1098) hx hb dL_law_1093 (by decide) (fun c_1093_51 => ?_) (fun c_1093_51 => ?_)
                                              · replace h := h.1 c_1093_51
                                                obtain ⟨v2_53, e_v2_53⟩ : ∃ y : Int32, y = v2_15 + (1 : Int32) := ⟨_, rfl⟩
                                                replace h := h v2_53 e_v2_53
                                                refine lv_iinc (v := v2_53) (lv' := [(2, .int v2_53), (10, .int r1014_34), (9, .int r996_32), (8, .int r989_31), (7, .int t_24), (6, .int t_23), (5, .int r78_22), (4, .int r71_21), (3, .int r61_19), (1, .ref (a.1 0)), (0, .ref b)]) hx hb dL_law_1098 hl (k := 8) rfl (by rw [e_v2_53]; rfl) (by decide) rfl (fun ls hl => ?_)
                                                refine lv_goto (tgt := 51) hx hb dL_law_1101 (by decide) ?_
                                                exact ih_1 v2_53 V_47 ws H locs ls h hAW hP hD hS (lv_sub hl [0, 9, 10] rfl)
                                              · replace h := h.2 c_1093_51
                                                refine lv_iconst (v := (0 : Int32)) hx hb dL_law_1096 (by decide) ?_
                                                exact h.elim
                          refine lv_icmp_ne (tgt := 978) hx hb dL_law_966 (by decide) (fun c_966_53 => ?_) (fun c_966_53 => ?_)
                          · replace h := h.1 c_966_53
                            exact tail_5 V_25 ws H locs ls h hAW hP hD hS (lv_sub hl [0, 1, 2, 3, 4, 5, 6, 7] rfl)
                          · replace h := h.2 c_966_53
                            refine lv_aload_n hx hb dL_law_969 rfl (lv_at hl 6 rfl) ?_
                            refine vl_calli (V := V_25) (va_runS (As := [.ref (a.1 0)]) (rest := []) ⟨hx, hb, hml, hown, hts⟩ (kL_pictures l g a V_25 ws H.size hAW  _ h) (va_cwS 1 hts gL_law_L_pictures rfl rfl rfl hdL_pictures.2 ⟨(Nat.le_of_ble_eq_true rfl), (Nat.le_of_ble_eq_true rfl)⟩) (preS_MSg hK hP hD hST hS (va_freeA hD hS hA)) rfl rfl hl.1 rfl (lv_room (Nat.le_of_ble_eq_true rfl)) dL_law_970 ⟨(Nat.le_of_ble_eq_true rfl), (Nat.le_of_ble_eq_true rfl)⟩) hS (va_freeA hD hS hA) ?_
                            clear h hAW hP hD hS
                            clear ws H locs
                            intro r970_55 V_56 ws H locs hAW hP hD hS h
                            refine lv_if_ne (tgt := 978) hx hb dL_law_973 (by decide) (fun c_973_56 => ?_) (fun c_973_56 => ?_)
                            · replace h := h.1 c_973_56
                              exact tail_5 V_56 ws H locs ls h hAW hP hD hS (lv_sub hl [0, 1, 2, 3, 4, 5, 6, 7] rfl)
                            · replace h := h.2 c_973_56
                              refine lv_iconst (v := (0 : Int32)) hx hb dL_law_976 (by decide) ?_
                              exact h.elim
                      refine lv_if_ne (tgt := 230) hx hb dL_law_131 (by decide) (fun c_131_57 => ?_) (fun c_131_57 => ?_)
                      · replace h := h.1 c_131_57
                        refine lv_iload hx hb dL_law_230 (lv_at hl 1 rfl) ?_
                        refine lv_iconst (v := (4 : Int32)) hx hb dL_law_232 (by decide) ?_
                        refine lv_icmp_ge (tgt := 400) hx hb dL_law_233 (by decide) (fun c_233_58 => ?_) (fun c_233_58 => ?_)
                        · replace h := h.1 c_233_58
                          refine lv_iload hx hb dL_law_400 (lv_at hl 1 rfl) ?_
                          refine lv_iconst (v := (4 : Int32)) hx hb dL_law_402 (by decide) ?_
                          refine lv_icmp_ne (tgt := 517) hx hb dL_law_403 (by decide) (fun c_403_59 => ?_) (fun c_403_59 => ?_)
                          · replace h := h.1 c_403_59
                            refine lv_iload hx hb dL_law_517 (lv_at hl 1 rfl) ?_
                            refine lv_iconst (v := (5 : Int32)) hx hb dL_law_519 (by decide) ?_
                            refine lv_icmp_ne (tgt := 666) hx hb dL_law_520 (by decide) (fun c_520_60 => ?_) (fun c_520_60 => ?_)
                            · replace h := h.1 c_520_60
                              refine lv_iload hx hb dL_law_666 (lv_at hl 1 rfl) ?_
                              refine lv_bipush (v := (6 : Int32)) hx hb dL_law_668 (by decide) ?_
                              refine lv_icmp_ne (tgt := 792) hx hb dL_law_670 (by decide) (fun c_670_61 => ?_) (fun c_670_61 => ?_)
                              · replace h := h.1 c_670_61
                                refine lv_iload hx hb dL_law_792 (lv_at hl 1 rfl) ?_
                                refine lv_bipush (v := (7 : Int32)) hx hb dL_law_794 (by decide) ?_
                                refine lv_icmp_ne (tgt := 917) hx hb dL_law_796 (by decide) (fun c_796_62 => ?_) (fun c_796_62 => ?_)
                                · replace h := h.1 c_796_62
                                  refine lv_aload_n hx hb dL_law_917 rfl (lv_at hl 6 rfl) ?_
                                  refine lv_iconst (v := (1 : Int32)) hx hb dL_law_918 (by decide) ?_
                                  refine lv_iload hx hb dL_law_919 (lv_at hl 3 rfl) ?_
                                  refine lv_iload hx hb dL_law_921 (lv_at hl 3 rfl) ?_
                                  refine lv_bipush (v := (20 : Int32)) hx hb dL_law_923 (by decide) ?_
                                  refine lv_ishr hx hb dL_law_925 ?_
                                  refine lv_bipush (v := (6 : Int32)) hx hb dL_law_926 (by decide) ?_
                                  refine vp_callSi (W.runS (As := [.int (r71_21 >>> ((20 : Int32) &&& 31)), .int (6 : Int32)]) (rest := [.int r71_21, .int (1 : Int32), .ref (a.1 0)]) ⟨hx, hb, hml, hown, hts⟩ (kL_low l g  (r71_21 >>> ((20 : Int32) &&& 31)) (6 : Int32) _ h) (va_cwS 2 hts gL_law_L_low rfl rfl rfl hdL_low.2 ⟨(Nat.le_of_ble_eq_true rfl), (Nat.le_of_ble_eq_true rfl)⟩) (preS_R hK (va_P_nil (D := g.1) (cl := vwCl))) rfl rfl hl.1 rfl (lv_room (Nat.le_of_ble_eq_true rfl)) dL_law_928 ⟨(Nat.le_of_ble_eq_true rfl), (Nat.le_of_ble_eq_true rfl)⟩) (fun r928_64 h => ?_)
                                  have tail_6 : ∀ (t_65 : Int32) (ws : va_W) (H : Heap) (locs : List Loc) (ls : Array Slot), PL_law_J6 V_16 r71_21 (PL_law_J4 (PL_law_L1  kx_1 n_1) v2_15 r71_21) t_65 → AW g a V_16 ws → va_P g.1 vwCl ws H → va_D (fun q : Nat => s.heap.size ≤ q) ws → va_S (fun q : Nat => s.heap.size ≤ q) s.heap H locs → lv_has ls 13 [(7, .int t_24), (6, .int t_23), (5, .int r78_22), (4, .int r71_21), (3, .int r61_19), (2, .int v2_15), (1, .ref (a.1 0)), (0, .ref b)] → W p l e room_1 s m #[Value.ref b] below meth c H locs 600000 7302250 (lw_Z below #[Value.ref b] s) (F0 m 941 ls [.int t_65, .int r71_21, .int (1 : Int32), .ref (a.1 0)]) := by
                                    intro t_65 ws H locs ls h hAW hP hD hS hl
                                    unfold PL_law_J6 at h
                                    refine vp_callSi (W.runS (As := [.int r71_21, .int t_65]) (rest := [.int (1 : Int32), .ref (a.1 0)]) ⟨hx, hb, hml, hown, hts⟩ (kL_low l g  r71_21 t_65 _ h) (va_cwS 2 hts gL_law_L_low rfl rfl rfl hdL_low.2 ⟨(Nat.le_of_ble_eq_true rfl), (Nat.le_of_ble_eq_true rfl)⟩) (preS_R hK (va_P_nil (D := g.1) (cl := vwCl))) rfl rfl hl.1 rfl (lv_room (Nat.le_of_ble_eq_true rfl)) dL_law_941 ⟨(Nat.le_of_ble_eq_true rfl), (Nat.le_of_ble_eq_true rfl)⟩) (fun r941_66 h => ?_)
                                    refine lv_iadd hx hb dL_law_944 ?_
                                    refine vl_calli (V := V_16) (va_runS (As := [.ref (a.1 0), .int ((1 : Int32) + r941_66)]) (rest := []) ⟨hx, hb, hml, hown, hts⟩ (kL_runs l g a V_16 ws H.size hAW ((1 : Int32) + r941_66) _ h) (va_cwS 2 hts gL_law_L_runs rfl rfl rfl hdL_runs.2 ⟨(Nat.le_of_ble_eq_true rfl), (Nat.le_of_ble_eq_true rfl)⟩) (preS_MSg hK hP hD hST hS (va_freeA hD hS hA)) rfl rfl hl.1 rfl (lv_room (Nat.le_of_ble_eq_true rfl)) dL_law_945 ⟨(Nat.le_of_ble_eq_true rfl), (Nat.le_of_ble_eq_true rfl)⟩) hS (va_freeA hD hS hA) ?_
                                    clear h hAW hP hD hS
                                    clear ws H locs
                                    intro r945_67 V_68 ws H locs hAW hP hD hS h
                                    refine lv_if_ne (tgt := 953) hx hb dL_law_948 (by decide) (fun c_948_68 => ?_) (fun c_948_68 => ?_)
                                    · replace h := h.1 c_948_68
                                      exact tail_4 V_68 ws H locs ls h hAW hP hD hS (lv_sub hl [0, 1, 2, 3, 4, 5, 6, 7] rfl)
                                    · replace h := h.2 c_948_68
                                      refine lv_iconst (v := (0 : Int32)) hx hb dL_law_951 (by decide) ?_
                                      exact h.elim
                                  refine lv_if_ne (tgt := 939) hx hb dL_law_931 (by decide) (fun c_931_69 => ?_) (fun c_931_69 => ?_)
                                  · replace h := h.1 c_931_69
                                    refine lv_bipush (v := (9 : Int32)) hx hb dL_law_939 (by decide) ?_
                                    exact tail_6 (9 : Int32) ws H locs ls h hAW hP hD hS (lv_sub hl [0, 1, 2, 3, 4, 5, 6, 7] rfl)
                                  · replace h := h.2 c_931_69
                                    refine lv_bipush (v := (60 : Int32)) hx hb dL_law_934 (by decide) ?_
                                    refine lv_goto (tgt := 941) hx hb dL_law_936 (by decide) ?_
                                    exact tail_6 (60 : Int32) ws H locs ls h hAW hP hD hS (lv_sub hl [0, 1, 2, 3, 4, 5, 6, 7] rfl)
                                · replace h := h.2 c_796_62
                                  refine lv_aload_n hx hb dL_law_799 rfl (lv_at hl 6 rfl) ?_
                                  refine lv_bipush (v := (7 : Int32)) hx hb dL_law_800 (by decide) ?_
                                  obtain ⟨fs9, heA⟩ := hAW.recv
                                  refine vp_callSi (W.runV (As := [.int (7 : Int32)]) (rest := []) ⟨hx, hb, hml, hown, hts⟩ (a_count l g a V_16 ws hAW (7 : Int32) _ h) (cwV 1 hts gL_law_X4_count rfl rfl rfl hdX4_count ⟨(Nat.le_of_ble_eq_true rfl), (Nat.le_of_ble_eq_true rfl)⟩) (preV_R (r := (RX4, TX4, 9)) hK hP (ci := 4) (q0 := 0) rfl heA) rfl rfl hl.1 rfl (lv_room (Nat.le_of_ble_eq_true rfl)) dL_law_802 ⟨(Nat.le_of_ble_eq_true rfl), (Nat.le_of_ble_eq_true rfl)⟩) (fun r802_71 h => ?_)
                                  clear heA fs9
                                  refine lv_istore (lv' := [(8, .int r802_71), (7, .int t_24), (6, .int t_23), (5, .int r78_22), (4, .int r71_21), (3, .int r61_19), (2, .int v2_15), (1, .ref (a.1 0)), (0, .ref b)]) hx hb dL_law_805 hl (by decide) rfl (fun ls hl => ?_)
                                  refine lv_iload hx hb dL_law_807 (lv_at hl 4 rfl) ?_
                                  refine lv_iconst (v := (2 : Int32)) hx hb dL_law_809 (by decide) ?_
                                  refine vp_callSi (W.runS (As := [.int r71_21, .int (2 : Int32)]) (rest := []) ⟨hx, hb, hml, hown, hts⟩ (kL_low l g  r71_21 (2 : Int32) _ h) (va_cwS 2 hts gL_law_L_low rfl rfl rfl hdL_low.2 ⟨(Nat.le_of_ble_eq_true rfl), (Nat.le_of_ble_eq_true rfl)⟩) (preS_R hK (va_P_nil (D := g.1) (cl := vwCl))) rfl rfl hl.1 rfl (lv_room (Nat.le_of_ble_eq_true rfl)) dL_law_810 ⟨(Nat.le_of_ble_eq_true rfl), (Nat.le_of_ble_eq_true rfl)⟩) (fun r810_72 h => ?_)
                                  refine lv_istore (lv' := [(9, .int r810_72), (8, .int r802_71), (7, .int t_24), (6, .int t_23), (5, .int r78_22), (4, .int r71_21), (3, .int r61_19), (2, .int v2_15), (1, .ref (a.1 0)), (0, .ref b)]) hx hb dL_law_813 hl (by decide) rfl (fun ls hl => ?_)
                                  refine lv_iload hx hb dL_law_815 (lv_at hl 5 rfl) ?_
                                  refine lv_iconst (v := (1 : Int32)) hx hb dL_law_817 (by decide) ?_
                                  refine lv_ishr hx hb dL_law_818 ?_
                                  refine lv_bipush (v := (12 : Int32)) hx hb dL_law_819 (by decide) ?_
                                  refine vp_callSi (W.runS (As := [.int (r71_21 >>> ((1 : Int32) &&& 31)), .int (12 : Int32)]) (rest := []) ⟨hx, hb, hml, hown, hts⟩ (kL_low l g  (r71_21 >>> ((1 : Int32) &&& 31)) (12 : Int32) _ h) (va_cwS 2 hts gL_law_L_low rfl rfl rfl hdL_low.2 ⟨(Nat.le_of_ble_eq_true rfl), (Nat.le_of_ble_eq_true rfl)⟩) (preS_R hK (va_P_nil (D := g.1) (cl := vwCl))) rfl rfl hl.1 rfl (lv_room (Nat.le_of_ble_eq_true rfl)) dL_law_821 ⟨(Nat.le_of_ble_eq_true rfl), (Nat.le_of_ble_eq_true rfl)⟩) (fun r821_73 h => ?_)
                                  refine lv_istore (lv' := [(10, .int r821_73), (9, .int r810_72), (8, .int r802_71), (7, .int t_24), (6, .int t_23), (5, .int r78_22), (4, .int r71_21), (3, .int r61_19), (2, .int v2_15), (1, .ref (a.1 0)), (0, .ref b)]) hx hb dL_law_824 hl (by decide) rfl (fun ls hl => ?_)
                                  refine lv_aload_n hx hb dL_law_826 rfl (lv_at hl 9 rfl) ?_
                                  refine lv_iload hx hb dL_law_827 (lv_at hl 1 rfl) ?_
                                  refine lv_iload hx hb dL_law_829 (lv_at hl 0 rfl) ?_
                                  obtain ⟨fs9, heA⟩ := hAW.recv
                                  refine vp_callSi (W.runV (As := [.int r810_72, .int r821_73]) (rest := []) ⟨hx, hb, hml, hown, hts⟩ (a_broken l g a V_16 ws hAW r810_72 r821_73 _ h) (cwV 2 hts gL_law_X4_broken rfl rfl rfl hdX4_broken ⟨(Nat.le_of_ble_eq_true rfl), (Nat.le_of_ble_eq_true rfl)⟩) (preV_R (r := (RX4, TX4, 9)) hK hP (ci := 4) (q0 := 0) rfl heA) rfl rfl hl.1 rfl (lv_room (Nat.le_of_ble_eq_true rfl)) dL_law_831 ⟨(Nat.le_of_ble_eq_true rfl), (Nat.le_of_ble_eq_true rfl)⟩) (fun r831_74 h => ?_)
                                  clear heA fs9
                                  refine lv_istore (lv' := [(11, .int r831_74), (10, .int r821_73), (9, .int r810_72), (8, .int r802_71), (7, .int t_24), (6, .int t_23), (5, .int r78_22), (4, .int r71_21), (3, .int r61_19), (2, .int v2_15), (1, .ref (a.1 0)), (0, .ref b)]) hx hb dL_law_834 hl (by decide) rfl (fun ls hl => ?_)
                                  refine lv_aload_n hx hb dL_law_836 rfl (lv_at hl 10 rfl) ?_
                                  refine lv_iload hx hb dL_law_837 (lv_at hl 7 rfl) ?_
                                  refine lv_iconst (v := (5 : Int32)) hx hb dL_law_839 (by decide) ?_
                                  refine lv_ishr hx hb dL_law_840 ?_
                                  refine lv_iconst (v := (2 : Int32)) hx hb dL_law_841 (by decide) ?_
                                  refine vp_callSi (W.runS (As := [.int (r71_21 >>> ((5 : Int32) &&& 31)), .int (2 : Int32)]) (rest := [.ref (a.1 0)]) ⟨hx, hb, hml, hown, hts⟩ (kL_low l g  (r71_21 >>> ((5 : Int32) &&& 31)) (2 : Int32) _ h) (va_cwS 2 hts gL_law_L_low rfl rfl rfl hdL_low.2 ⟨(Nat.le_of_ble_eq_true rfl), (Nat.le_of_ble_eq_true rfl)⟩) (preS_R hK (va_P_nil (D := g.1) (cl := vwCl))) rfl rfl hl.1 rfl (lv_room (Nat.le_of_ble_eq_true rfl)) dL_law_842 ⟨(Nat.le_of_ble_eq_true rfl), (Nat.le_of_ble_eq_true rfl)⟩) (fun r842_75 h => ?_)
                                  obtain ⟨fs9, heA⟩ := hAW.recv
                                  refine vl_calli (V := V_16) (va_runV (As := [.int r842_75]) (rest := []) ⟨hx, hb, hml, hown, hts⟩ (a_setSecondArm l g a V_16 ws H.size hAW r842_75 _ h) (cwV 1 hts gL_law_X4_setSecondArm rfl rfl rfl hdX4_setSecondArm ⟨(Nat.le_of_ble_eq_true rfl), (Nat.le_of_ble_eq_true rfl)⟩) (preV_M (r := (RX4, TX4, 9)) hK hP hD (ci := 4) (q0 := 0) rfl heA) rfl rfl hl.1 rfl (lv_room (Nat.le_of_ble_eq_true rfl)) dL_law_845 ⟨(Nat.le_of_ble_eq_true rfl), (Nat.le_of_ble_eq_true rfl)⟩) hS (va_freeA hD hS hA) ?_
                                  clear heA fs9
                                  clear h hAW hP hD hS
                                  clear ws H locs
                                  intro r845_76 V_77 ws H locs hAW hP hD hS h
                                  refine lv_iload hx hb dL_law_848 (lv_at hl 3 rfl) ?_
                                  refine lv_icmp_ne (tgt := 912) hx hb dL_law_850 (by decide) (fun c_850_77 => ?_) (fun c_850_77 => ?_)
                                  · replace h := h.1 c_850_77
                                    refine lv_iconst (v := (0 : Int32)) hx hb dL_law_912 (by decide) ?_
                                    exact h.elim
                                  · replace h := h.2 c_850_77
                                    refine lv_aload_n hx hb dL_law_853 rfl (lv_at hl 10 rfl) ?_
                                    refine lv_bipush (v := (7 : Int32)) hx hb dL_law_854 (by decide) ?_
                                    obtain ⟨fs9, heA⟩ := hAW.recv
                                    refine vp_callSi (W.runV (As := [.int (7 : Int32)]) (rest := []) ⟨hx, hb, hml, hown, hts⟩ (a_count l g a V_77 ws hAW (7 : Int32) _ h) (cwV 1 hts gL_law_X4_count rfl rfl rfl hdX4_count ⟨(Nat.le_of_ble_eq_true rfl), (Nat.le_of_ble_eq_true rfl)⟩) (preV_R (r := (RX4, TX4, 9)) hK hP (ci := 4) (q0 := 0) rfl heA) rfl rfl hl.1 rfl (lv_room (Nat.le_of_ble_eq_true rfl)) dL_law_856 ⟨(Nat.le_of_ble_eq_true rfl), (Nat.le_of_ble_eq_true rfl)⟩) (fun r856_79 h => ?_)
                                    clear heA fs9
                                    refine lv_iload hx hb dL_law_859 (lv_at hl 7 rfl) ?_
                                    refine lv_iconst (v := (5 : Int32)) hx hb dL_law_861 (by decide) ?_
                                    refine lv_ishr hx hb dL_law_862 ?_
                                    refine lv_iconst (v := (2 : Int32)) hx hb dL_law_863 (by decide) ?_
                                    refine vp_callSi (W.runS (As := [.int (r71_21 >>> ((5 : Int32) &&& 31)), .int (2 : Int32)]) (rest := [.int r856_79]) ⟨hx, hb, hml, hown, hts⟩ (kL_low l g  (r71_21 >>> ((5 : Int32) &&& 31)) (2 : Int32) _ h) (va_cwS 2 hts gL_law_L_low rfl rfl rfl hdL_low.2 ⟨(Nat.le_of_ble_eq_true rfl), (Nat.le_of_ble_eq_true rfl)⟩) (preS_R hK (va_P_nil (D := g.1) (cl := vwCl))) rfl rfl hl.1 rfl (lv_room (Nat.le_of_ble_eq_true rfl)) dL_law_864 ⟨(Nat.le_of_ble_eq_true rfl), (Nat.le_of_ble_eq_true rfl)⟩) (fun r864_80 h => ?_)
                                    refine lv_icmp_ne (tgt := 912) hx hb dL_law_867 (by decide) (fun c_867_80 => ?_) (fun c_867_80 => ?_)
                                    · replace h := h.1 c_867_80
                                      refine lv_iconst (v := (0 : Int32)) hx hb dL_law_912 (by decide) ?_
                                      exact h.elim
                                    · replace h := h.2 c_867_80
                                      refine lv_aload_n hx hb dL_law_870 rfl (lv_at hl 10 rfl) ?_
                                      refine lv_iload hx hb dL_law_871 (lv_at hl 2 rfl) ?_
                                      refine lv_iload hx hb dL_law_873 (lv_at hl 1 rfl) ?_
                                      refine lv_iload hx hb dL_law_875 (lv_at hl 7 rfl) ?_
                                      refine lv_bipush (v := (6 : Int32)) hx hb dL_law_877 (by decide) ?_
                                      refine lv_ishr hx hb dL_law_879 ?_
                                      refine lv_iconst (v := (2 : Int32)) hx hb dL_law_880 (by decide) ?_
                                      refine vp_callSi (W.runS (As := [.int (r71_21 >>> ((6 : Int32) &&& 31)), .int (2 : Int32)]) (rest := [.int r821_73, .int r810_72, .ref (a.1 0)]) ⟨hx, hb, hml, hown, hts⟩ (kL_low l g  (r71_21 >>> ((6 : Int32) &&& 31)) (2 : Int32) _ h) (va_cwS 2 hts gL_law_L_low rfl rfl rfl hdL_low.2 ⟨(Nat.le_of_ble_eq_true rfl), (Nat.le_of_ble_eq_true rfl)⟩) (preS_R hK (va_P_nil (D := g.1) (cl := vwCl))) rfl rfl hl.1 rfl (lv_room (Nat.le_of_ble_eq_true rfl)) dL_law_881 ⟨(Nat.le_of_ble_eq_true rfl), (Nat.le_of_ble_eq_true rfl)⟩) (fun r881_82 h => ?_)
                                      obtain ⟨fs9, heA⟩ := hAW.recv
                                      refine vl_calli (V := V_77) (va_runV (As := [.int r810_72, .int r821_73, .int r881_82]) (rest := []) ⟨hx, hb, hml, hown, hts⟩ (a_setBroken l g a V_77 ws H.size hAW r810_72 r821_73 r881_82 _ h) (cwV 3 hts gL_law_X4_setBroken rfl rfl rfl hdX4_setBroken ⟨(Nat.le_of_ble_eq_true rfl), (Nat.le_of_ble_eq_true rfl)⟩) (preV_M (r := (RX4, TX4, 9)) hK hP hD (ci := 4) (q0 := 0) rfl heA) rfl rfl hl.1 rfl (lv_room (Nat.le_of_ble_eq_true rfl)) dL_law_884 ⟨(Nat.le_of_ble_eq_true rfl), (Nat.le_of_ble_eq_true rfl)⟩) hS (va_freeA hD hS hA) ?_
                                      clear heA fs9
                                      clear h hAW hP hD hS
                                      clear ws H locs
                                      intro r884_83 V_84 ws H locs hAW hP hD hS h
                                      refine lv_iload hx hb dL_law_887 (lv_at hl 0 rfl) ?_
                                      refine lv_icmp_ne (tgt := 912) hx hb dL_law_889 (by decide) (fun c_889_84 => ?_) (fun c_889_84 => ?_)
                                      · replace h := h.1 c_889_84
                                        refine lv_iconst (v := (0 : Int32)) hx hb dL_law_912 (by decide) ?_
                                        exact h.elim
                                      · replace h := h.2 c_889_84
                                        refine lv_aload_n hx hb dL_law_892 rfl (lv_at hl 10 rfl) ?_
                                        refine lv_iload hx hb dL_law_893 (lv_at hl 2 rfl) ?_
                                        refine lv_iload hx hb dL_law_895 (lv_at hl 1 rfl) ?_
                                        obtain ⟨fs9, heA⟩ := hAW.recv
                                        refine vp_callSi (W.runV (As := [.int r810_72, .int r821_73]) (rest := []) ⟨hx, hb, hml, hown, hts⟩ (a_broken l g a V_84 ws hAW r810_72 r821_73 _ h) (cwV 2 hts gL_law_X4_broken rfl rfl rfl hdX4_broken ⟨(Nat.le_of_ble_eq_true rfl), (Nat.le_of_ble_eq_true rfl)⟩) (preV_R (r := (RX4, TX4, 9)) hK hP (ci := 4) (q0 := 0) rfl heA) rfl rfl hl.1 rfl (lv_room (Nat.le_of_ble_eq_true rfl)) dL_law_897 ⟨(Nat.le_of_ble_eq_true rfl), (Nat.le_of_ble_eq_true rfl)⟩) (fun r897_86 h => ?_)
                                        clear heA fs9
                                        refine lv_iload hx hb dL_law_900 (lv_at hl 7 rfl) ?_
                                        refine lv_bipush (v := (6 : Int32)) hx hb dL_law_902 (by decide) ?_
                                        refine lv_ishr hx hb dL_law_904 ?_
                                        refine lv_iconst (v := (2 : Int32)) hx hb dL_law_905 (by decide) ?_
                                        refine vp_callSi (W.runS (As := [.int (r71_21 >>> ((6 : Int32) &&& 31)), .int (2 : Int32)]) (rest := [.int r897_86]) ⟨hx, hb, hml, hown, hts⟩ (kL_low l g  (r71_21 >>> ((6 : Int32) &&& 31)) (2 : Int32) _ h) (va_cwS 2 hts gL_law_L_low rfl rfl rfl hdL_low.2 ⟨(Nat.le_of_ble_eq_true rfl), (Nat.le_of_ble_eq_true rfl)⟩) (preS_R hK (va_P_nil (D := g.1) (cl := vwCl))) rfl rfl hl.1 rfl (lv_room (Nat.le_of_ble_eq_true rfl)) dL_law_906 ⟨(Nat.le_of_ble_eq_true rfl), (Nat.le_of_ble_eq_true rfl)⟩) (fun r906_87 h => ?_)
                                        refine lv_icmp_eq (tgt := 914) hx hb dL_law_909 (by decide) (fun c_909_87 => ?_) (fun c_909_87 => ?_)
                                        · replace h := h.1 c_909_87
                                          refine lv_goto (tgt := 953) hx hb dL_law_914 (by decide) ?_
                                          exact tail_4 V_84 ws H locs ls h hAW hP hD hS (lv_sub hl [4, 5, 6, 7, 8, 9, 10, 11] rfl)
                                        · replace h := h.2 c_909_87
                                          refine lv_iconst (v := (0 : Int32)) hx hb dL_law_912 (by decide) ?_
                                          exact h.elim
                              · replace h := h.2 c_670_61
                                refine lv_iload hx hb dL_law_673 (lv_at hl 3 rfl) ?_
                                refine lv_iconst (v := (4 : Int32)) hx hb dL_law_675 (by decide) ?_
                                refine vp_callSi (W.runS (As := [.int r71_21, .int (4 : Int32)]) (rest := []) ⟨hx, hb, hml, hown, hts⟩ (kL_low l g  r71_21 (4 : Int32) _ h) (va_cwS 2 hts gL_law_L_low rfl rfl rfl hdL_low.2 ⟨(Nat.le_of_ble_eq_true rfl), (Nat.le_of_ble_eq_true rfl)⟩) (preS_R hK (va_P_nil (D := g.1) (cl := vwCl))) rfl rfl hl.1 rfl (lv_room (Nat.le_of_ble_eq_true rfl)) dL_law_676 ⟨(Nat.le_of_ble_eq_true rfl), (Nat.le_of_ble_eq_true rfl)⟩) (fun r676_89 h => ?_)
                                refine lv_istore (lv' := [(8, .int r676_89), (7, .int t_24), (6, .int t_23), (5, .int r78_22), (4, .int r71_21), (3, .int r61_19), (2, .int v2_15), (1, .ref (a.1 0)), (0, .ref b)]) hx hb dL_law_679 hl (by decide) rfl (fun ls hl => ?_)
                                refine lv_iload hx hb dL_law_681 (lv_at hl 0 rfl) ?_
                                have tail_7 : ∀ (t_90 : Int32) (ws : va_W) (H : Heap) (locs : List Loc) (ls : Array Slot), PL_law_J7 V_16 (PL_law_J4 (PL_law_L1  kx_1 n_1) v2_15 r71_21) r676_89 t_90 → AW g a V_16 ws → va_P g.1 vwCl ws H → va_D (fun q : Nat => s.heap.size ≤ q) ws → va_S (fun q : Nat => s.heap.size ≤ q) s.heap H locs → lv_has ls 13 [(8, .int r676_89), (7, .int t_24), (6, .int t_23), (5, .int r78_22), (4, .int r71_21), (3, .int r61_19), (2, .int v2_15), (1, .ref (a.1 0)), (0, .ref b)] → W p l e room_1 s m #[Value.ref b] below meth c H locs 600000 7302250 (lw_Z below #[Value.ref b] s) (F0 m 753 ls [.int t_90]) := by
                                  intro t_90 ws H locs ls h hAW hP hD hS hl
                                  unfold PL_law_J7 at h
                                  refine lv_istore (lv' := [(9, .int t_90), (8, .int r676_89), (7, .int t_24), (6, .int t_23), (5, .int r78_22), (4, .int r71_21), (3, .int r61_19), (2, .int v2_15), (1, .ref (a.1 0)), (0, .ref b)]) hx hb dL_law_753 hl (by decide) rfl (fun ls hl => ?_)
                                  refine lv_aload_n hx hb dL_law_755 rfl (lv_at hl 8 rfl) ?_
                                  refine lv_iload hx hb dL_law_756 (lv_at hl 1 rfl) ?_
                                  obtain ⟨fs9, heA⟩ := hAW.recv
                                  refine vp_callSi (W.runV (As := [.int r676_89]) (rest := []) ⟨hx, hb, hml, hown, hts⟩ (a_setting l g a V_16 ws hAW r676_89 _ h) (cwV 1 hts gL_law_X4_setting rfl rfl rfl hdX4_setting ⟨(Nat.le_of_ble_eq_true rfl), (Nat.le_of_ble_eq_true rfl)⟩) (preV_R (r := (RX4, TX4, 9)) hK hP (ci := 4) (q0 := 0) rfl heA) rfl rfl hl.1 rfl (lv_room (Nat.le_of_ble_eq_true rfl)) dL_law_758 ⟨(Nat.le_of_ble_eq_true rfl), (Nat.le_of_ble_eq_true rfl)⟩) (fun r758_91 h => ?_)
                                  clear heA fs9
                                  refine lv_istore (lv' := [(10, .int r758_91), (9, .int t_90), (8, .int r676_89), (7, .int t_24), (6, .int t_23), (5, .int r78_22), (4, .int r71_21), (3, .int r61_19), (2, .int v2_15), (1, .ref (a.1 0)), (0, .ref b)]) hx hb dL_law_761 hl (by decide) rfl (fun ls hl => ?_)
                                  refine lv_aload_n hx hb dL_law_763 rfl (lv_at hl 9 rfl) ?_
                                  refine lv_iload hx hb dL_law_764 (lv_at hl 2 rfl) ?_
                                  refine lv_iload hx hb dL_law_766 (lv_at hl 1 rfl) ?_
                                  obtain ⟨fs9, heA⟩ := hAW.recv
                                  refine vl_calli (V := V_16) (va_runV (As := [.int r676_89, .int t_90]) (rest := []) ⟨hx, hb, hml, hown, hts⟩ (a_set l g a V_16 ws H.size hAW r676_89 t_90 _ h) (cwV 2 hts gL_law_X4_set rfl rfl rfl hdX4_set ⟨(Nat.le_of_ble_eq_true rfl), (Nat.le_of_ble_eq_true rfl)⟩) (preV_MSg (r := (RX4, TX4, 9)) hK hP hD hST hS (va_freeA hD hS hA) (ci := 4) (q0 := 0) rfl heA) rfl rfl hl.1 rfl (lv_room (Nat.le_of_ble_eq_true rfl)) dL_law_768 ⟨(Nat.le_of_ble_eq_true rfl), (Nat.le_of_ble_eq_true rfl)⟩) hS (va_freeA hD hS hA) ?_
                                  clear heA fs9
                                  clear h hAW hP hD hS
                                  clear ws H locs
                                  intro r768_92 V_93 ws H locs hAW hP hD hS h
                                  refine lv_iload hx hb dL_law_771 (lv_at hl 0 rfl) ?_
                                  refine lv_icmp_ne (tgt := 787) hx hb dL_law_773 (by decide) (fun c_773_93 => ?_) (fun c_773_93 => ?_)
                                  · replace h := h.1 c_773_93
                                    refine lv_iconst (v := (0 : Int32)) hx hb dL_law_787 (by decide) ?_
                                    exact h.elim
                                  · replace h := h.2 c_773_93
                                    refine lv_aload_n hx hb dL_law_776 rfl (lv_at hl 9 rfl) ?_
                                    refine lv_iload hx hb dL_law_777 (lv_at hl 2 rfl) ?_
                                    obtain ⟨fs9, heA⟩ := hAW.recv
                                    refine vp_callSi (W.runV (As := [.int r676_89]) (rest := []) ⟨hx, hb, hml, hown, hts⟩ (a_setting l g a V_93 ws hAW r676_89 _ h) (cwV 1 hts gL_law_X4_setting rfl rfl rfl hdX4_setting ⟨(Nat.le_of_ble_eq_true rfl), (Nat.le_of_ble_eq_true rfl)⟩) (preV_R (r := (RX4, TX4, 9)) hK hP (ci := 4) (q0 := 0) rfl heA) rfl rfl hl.1 rfl (lv_room (Nat.le_of_ble_eq_true rfl)) dL_law_779 ⟨(Nat.le_of_ble_eq_true rfl), (Nat.le_of_ble_eq_true rfl)⟩) (fun r779_95 h => ?_)
                                    clear heA fs9
                                    refine lv_iload hx hb dL_law_782 (lv_at hl 1 rfl) ?_
                                    refine lv_icmp_eq (tgt := 789) hx hb dL_law_784 (by decide) (fun c_784_95 => ?_) (fun c_784_95 => ?_)
                                    · replace h := h.1 c_784_95
                                      refine lv_goto (tgt := 953) hx hb dL_law_789 (by decide) ?_
                                      exact tail_4 V_93 ws H locs ls h hAW hP hD hS (lv_sub hl [3, 4, 5, 6, 7, 8, 9, 10] rfl)
                                    · replace h := h.2 c_784_95
                                      refine lv_iconst (v := (0 : Int32)) hx hb dL_law_787 (by decide) ?_
                                      exact h.elim
                                refine lv_if_ne (tgt := 701) hx hb dL_law_683 (by decide) (fun c_683_96 => ?_) (fun c_683_96 => ?_)
                                · replace h := h.1 c_683_96
                                  refine lv_iload hx hb dL_law_701 (lv_at hl 0 rfl) ?_
                                  refine lv_iconst (v := (1 : Int32)) hx hb dL_law_703 (by decide) ?_
                                  refine lv_icmp_ne (tgt := 721) hx hb dL_law_704 (by decide) (fun c_704_97 => ?_) (fun c_704_97 => ?_)
                                  · replace h := h.1 c_704_97
                                    refine lv_iload hx hb dL_law_721 (lv_at hl 0 rfl) ?_
                                    refine lv_iconst (v := (2 : Int32)) hx hb dL_law_723 (by decide) ?_
                                    refine lv_icmp_ne (tgt := 742) hx hb dL_law_724 (by decide) (fun c_724_98 => ?_) (fun c_724_98 => ?_)
                                    · replace h := h.1 c_724_98
                                      refine lv_iconst (v := (1 : Int32)) hx hb dL_law_742 (by decide) ?_
                                      refine lv_iload hx hb dL_law_743 (lv_at hl 4 rfl) ?_
                                      refine lv_iconst (v := (2 : Int32)) hx hb dL_law_745 (by decide) ?_
                                      refine lv_ishr hx hb dL_law_746 ?_
                                      refine lv_bipush (v := (99 : Int32)) hx hb dL_law_747 (by decide) ?_
                                      refine vp_callSi (W.runS (As := [.int (r71_21 >>> ((2 : Int32) &&& 31)), .int (99 : Int32)]) (rest := [.int (1 : Int32)]) ⟨hx, hb, hml, hown, hts⟩ (kL_low l g  (r71_21 >>> ((2 : Int32) &&& 31)) (99 : Int32) _ h) (va_cwS 2 hts gL_law_L_low rfl rfl rfl hdL_low.2 ⟨(Nat.le_of_ble_eq_true rfl), (Nat.le_of_ble_eq_true rfl)⟩) (preS_R hK (va_P_nil (D := g.1) (cl := vwCl))) rfl rfl hl.1 rfl (lv_room (Nat.le_of_ble_eq_true rfl)) dL_law_749 ⟨(Nat.le_of_ble_eq_true rfl), (Nat.le_of_ble_eq_true rfl)⟩) (fun r749_100 h => ?_)
                                      refine lv_iadd hx hb dL_law_752 ?_
                                      exact tail_7 ((1 : Int32) + r749_100) ws H locs ls h hAW hP hD hS (lv_sub hl [0, 1, 2, 3, 4, 5, 6, 7, 8] rfl)
                                    · replace h := h.2 c_724_98
                                      refine lv_iconst (v := (1 : Int32)) hx hb dL_law_727 (by decide) ?_
                                      refine lv_iload hx hb dL_law_728 (lv_at hl 4 rfl) ?_
                                      refine lv_iconst (v := (2 : Int32)) hx hb dL_law_730 (by decide) ?_
                                      refine lv_ishr hx hb dL_law_731 ?_
                                      refine lv_sipush (v := (300 : Int32)) hx hb dL_law_732 (by decide) ?_
                                      refine vp_callSi (W.runS (As := [.int (r71_21 >>> ((2 : Int32) &&& 31)), .int (300 : Int32)]) (rest := [.int (1 : Int32)]) ⟨hx, hb, hml, hown, hts⟩ (kL_low l g  (r71_21 >>> ((2 : Int32) &&& 31)) (300 : Int32) _ h) (va_cwS 2 hts gL_law_L_low rfl rfl rfl hdL_low.2 ⟨(Nat.le_of_ble_eq_true rfl), (Nat.le_of_ble_eq_true rfl)⟩) (preS_R hK (va_P_nil (D := g.1) (cl := vwCl))) rfl rfl hl.1 rfl (lv_room (Nat.le_of_ble_eq_true rfl)) dL_law_735 ⟨(Nat.le_of_ble_eq_true rfl), (Nat.le_of_ble_eq_true rfl)⟩) (fun r735_101 h => ?_)
                                      refine lv_iadd hx hb dL_law_738 ?_
                                      refine lv_goto (tgt := 753) hx hb dL_law_739 (by decide) ?_
                                      exact tail_7 ((1 : Int32) + r735_101) ws H locs ls h hAW hP hD hS (lv_sub hl [0, 1, 2, 3, 4, 5, 6, 7, 8] rfl)
                                  · replace h := h.2 c_704_97
                                    refine lv_iconst (v := (1 : Int32)) hx hb dL_law_707 (by decide) ?_
                                    refine lv_iload hx hb dL_law_708 (lv_at hl 4 rfl) ?_
                                    refine lv_iconst (v := (2 : Int32)) hx hb dL_law_710 (by decide) ?_
                                    refine lv_ishr hx hb dL_law_711 ?_
                                    refine lv_bipush (v := (20 : Int32)) hx hb dL_law_712 (by decide) ?_
                                    refine vp_callSi (W.runS (As := [.int (r71_21 >>> ((2 : Int32) &&& 31)), .int (20 : Int32)]) (rest := [.int (1 : Int32)]) ⟨hx, hb, hml, hown, hts⟩ (kL_low l g  (r71_21 >>> ((2 : Int32) &&& 31)) (20 : Int32) _ h) (va_cwS 2 hts gL_law_L_low rfl rfl rfl hdL_low.2 ⟨(Nat.le_of_ble_eq_true rfl), (Nat.le_of_ble_eq_true rfl)⟩) (preS_R hK (va_P_nil (D := g.1) (cl := vwCl))) rfl rfl hl.1 rfl (lv_room (Nat.le_of_ble_eq_true rfl)) dL_law_714 ⟨(Nat.le_of_ble_eq_true rfl), (Nat.le_of_ble_eq_true rfl)⟩) (fun r714_102 h => ?_)
                                    refine lv_iadd hx hb dL_law_717 ?_
                                    refine lv_goto (tgt := 753) hx hb dL_law_718 (by decide) ?_
                                    exact tail_7 ((1 : Int32) + r714_102) ws H locs ls h hAW hP hD hS (lv_sub hl [0, 1, 2, 3, 4, 5, 6, 7, 8] rfl)
                                · replace h := h.2 c_683_96
                                  refine lv_iload hx hb dL_law_686 (lv_at hl 4 rfl) ?_
                                  refine lv_iconst (v := (2 : Int32)) hx hb dL_law_688 (by decide) ?_
                                  refine lv_ishr hx hb dL_law_689 ?_
                                  refine lv_bipush (v := (121 : Int32)) hx hb dL_law_690 (by decide) ?_
                                  refine vp_callSi (W.runS (As := [.int (r71_21 >>> ((2 : Int32) &&& 31)), .int (121 : Int32)]) (rest := []) ⟨hx, hb, hml, hown, hts⟩ (kL_low l g  (r71_21 >>> ((2 : Int32) &&& 31)) (121 : Int32) _ h) (va_cwS 2 hts gL_law_L_low rfl rfl rfl hdL_low.2 ⟨(Nat.le_of_ble_eq_true rfl), (Nat.le_of_ble_eq_true rfl)⟩) (preS_R hK (va_P_nil (D := g.1) (cl := vwCl))) rfl rfl hl.1 rfl (lv_room (Nat.le_of_ble_eq_true rfl)) dL_law_692 ⟨(Nat.le_of_ble_eq_true rfl), (Nat.le_of_ble_eq_true rfl)⟩) (fun r692_103 h => ?_)
                                  refine lv_bipush (v := (60 : Int32)) hx hb dL_law_695 (by decide) ?_
                                  refine lv_isub hx hb dL_law_697 ?_
                                  refine lv_goto (tgt := 753) hx hb dL_law_698 (by decide) ?_
                                  exact tail_7 (r692_103 - (60 : Int32)) ws H locs ls h hAW hP hD hS (lv_sub hl [0, 1, 2, 3, 4, 5, 6, 7, 8] rfl)
                            · replace h := h.2 c_520_60
                              refine lv_aload_n hx hb dL_law_523 rfl (lv_at hl 6 rfl) ?_
                              refine lv_iload hx hb dL_law_524 (lv_at hl 0 rfl) ?_
                              refine lv_iconst (v := (3 : Int32)) hx hb dL_law_526 (by decide) ?_
                              obtain ⟨fs9, heA⟩ := hAW.recv
                              refine vp_callSi (W.runV (As := [.int t_24, .int (3 : Int32)]) (rest := []) ⟨hx, hb, hml, hown, hts⟩ (a_picture l g a V_16 ws hAW t_24 (3 : Int32) _ h) (cwV 2 hts gL_law_X4_picture rfl rfl rfl hdX4_picture ⟨(Nat.le_of_ble_eq_true rfl), (Nat.le_of_ble_eq_true rfl)⟩) (preV_R (r := (RX4, TX4, 9)) hK hP (ci := 4) (q0 := 0) rfl heA) rfl rfl hl.1 rfl (lv_room (Nat.le_of_ble_eq_true rfl)) dL_law_527 ⟨(Nat.le_of_ble_eq_true rfl), (Nat.le_of_ble_eq_true rfl)⟩) (fun r527_104 h => ?_)
                              clear heA fs9
                              refine lv_istore (lv' := [(8, .int r527_104), (7, .int t_24), (6, .int t_23), (5, .int r78_22), (4, .int r71_21), (3, .int r61_19), (2, .int v2_15), (1, .ref (a.1 0)), (0, .ref b)]) hx hb dL_law_530 hl (by decide) rfl (fun ls hl => ?_)
                              refine lv_aload_n hx hb dL_law_532 rfl (lv_at hl 7 rfl) ?_
                              refine lv_iload hx hb dL_law_533 (lv_at hl 1 rfl) ?_
                              refine lv_iload hx hb dL_law_535 (lv_at hl 4 rfl) ?_
                              refine lv_iconst (v := (3 : Int32)) hx hb dL_law_537 (by decide) ?_
                              refine lv_ishr hx hb dL_law_538 ?_
                              refine lv_sipush (v := (720 : Int32)) hx hb dL_law_539 (by decide) ?_
                              refine vp_callSi (W.runS (As := [.int (r71_21 >>> ((3 : Int32) &&& 31)), .int (720 : Int32)]) (rest := [.int t_24, .ref (a.1 0)]) ⟨hx, hb, hml, hown, hts⟩ (kL_low l g  (r71_21 >>> ((3 : Int32) &&& 31)) (720 : Int32) _ h) (va_cwS 2 hts gL_law_L_low rfl rfl rfl hdL_low.2 ⟨(Nat.le_of_ble_eq_true rfl), (Nat.le_of_ble_eq_true rfl)⟩) (preS_R hK (va_P_nil (D := g.1) (cl := vwCl))) rfl rfl hl.1 rfl (lv_room (Nat.le_of_ble_eq_true rfl)) dL_law_542 ⟨(Nat.le_of_ble_eq_true rfl), (Nat.le_of_ble_eq_true rfl)⟩) (fun r542_105 h => ?_)
                              obtain ⟨fs9, heA⟩ := hAW.recv
                              refine vp_callSi (W.runV (As := [.int t_24, .int r542_105]) (rest := []) ⟨hx, hb, hml, hown, hts⟩ (a_columnAt l g a V_16 ws hAW t_24 r542_105 _ h) (cwV 2 hts gL_law_X4_columnAt rfl rfl rfl hdX4_columnAt ⟨(Nat.le_of_ble_eq_true rfl), (Nat.le_of_ble_eq_true rfl)⟩) (preV_R (r := (RX4, TX4, 9)) hK hP (ci := 4) (q0 := 0) rfl heA) rfl rfl hl.1 rfl (lv_room (Nat.le_of_ble_eq_true rfl)) dL_law_545 ⟨(Nat.le_of_ble_eq_true rfl), (Nat.le_of_ble_eq_true rfl)⟩) (fun r545_106 h => ?_)
                              clear heA fs9
                              refine lv_istore (lv' := [(9, .int r545_106), (8, .int r527_104), (7, .int t_24), (6, .int t_23), (5, .int r78_22), (4, .int r71_21), (3, .int r61_19), (2, .int v2_15), (1, .ref (a.1 0)), (0, .ref b)]) hx hb dL_law_548 hl (by decide) rfl (fun ls hl => ?_)
                              refine lv_iload hx hb dL_law_550 (lv_at hl 5 rfl) ?_
                              refine lv_iconst (v := (3 : Int32)) hx hb dL_law_552 (by decide) ?_
                              refine vp_callSi (W.runS (As := [.int r71_21, .int (3 : Int32)]) (rest := []) ⟨hx, hb, hml, hown, hts⟩ (kL_low l g  r71_21 (3 : Int32) _ h) (va_cwS 2 hts gL_law_L_low rfl rfl rfl hdL_low.2 ⟨(Nat.le_of_ble_eq_true rfl), (Nat.le_of_ble_eq_true rfl)⟩) (preS_R hK (va_P_nil (D := g.1) (cl := vwCl))) rfl rfl hl.1 rfl (lv_room (Nat.le_of_ble_eq_true rfl)) dL_law_553 ⟨(Nat.le_of_ble_eq_true rfl), (Nat.le_of_ble_eq_true rfl)⟩) (fun r553_107 h => ?_)
                              refine lv_istore (lv' := [(10, .int r553_107), (9, .int r545_106), (8, .int r527_104), (7, .int t_24), (6, .int t_23), (5, .int r78_22), (4, .int r71_21), (3, .int r61_19), (2, .int v2_15), (1, .ref (a.1 0)), (0, .ref b)]) hx hb dL_law_556 hl (by decide) rfl (fun ls hl => ?_)
                              refine lv_aload_n hx hb dL_law_558 rfl (lv_at hl 9 rfl) ?_
                              refine lv_iload hx hb dL_law_559 (lv_at hl 3 rfl) ?_
                              refine lv_iload hx hb dL_law_561 (lv_at hl 0 rfl) ?_
                              obtain ⟨fs9, heA⟩ := hAW.recv
                              refine vl_calli (V := V_16) (va_runV (As := [.int t_24, .int r553_107]) (rest := []) ⟨hx, hb, hml, hown, hts⟩ (a_setKind l g a V_16 ws H.size hAW t_24 r553_107 _ h) (cwV 2 hts gL_law_X4_setKind rfl rfl rfl hdX4_setKind ⟨(Nat.le_of_ble_eq_true rfl), (Nat.le_of_ble_eq_true rfl)⟩) (preV_M (r := (RX4, TX4, 9)) hK hP hD (ci := 4) (q0 := 0) rfl heA) rfl rfl hl.1 rfl (lv_room (Nat.le_of_ble_eq_true rfl)) dL_law_563 ⟨(Nat.le_of_ble_eq_true rfl), (Nat.le_of_ble_eq_true rfl)⟩) hS (va_freeA hD hS hA) ?_
                              clear heA fs9
                              clear h hAW hP hD hS
                              clear ws H locs
                              intro r563_108 V_109 ws H locs hAW hP hD hS h
                              refine lv_iload hx hb dL_law_566 (lv_at hl 2 rfl) ?_
                              refine lv_icmp_ne (tgt := 583) hx hb dL_law_568 (by decide) (fun c_568_109 => ?_) (fun c_568_109 => ?_)
                              · replace h := h.1 c_568_109
                                refine lv_iconst (v := (0 : Int32)) hx hb dL_law_583 (by decide) ?_
                                exact h.elim
                              · replace h := h.2 c_568_109
                                refine lv_aload_n hx hb dL_law_571 rfl (lv_at hl 9 rfl) ?_
                                refine lv_iload hx hb dL_law_572 (lv_at hl 3 rfl) ?_
                                refine lv_iconst (v := (3 : Int32)) hx hb dL_law_574 (by decide) ?_
                                obtain ⟨fs9, heA⟩ := hAW.recv
                                refine vp_callSi (W.runV (As := [.int t_24, .int (3 : Int32)]) (rest := []) ⟨hx, hb, hml, hown, hts⟩ (a_picture l g a V_109 ws hAW t_24 (3 : Int32) _ h) (cwV 2 hts gL_law_X4_picture rfl rfl rfl hdX4_picture ⟨(Nat.le_of_ble_eq_true rfl), (Nat.le_of_ble_eq_true rfl)⟩) (preV_R (r := (RX4, TX4, 9)) hK hP (ci := 4) (q0 := 0) rfl heA) rfl rfl hl.1 rfl (lv_room (Nat.le_of_ble_eq_true rfl)) dL_law_575 ⟨(Nat.le_of_ble_eq_true rfl), (Nat.le_of_ble_eq_true rfl)⟩) (fun r575_111 h => ?_)
                                clear heA fs9
                                refine lv_iload hx hb dL_law_578 (lv_at hl 0 rfl) ?_
                                refine lv_icmp_eq (tgt := 585) hx hb dL_law_580 (by decide) (fun c_580_111 => ?_) (fun c_580_111 => ?_)
                                · replace h := h.1 c_580_111
                                  refine lv_aload_n hx hb dL_law_585 rfl (lv_at hl 9 rfl) ?_
                                  refine lv_iload hx hb dL_law_586 (lv_at hl 3 rfl) ?_
                                  refine lv_iload hx hb dL_law_588 (lv_at hl 6 rfl) ?_
                                  refine lv_iconst (v := (3 : Int32)) hx hb dL_law_590 (by decide) ?_
                                  refine lv_ishr hx hb dL_law_591 ?_
                                  refine lv_sipush (v := (720 : Int32)) hx hb dL_law_592 (by decide) ?_
                                  refine vp_callSi (W.runS (As := [.int (r71_21 >>> ((3 : Int32) &&& 31)), .int (720 : Int32)]) (rest := [.int t_24, .ref (a.1 0)]) ⟨hx, hb, hml, hown, hts⟩ (kL_low l g  (r71_21 >>> ((3 : Int32) &&& 31)) (720 : Int32) _ h) (va_cwS 2 hts gL_law_L_low rfl rfl rfl hdL_low.2 ⟨(Nat.le_of_ble_eq_true rfl), (Nat.le_of_ble_eq_true rfl)⟩) (preS_R hK (va_P_nil (D := g.1) (cl := vwCl))) rfl rfl hl.1 rfl (lv_room (Nat.le_of_ble_eq_true rfl)) dL_law_595 ⟨(Nat.le_of_ble_eq_true rfl), (Nat.le_of_ble_eq_true rfl)⟩) (fun r595_113 h => ?_)
                                  obtain ⟨fs9, heA⟩ := hAW.recv
                                  refine vp_callSi (W.runV (As := [.int t_24, .int r595_113]) (rest := []) ⟨hx, hb, hml, hown, hts⟩ (a_columnAt l g a V_109 ws hAW t_24 r595_113 _ h) (cwV 2 hts gL_law_X4_columnAt rfl rfl rfl hdX4_columnAt ⟨(Nat.le_of_ble_eq_true rfl), (Nat.le_of_ble_eq_true rfl)⟩) (preV_R (r := (RX4, TX4, 9)) hK hP (ci := 4) (q0 := 0) rfl heA) rfl rfl hl.1 rfl (lv_room (Nat.le_of_ble_eq_true rfl)) dL_law_598 ⟨(Nat.le_of_ble_eq_true rfl), (Nat.le_of_ble_eq_true rfl)⟩) (fun r598_114 h => ?_)
                                  clear heA fs9
                                  refine lv_istore (lv' := [(11, .int r598_114), (10, .int r553_107), (9, .int r545_106), (8, .int r527_104), (7, .int t_24), (6, .int t_23), (5, .int r78_22), (4, .int r71_21), (3, .int r61_19), (2, .int v2_15), (1, .ref (a.1 0)), (0, .ref b)]) hx hb dL_law_601 hl (by decide) rfl (fun ls hl => ?_)
                                  refine lv_iload hx hb dL_law_603 (lv_at hl 3 rfl) ?_
                                  refine lv_iconst (v := (2 : Int32)) hx hb dL_law_605 (by decide) ?_
                                  have tail_8 : ∀ (ws : va_W) (H : Heap) (locs : List Loc) (ls : Array Slot), PL_law_J8 (PL_law_J4 (PL_law_L1  kx_1 n_1) v2_15 r71_21) V_109  → AW g a V_109 ws → va_P g.1 vwCl ws H → va_D (fun q : Nat => s.heap.size ≤ q) ws → va_S (fun q : Nat => s.heap.size ≤ q) s.heap H locs → lv_has ls 13 [(11, .int r598_114), (10, .int r553_107), (9, .int r545_106), (8, .int r527_104), (7, .int t_24), (6, .int t_23), (5, .int r78_22), (4, .int r71_21), (3, .int r61_19), (2, .int v2_15), (1, .ref (a.1 0)), (0, .ref b)] → W p l e room_1 s m #[Value.ref b] below meth c H locs 600000 7302250 (lw_Z below #[Value.ref b] s) (F0 m 663 ls []) := by
                                    intro  ws H locs ls h hAW hP hD hS hl
                                    unfold PL_law_J8 at h
                                    refine lv_goto (tgt := 953) hx hb dL_law_663 (by decide) ?_
                                    exact tail_4 V_109 ws H locs ls h hAW hP hD hS (lv_sub hl [4, 5, 6, 7, 8, 9, 10, 11] rfl)
                                  refine lv_icmp_ge (tgt := 663) hx hb dL_law_606 (by decide) (fun c_606_114 => ?_) (fun c_606_114 => ?_)
                                  · replace h := h.1 c_606_114
                                    exact tail_8  ws H locs ls h hAW hP hD hS (lv_sub hl [0, 1, 2, 3, 4, 5, 6, 7, 8, 9, 10, 11] rfl)
                                  · replace h := h.2 c_606_114
                                    refine lv_iload hx hb dL_law_609 (lv_at hl 1 rfl) ?_
                                    refine lv_iconst (v := (2 : Int32)) hx hb dL_law_611 (by decide) ?_
                                    refine lv_icmp_ge (tgt := 663) hx hb dL_law_612 (by decide) (fun c_612_115 => ?_) (fun c_612_115 => ?_)
                                    · replace h := h.1 c_612_115
                                      exact tail_8  ws H locs ls h hAW hP hD hS (lv_sub hl [0, 1, 2, 3, 4, 5, 6, 7, 8, 9, 10, 11] rfl)
                                    · replace h := h.2 c_612_115
                                      refine lv_iload hx hb dL_law_615 (lv_at hl 2 rfl) ?_
                                      refine lv_bipush (v := (-109 : Int32)) hx hb dL_law_617 (by decide) ?_
                                      refine lv_icmp_ne (tgt := 632) hx hb dL_law_619 (by decide) (fun c_619_116 => ?_) (fun c_619_116 => ?_)
                                      · replace h := h.1 c_619_116
                                        refine lv_iload hx hb dL_law_632 (lv_at hl 0 rfl) ?_
                                        refine lv_iload hx hb dL_law_634 (lv_at hl 3 rfl) ?_
                                        refine lv_iload hx hb dL_law_636 (lv_at hl 1 rfl) ?_
                                        have tail_9 : ∀ (t_118 : Int32) (ws : va_W) (H : Heap) (locs : List Loc) (ls : Array Slot), PL_law_J9 r598_114 (PL_law_J8 (PL_law_J4 (PL_law_L1  kx_1 n_1) v2_15 r71_21) V_109) t_118 → AW g a V_109 ws → va_P g.1 vwCl ws H → va_D (fun q : Nat => s.heap.size ≤ q) ws → va_S (fun q : Nat => s.heap.size ≤ q) s.heap H locs → lv_has ls 13 [(11, .int r598_114), (10, .int r553_107), (9, .int r545_106), (8, .int r527_104), (7, .int t_24), (6, .int t_23), (5, .int r78_22), (4, .int r71_21), (3, .int r61_19), (2, .int v2_15), (1, .ref (a.1 0)), (0, .ref b)] → W p l e room_1 s m #[Value.ref b] below meth c H locs 600000 7302250 (lw_Z below #[Value.ref b] s) (F0 m 658 ls [.int t_118, .int r598_114]) := by
                                          intro t_118 ws H locs ls h hAW hP hD hS hl
                                          unfold PL_law_J9 at h
                                          refine lv_icmp_eq (tgt := 663) hx hb dL_law_658 (by decide) (fun c_658_118 => ?_) (fun c_658_118 => ?_)
                                          · replace h := h.1 c_658_118
                                            exact tail_8  ws H locs ls h hAW hP hD hS (lv_sub hl [0, 1, 2, 3, 4, 5, 6, 7, 8, 9, 10, 11] rfl)
                                          · replace h := h.2 c_658_118
                                            refine lv_iconst (v := (0 : Int32)) hx hb dL_law_661 (by decide) ?_
                                            exact h.elim
                                        refine lv_icmp_ne (tgt := 646) hx hb dL_law_638 (by decide) (fun c_638_119 => ?_) (fun c_638_119 => ?_)
                                        · replace h := h.1 c_638_119
                                          refine lv_aload_n hx hb dL_law_646 rfl (lv_at hl 10 rfl) ?_
                                          refine lv_iload hx hb dL_law_647 (lv_at hl 4 rfl) ?_
                                          refine lv_iconst (v := (0 : Int32)) hx hb dL_law_649 (by decide) ?_
                                          obtain ⟨fs9, heA⟩ := hAW.recv
                                          refine vp_callSi (W.runV (As := [.int t_24, .int (0 : Int32)]) (rest := [.int r598_114]) ⟨hx, hb, hml, hown, hts⟩ (a_picture l g a V_109 ws hAW t_24 (0 : Int32) _ h) (cwV 2 hts gL_law_X4_picture rfl rfl rfl hdX4_picture ⟨(Nat.le_of_ble_eq_true rfl), (Nat.le_of_ble_eq_true rfl)⟩) (preV_R (r := (RX4, TX4, 9)) hK hP (ci := 4) (q0 := 0) rfl heA) rfl rfl hl.1 rfl (lv_room (Nat.le_of_ble_eq_true rfl)) dL_law_650 ⟨(Nat.le_of_ble_eq_true rfl), (Nat.le_of_ble_eq_true rfl)⟩) (fun r650_121 h => ?_)
                                          clear heA fs9
                                          refine lv_iconst (v := (1 : Int32)) hx hb dL_law_653 (by decide) ?_
                                          refine lv_isub hx hb dL_law_654 ?_
                                          refine lv_iload hx hb dL_law_655 (lv_at hl 2 rfl) ?_
                                          refine lv_isub hx hb dL_law_657 ?_
                                          exact tail_9 ((r650_121 - (1 : Int32)) - r545_106) ws H locs ls h hAW hP hD hS (lv_sub hl [0, 1, 2, 3, 4, 5, 6, 7, 8, 9, 10, 11] rfl)
                                        · replace h := h.2 c_638_119
                                          refine lv_iload hx hb dL_law_641 (lv_at hl 2 rfl) ?_
                                          refine lv_goto (tgt := 658) hx hb dL_law_643 (by decide) ?_
                                          exact tail_9 r545_106 ws H locs ls h hAW hP hD hS (lv_sub hl [0, 1, 2, 3, 4, 5, 6, 7, 8, 9, 10, 11] rfl)
                                      · replace h := h.2 c_619_116
                                        refine lv_iload hx hb dL_law_622 (lv_at hl 0 rfl) ?_
                                        refine lv_bipush (v := (-109 : Int32)) hx hb dL_law_624 (by decide) ?_
                                        refine lv_icmp_eq (tgt := 663) hx hb dL_law_626 (by decide) (fun c_626_121 => ?_) (fun c_626_121 => ?_)
                                        · replace h := h.1 c_626_121
                                          exact tail_8  ws H locs ls h hAW hP hD hS (lv_sub hl [0, 1, 2, 3, 4, 5, 6, 7, 8, 9, 10, 11] rfl)
                                        · replace h := h.2 c_626_121
                                          refine lv_goto (tgt := 661) hx hb dL_law_629 (by decide) ?_
                                          refine lv_iconst (v := (0 : Int32)) hx hb dL_law_661 (by decide) ?_
                                          exact h.elim
                                · replace h := h.2 c_580_111
                                  refine lv_iconst (v := (0 : Int32)) hx hb dL_law_583 (by decide) ?_
                                  exact h.elim
                          · replace h := h.2 c_403_59
                            refine lv_aload_n hx hb dL_law_406 rfl (lv_at hl 6 rfl) ?_
                            refine lv_iload hx hb dL_law_407 (lv_at hl 0 rfl) ?_
                            refine lv_iconst (v := (1 : Int32)) hx hb dL_law_409 (by decide) ?_
                            obtain ⟨fs9, heA⟩ := hAW.recv
                            refine vp_callSi (W.runV (As := [.int t_24, .int (1 : Int32)]) (rest := []) ⟨hx, hb, hml, hown, hts⟩ (a_picture l g a V_16 ws hAW t_24 (1 : Int32) _ h) (cwV 2 hts gL_law_X4_picture rfl rfl rfl hdX4_picture ⟨(Nat.le_of_ble_eq_true rfl), (Nat.le_of_ble_eq_true rfl)⟩) (preV_R (r := (RX4, TX4, 9)) hK hP (ci := 4) (q0 := 0) rfl heA) rfl rfl hl.1 rfl (lv_room (Nat.le_of_ble_eq_true rfl)) dL_law_410 ⟨(Nat.le_of_ble_eq_true rfl), (Nat.le_of_ble_eq_true rfl)⟩) (fun r410_123 h => ?_)
                            clear heA fs9
                            refine lv_istore (lv' := [(8, .int r410_123), (7, .int t_24), (6, .int t_23), (5, .int r78_22), (4, .int r71_21), (3, .int r61_19), (2, .int v2_15), (1, .ref (a.1 0)), (0, .ref b)]) hx hb dL_law_413 hl (by decide) rfl (fun ls hl => ?_)
                            refine lv_aload_n hx hb dL_law_415 rfl (lv_at hl 7 rfl) ?_
                            refine lv_iload hx hb dL_law_416 (lv_at hl 1 rfl) ?_
                            refine lv_iconst (v := (0 : Int32)) hx hb dL_law_418 (by decide) ?_
                            obtain ⟨fs9, heA⟩ := hAW.recv
                            refine vp_callSi (W.runV (As := [.int t_24, .int (0 : Int32)]) (rest := []) ⟨hx, hb, hml, hown, hts⟩ (a_picture l g a V_16 ws hAW t_24 (0 : Int32) _ h) (cwV 2 hts gL_law_X4_picture rfl rfl rfl hdX4_picture ⟨(Nat.le_of_ble_eq_true rfl), (Nat.le_of_ble_eq_true rfl)⟩) (preV_R (r := (RX4, TX4, 9)) hK hP (ci := 4) (q0 := 0) rfl heA) rfl rfl hl.1 rfl (lv_room (Nat.le_of_ble_eq_true rfl)) dL_law_419 ⟨(Nat.le_of_ble_eq_true rfl), (Nat.le_of_ble_eq_true rfl)⟩) (fun r419_124 h => ?_)
                            clear heA fs9
                            refine lv_iconst (v := (1 : Int32)) hx hb dL_law_422 (by decide) ?_
                            refine lv_iload hx hb dL_law_423 (lv_at hl 4 rfl) ?_
                            refine lv_bipush (v := (10 : Int32)) hx hb dL_law_425 (by decide) ?_
                            refine lv_ishr hx hb dL_law_427 ?_
                            refine lv_bipush (v := (18 : Int32)) hx hb dL_law_428 (by decide) ?_
                            refine vp_callSi (W.runS (As := [.int (r71_21 >>> ((10 : Int32) &&& 31)), .int (18 : Int32)]) (rest := [.int (1 : Int32), .int r419_124]) ⟨hx, hb, hml, hown, hts⟩ (kL_low l g  (r71_21 >>> ((10 : Int32) &&& 31)) (18 : Int32) _ h) (va_cwS 2 hts gL_law_L_low rfl rfl rfl hdL_low.2 ⟨(Nat.le_of_ble_eq_true rfl), (Nat.le_of_ble_eq_true rfl)⟩) (preS_R hK (va_P_nil (D := g.1) (cl := vwCl))) rfl rfl hl.1 rfl (lv_room (Nat.le_of_ble_eq_true rfl)) dL_law_430 ⟨(Nat.le_of_ble_eq_true rfl), (Nat.le_of_ble_eq_true rfl)⟩) (fun r430_125 h => ?_)
                            refine lv_iadd hx hb dL_law_433 ?_
                            refine lv_imul hx hb dL_law_434 ?_
                            refine lv_topi (fun v9_126 e_v9_126 => ?_)
                            replace h := h v9_126 e_v9_126
                            refine lv_istore (lv' := [(9, .int v9_126), (8, .int r410_123), (7, .int t_24), (6, .int t_23), (5, .int r78_22), (4, .int r71_21), (3, .int r61_19), (2, .int v2_15), (1, .ref (a.1 0)), (0, .ref b)]) hx hb dL_law_435 hl (by decide) rfl (fun ls hl => ?_)
                            refine lv_aload_n hx hb dL_law_437 rfl (lv_at hl 8 rfl) ?_
                            refine lv_iload hx hb dL_law_438 (lv_at hl 2 rfl) ?_
                            refine lv_iload hx hb dL_law_440 (lv_at hl 5 rfl) ?_
                            refine lv_sipush (v := (720 : Int32)) hx hb dL_law_442 (by decide) ?_
                            refine vp_callSi (W.runS (As := [.int r71_21, .int (720 : Int32)]) (rest := [.int t_24, .ref (a.1 0)]) ⟨hx, hb, hml, hown, hts⟩ (kL_low l g  r71_21 (720 : Int32) _ h) (va_cwS 2 hts gL_law_L_low rfl rfl rfl hdL_low.2 ⟨(Nat.le_of_ble_eq_true rfl), (Nat.le_of_ble_eq_true rfl)⟩) (preS_R hK (va_P_nil (D := g.1) (cl := vwCl))) rfl rfl hl.1 rfl (lv_room (Nat.le_of_ble_eq_true rfl)) dL_law_445 ⟨(Nat.le_of_ble_eq_true rfl), (Nat.le_of_ble_eq_true rfl)⟩) (fun r445_127 h => ?_)
                            refine lv_iconst (v := (1 : Int32)) hx hb dL_law_448 (by decide) ?_
                            refine lv_iload hx hb dL_law_449 (lv_at hl 5 rfl) ?_
                            refine lv_bipush (v := (10 : Int32)) hx hb dL_law_451 (by decide) ?_
                            refine lv_ishr hx hb dL_law_453 ?_
                            refine lv_bipush (v := (18 : Int32)) hx hb dL_law_454 (by decide) ?_
                            refine vp_callSi (W.runS (As := [.int (r71_21 >>> ((10 : Int32) &&& 31)), .int (18 : Int32)]) (rest := [.int (1 : Int32), .int r445_127, .int t_24, .ref (a.1 0)]) ⟨hx, hb, hml, hown, hts⟩ (kL_low l g  (r71_21 >>> ((10 : Int32) &&& 31)) (18 : Int32) _ h) (va_cwS 2 hts gL_law_L_low rfl rfl rfl hdL_low.2 ⟨(Nat.le_of_ble_eq_true rfl), (Nat.le_of_ble_eq_true rfl)⟩) (preS_R hK (va_P_nil (D := g.1) (cl := vwCl))) rfl rfl hl.1 rfl (lv_room (Nat.le_of_ble_eq_true rfl)) dL_law_456 ⟨(Nat.le_of_ble_eq_true rfl), (Nat.le_of_ble_eq_true rfl)⟩) (fun r456_128 h => ?_)
                            refine lv_iadd hx hb dL_law_459 ?_
                            obtain ⟨fs9, heA⟩ := hAW.recv
                            refine vl_calli (V := V_16) (va_runV (As := [.int t_24, .int r445_127, .int ((1 : Int32) + r456_128)]) (rest := []) ⟨hx, hb, hml, hown, hts⟩ (a_setPlace l g a V_16 ws H.size hAW t_24 r445_127 ((1 : Int32) + r456_128) _ h) (cwV 3 hts gL_law_X4_setPlace rfl rfl rfl hdX4_setPlace ⟨(Nat.le_of_ble_eq_true rfl), (Nat.le_of_ble_eq_true rfl)⟩) (preV_M (r := (RX4, TX4, 9)) hK hP hD (ci := 4) (q0 := 0) rfl heA) rfl rfl hl.1 rfl (lv_room (Nat.le_of_ble_eq_true rfl)) dL_law_460 ⟨(Nat.le_of_ble_eq_true rfl), (Nat.le_of_ble_eq_true rfl)⟩) hS (va_freeA hD hS hA) ?_
                            clear heA fs9
                            clear h hAW hP hD hS
                            clear ws H locs
                            intro r460_129 V_130 ws H locs hAW hP hD hS h
                            refine lv_iload hx hb dL_law_463 (lv_at hl 1 rfl) ?_
                            refine lv_icmp_ne (tgt := 512) hx hb dL_law_465 (by decide) (fun c_465_130 => ?_) (fun c_465_130 => ?_)
                            · replace h := h.1 c_465_130
                              refine lv_iconst (v := (0 : Int32)) hx hb dL_law_512 (by decide) ?_
                              exact h.elim
                            · replace h := h.2 c_465_130
                              refine lv_aload_n hx hb dL_law_468 rfl (lv_at hl 8 rfl) ?_
                              refine lv_iload hx hb dL_law_469 (lv_at hl 2 rfl) ?_
                              refine lv_iconst (v := (1 : Int32)) hx hb dL_law_471 (by decide) ?_
                              obtain ⟨fs9, heA⟩ := hAW.recv
                              refine vp_callSi (W.runV (As := [.int t_24, .int (1 : Int32)]) (rest := []) ⟨hx, hb, hml, hown, hts⟩ (a_picture l g a V_130 ws hAW t_24 (1 : Int32) _ h) (cwV 2 hts gL_law_X4_picture rfl rfl rfl hdX4_picture ⟨(Nat.le_of_ble_eq_true rfl), (Nat.le_of_ble_eq_true rfl)⟩) (preV_R (r := (RX4, TX4, 9)) hK hP (ci := 4) (q0 := 0) rfl heA) rfl rfl hl.1 rfl (lv_room (Nat.le_of_ble_eq_true rfl)) dL_law_472 ⟨(Nat.le_of_ble_eq_true rfl), (Nat.le_of_ble_eq_true rfl)⟩) (fun r472_132 h => ?_)
                              clear heA fs9
                              refine lv_iload hx hb dL_law_475 (lv_at hl 5 rfl) ?_
                              refine lv_sipush (v := (720 : Int32)) hx hb dL_law_477 (by decide) ?_
                              refine vp_callSi (W.runS (As := [.int r71_21, .int (720 : Int32)]) (rest := [.int r472_132]) ⟨hx, hb, hml, hown, hts⟩ (kL_low l g  r71_21 (720 : Int32) _ h) (va_cwS 2 hts gL_law_L_low rfl rfl rfl hdL_low.2 ⟨(Nat.le_of_ble_eq_true rfl), (Nat.le_of_ble_eq_true rfl)⟩) (preS_R hK (va_P_nil (D := g.1) (cl := vwCl))) rfl rfl hl.1 rfl (lv_room (Nat.le_of_ble_eq_true rfl)) dL_law_480 ⟨(Nat.le_of_ble_eq_true rfl), (Nat.le_of_ble_eq_true rfl)⟩) (fun r480_133 h => ?_)
                              refine lv_icmp_ne (tgt := 512) hx hb dL_law_483 (by decide) (fun c_483_133 => ?_) (fun c_483_133 => ?_)
                              · replace h := h.1 c_483_133
                                refine lv_iconst (v := (0 : Int32)) hx hb dL_law_512 (by decide) ?_
                                exact h.elim
                              · replace h := h.2 c_483_133
                                refine lv_aload_n hx hb dL_law_486 rfl (lv_at hl 8 rfl) ?_
                                refine lv_iload hx hb dL_law_487 (lv_at hl 2 rfl) ?_
                                refine lv_iconst (v := (5 : Int32)) hx hb dL_law_489 (by decide) ?_
                                obtain ⟨fs9, heA⟩ := hAW.recv
                                refine vp_callSi (W.runV (As := [.int t_24, .int (5 : Int32)]) (rest := []) ⟨hx, hb, hml, hown, hts⟩ (a_picture l g a V_130 ws hAW t_24 (5 : Int32) _ h) (cwV 2 hts gL_law_X4_picture rfl rfl rfl hdX4_picture ⟨(Nat.le_of_ble_eq_true rfl), (Nat.le_of_ble_eq_true rfl)⟩) (preV_R (r := (RX4, TX4, 9)) hK hP (ci := 4) (q0 := 0) rfl heA) rfl rfl hl.1 rfl (lv_room (Nat.le_of_ble_eq_true rfl)) dL_law_490 ⟨(Nat.le_of_ble_eq_true rfl), (Nat.le_of_ble_eq_true rfl)⟩) (fun r490_135 h => ?_)
                                clear heA fs9
                                refine lv_iload hx hb dL_law_493 (lv_at hl 0 rfl) ?_
                                refine lv_sipush (v := (720 : Int32)) hx hb dL_law_495 (by decide) ?_
                                have tail_10 : ∀ (t_136 : Int32) (ws : va_W) (H : Heap) (locs : List Loc) (ls : Array Slot), PL_law_J10 (PL_law_J4 (PL_law_L1  kx_1 n_1) v2_15 r71_21) V_130 r490_135 t_136 → AW g a V_130 ws → va_P g.1 vwCl ws H → va_D (fun q : Nat => s.heap.size ≤ q) ws → va_S (fun q : Nat => s.heap.size ≤ q) s.heap H locs → lv_has ls 13 [(9, .int v9_126), (8, .int r410_123), (7, .int t_24), (6, .int t_23), (5, .int r78_22), (4, .int r71_21), (3, .int r61_19), (2, .int v2_15), (1, .ref (a.1 0)), (0, .ref b)] → W p l e room_1 s m #[Value.ref b] below meth c H locs 600000 7302250 (lw_Z below #[Value.ref b] s) (F0 m 509 ls [.int t_136, .int r490_135]) := by
                                  intro t_136 ws H locs ls h hAW hP hD hS hl
                                  unfold PL_law_J10 at h
                                  refine lv_icmp_eq (tgt := 514) hx hb dL_law_509 (by decide) (fun c_509_136 => ?_) (fun c_509_136 => ?_)
                                  · replace h := h.1 c_509_136
                                    refine lv_goto (tgt := 953) hx hb dL_law_514 (by decide) ?_
                                    exact tail_4 V_130 ws H locs ls h hAW hP hD hS (lv_sub hl [2, 3, 4, 5, 6, 7, 8, 9] rfl)
                                  · replace h := h.2 c_509_136
                                    refine lv_iconst (v := (0 : Int32)) hx hb dL_law_512 (by decide) ?_
                                    exact h.elim
                                refine lv_icmp_le (tgt := 507) hx hb dL_law_498 (by decide) (fun c_498_137 => ?_) (fun c_498_137 => ?_)
                                · replace h := h.1 c_498_137
                                  refine lv_iload hx hb dL_law_507 (lv_at hl 0 rfl) ?_
                                  exact tail_10 v9_126 ws H locs ls h hAW hP hD hS (lv_sub hl [0, 1, 2, 3, 4, 5, 6, 7, 8, 9] rfl)
                                · replace h := h.2 c_498_137
                                  refine lv_sipush (v := (720 : Int32)) hx hb dL_law_501 (by decide) ?_
                                  refine lv_goto (tgt := 509) hx hb dL_law_504 (by decide) ?_
                                  exact tail_10 (720 : Int32) ws H locs ls h hAW hP hD hS (lv_sub hl [0, 1, 2, 3, 4, 5, 6, 7, 8, 9] rfl)
                        · replace h := h.2 c_233_58
                          refine lv_iload hx hb dL_law_236 (lv_at hl 3 rfl) ?_
                          refine lv_aload_n hx hb dL_law_238 rfl (lv_at hl 6 rfl) ?_
                          refine lv_iload hx hb dL_law_239 (lv_at hl 0 rfl) ?_
                          refine lv_iconst (v := (0 : Int32)) hx hb dL_law_241 (by decide) ?_
                          obtain ⟨fs9, heA⟩ := hAW.recv
                          refine vp_callSi (W.runV (As := [.int t_24, .int (0 : Int32)]) (rest := [.int r71_21]) ⟨hx, hb, hml, hown, hts⟩ (a_picture l g a V_16 ws hAW t_24 (0 : Int32) _ h) (cwV 2 hts gL_law_X4_picture rfl rfl rfl hdX4_picture ⟨(Nat.le_of_ble_eq_true rfl), (Nat.le_of_ble_eq_true rfl)⟩) (preV_R (r := (RX4, TX4, 9)) hK hP (ci := 4) (q0 := 0) rfl heA) rfl rfl hl.1 rfl (lv_room (Nat.le_of_ble_eq_true rfl)) dL_law_242 ⟨(Nat.le_of_ble_eq_true rfl), (Nat.le_of_ble_eq_true rfl)⟩) (fun r242_139 h => ?_)
                          clear heA fs9
                          refine vp_callSi (W.runS (As := [.int r71_21, .int r242_139]) (rest := []) ⟨hx, hb, hml, hown, hts⟩ (kL_low l g  r71_21 r242_139 _ h) (va_cwS 2 hts gL_law_L_low rfl rfl rfl hdL_low.2 ⟨(Nat.le_of_ble_eq_true rfl), (Nat.le_of_ble_eq_true rfl)⟩) (preS_R hK (va_P_nil (D := g.1) (cl := vwCl))) rfl rfl hl.1 rfl (lv_room (Nat.le_of_ble_eq_true rfl)) dL_law_245 ⟨(Nat.le_of_ble_eq_true rfl), (Nat.le_of_ble_eq_true rfl)⟩) (fun r245_140 h => ?_)
                          refine lv_istore (lv' := [(8, .int r245_140), (7, .int t_24), (6, .int t_23), (5, .int r78_22), (4, .int r71_21), (3, .int r61_19), (2, .int v2_15), (1, .ref (a.1 0)), (0, .ref b)]) hx hb dL_law_248 hl (by decide) rfl (fun ls hl => ?_)
                          refine lv_iload hx hb dL_law_250 (lv_at hl 4 rfl) ?_
                          refine lv_bipush (v := (6 : Int32)) hx hb dL_law_252 (by decide) ?_
                          refine lv_ishr hx hb dL_law_254 ?_
                          refine lv_bipush (v := (12 : Int32)) hx hb dL_law_255 (by decide) ?_
                          refine vp_callSi (W.runS (As := [.int (r71_21 >>> ((6 : Int32) &&& 31)), .int (12 : Int32)]) (rest := []) ⟨hx, hb, hml, hown, hts⟩ (kL_low l g  (r71_21 >>> ((6 : Int32) &&& 31)) (12 : Int32) _ h) (va_cwS 2 hts gL_law_L_low rfl rfl rfl hdL_low.2 ⟨(Nat.le_of_ble_eq_true rfl), (Nat.le_of_ble_eq_true rfl)⟩) (preS_R hK (va_P_nil (D := g.1) (cl := vwCl))) rfl rfl hl.1 rfl (lv_room (Nat.le_of_ble_eq_true rfl)) dL_law_257 ⟨(Nat.le_of_ble_eq_true rfl), (Nat.le_of_ble_eq_true rfl)⟩) (fun r257_141 h => ?_)
                          refine lv_istore (lv' := [(9, .int r257_141), (8, .int r245_140), (7, .int t_24), (6, .int t_23), (5, .int r78_22), (4, .int r71_21), (3, .int r61_19), (2, .int v2_15), (1, .ref (a.1 0)), (0, .ref b)]) hx hb dL_law_260 hl (by decide) rfl (fun ls hl => ?_)
                          refine lv_iload hx hb dL_law_262 (lv_at hl 5 rfl) ?_
                          refine lv_bipush (v := (10 : Int32)) hx hb dL_law_264 (by decide) ?_
                          refine lv_ishr hx hb dL_law_266 ?_
                          refine lv_bipush (v := (8 : Int32)) hx hb dL_law_267 (by decide) ?_
                          refine vp_callSi (W.runS (As := [.int (r71_21 >>> ((10 : Int32) &&& 31)), .int (8 : Int32)]) (rest := []) ⟨hx, hb, hml, hown, hts⟩ (kL_low l g  (r71_21 >>> ((10 : Int32) &&& 31)) (8 : Int32) _ h) (va_cwS 2 hts gL_law_L_low rfl rfl rfl hdL_low.2 ⟨(Nat.le_of_ble_eq_true rfl), (Nat.le_of_ble_eq_true rfl)⟩) (preS_R hK (va_P_nil (D := g.1) (cl := vwCl))) rfl rfl hl.1 rfl (lv_room (Nat.le_of_ble_eq_true rfl)) dL_law_269 ⟨(Nat.le_of_ble_eq_true rfl), (Nat.le_of_ble_eq_true rfl)⟩) (fun r269_142 h => ?_)
                          refine lv_istore (lv' := [(10, .int r269_142), (9, .int r257_141), (8, .int r245_140), (7, .int t_24), (6, .int t_23), (5, .int r78_22), (4, .int r71_21), (3, .int r61_19), (2, .int v2_15), (1, .ref (a.1 0)), (0, .ref b)]) hx hb dL_law_272 hl (by decide) rfl (fun ls hl => ?_)
                          refine lv_aload_n hx hb dL_law_274 rfl (lv_at hl 9 rfl) ?_
                          refine lv_iload hx hb dL_law_275 (lv_at hl 3 rfl) ?_
                          refine lv_iload hx hb dL_law_277 (lv_at hl 2 rfl) ?_
                          refine lv_iload hx hb dL_law_279 (lv_at hl 1 rfl) ?_
                          obtain ⟨fs9, heA⟩ := hAW.recv
                          refine vp_callSi (W.runV (As := [.int t_24, .int r245_140, .int r257_141]) (rest := []) ⟨hx, hb, hml, hown, hts⟩ (a_color l g a V_16 ws hAW t_24 r245_140 r257_141 _ h) (cwV 3 hts gL_law_X4_color rfl rfl rfl hdX4_color ⟨(Nat.le_of_ble_eq_true rfl), (Nat.le_of_ble_eq_true rfl)⟩) (preV_R (r := (RX4, TX4, 9)) hK hP (ci := 4) (q0 := 0) rfl heA) rfl rfl hl.1 rfl (lv_room (Nat.le_of_ble_eq_true rfl)) dL_law_281 ⟨(Nat.le_of_ble_eq_true rfl), (Nat.le_of_ble_eq_true rfl)⟩) (fun r281_143 h => ?_)
                          clear heA fs9
                          refine lv_istore (lv' := [(11, .int r281_143), (10, .int r269_142), (9, .int r257_141), (8, .int r245_140), (7, .int t_24), (6, .int t_23), (5, .int r78_22), (4, .int r71_21), (3, .int r61_19), (2, .int v2_15), (1, .ref (a.1 0)), (0, .ref b)]) hx hb dL_law_284 hl (by decide) rfl (fun ls hl => ?_)
                          refine lv_aload_n hx hb dL_law_286 rfl (lv_at hl 10 rfl) ?_
                          refine lv_iload hx hb dL_law_287 (lv_at hl 4 rfl) ?_
                          refine lv_iconst (v := (4 : Int32)) hx hb dL_law_289 (by decide) ?_
                          obtain ⟨fs9, heA⟩ := hAW.recv
                          refine vp_callSi (W.runV (As := [.int t_24, .int (4 : Int32)]) (rest := []) ⟨hx, hb, hml, hown, hts⟩ (a_picture l g a V_16 ws hAW t_24 (4 : Int32) _ h) (cwV 2 hts gL_law_X4_picture rfl rfl rfl hdX4_picture ⟨(Nat.le_of_ble_eq_true rfl), (Nat.le_of_ble_eq_true rfl)⟩) (preV_R (r := (RX4, TX4, 9)) hK hP (ci := 4) (q0 := 0) rfl heA) rfl rfl hl.1 rfl (lv_room (Nat.le_of_ble_eq_true rfl)) dL_law_290 ⟨(Nat.le_of_ble_eq_true rfl), (Nat.le_of_ble_eq_true rfl)⟩) (fun r290_144 h => ?_)
                          clear heA fs9
                          refine lv_istore (lv' := [(12, .int r290_144), (11, .int r281_143), (10, .int r269_142), (9, .int r257_141), (8, .int r245_140), (7, .int t_24), (6, .int t_23), (5, .int r78_22), (4, .int r71_21), (3, .int r61_19), (2, .int v2_15), (1, .ref (a.1 0)), (0, .ref b)]) hx hb dL_law_293 hl (by decide) rfl (fun ls hl => ?_)
                          refine lv_aload_n hx hb dL_law_295 rfl (lv_at hl 11 rfl) ?_
                          refine lv_iload hx hb dL_law_296 (lv_at hl 5 rfl) ?_
                          refine lv_iload hx hb dL_law_298 (lv_at hl 4 rfl) ?_
                          refine lv_iload hx hb dL_law_300 (lv_at hl 3 rfl) ?_
                          refine lv_iload hx hb dL_law_302 (lv_at hl 2 rfl) ?_
                          obtain ⟨fs9, heA⟩ := hAW.recv
                          refine vl_calli (V := V_16) (va_runV (As := [.int t_24, .int r245_140, .int r257_141, .int r269_142]) (rest := []) ⟨hx, hb, hml, hown, hts⟩ (a_paint l g a V_16 ws H.size hAW t_24 r245_140 r257_141 r269_142 _ h) (cwV 4 hts gL_law_X4_paint rfl rfl rfl hdX4_paint ⟨(Nat.le_of_ble_eq_true rfl), (Nat.le_of_ble_eq_true rfl)⟩) (preV_M (r := (RX4, TX4, 9)) hK hP hD (ci := 4) (q0 := 0) rfl heA) rfl rfl hl.1 rfl (lv_room (Nat.le_of_ble_eq_true rfl)) dL_law_304 ⟨(Nat.le_of_ble_eq_true rfl), (Nat.le_of_ble_eq_true rfl)⟩) hS (va_freeA hD hS hA) ?_
                          clear heA fs9
                          clear h hAW hP hD hS
                          clear ws H locs
                          intro r304_145 V_146 ws H locs hAW hP hD hS h
                          refine lv_iload hx hb dL_law_307 (lv_at hl 1 rfl) ?_
                          refine lv_icmp_ne (tgt := 395) hx hb dL_law_309 (by decide) (fun c_309_146 => ?_) (fun c_309_146 => ?_)
                          · replace h := h.1 c_309_146
                            refine lv_iconst (v := (0 : Int32)) hx hb dL_law_395 (by decide) ?_
                            exact h.elim
                          · replace h := h.2 c_309_146
                            refine lv_aload_n hx hb dL_law_312 rfl (lv_at hl 11 rfl) ?_
                            refine lv_iload hx hb dL_law_313 (lv_at hl 5 rfl) ?_
                            refine lv_iload hx hb dL_law_315 (lv_at hl 4 rfl) ?_
                            refine lv_iload hx hb dL_law_317 (lv_at hl 3 rfl) ?_
                            obtain ⟨fs9, heA⟩ := hAW.recv
                            refine vp_callSi (W.runV (As := [.int t_24, .int r245_140, .int r257_141]) (rest := []) ⟨hx, hb, hml, hown, hts⟩ (a_color l g a V_146 ws hAW t_24 r245_140 r257_141 _ h) (cwV 3 hts gL_law_X4_color rfl rfl rfl hdX4_color ⟨(Nat.le_of_ble_eq_true rfl), (Nat.le_of_ble_eq_true rfl)⟩) (preV_R (r := (RX4, TX4, 9)) hK hP (ci := 4) (q0 := 0) rfl heA) rfl rfl hl.1 rfl (lv_room (Nat.le_of_ble_eq_true rfl)) dL_law_319 ⟨(Nat.le_of_ble_eq_true rfl), (Nat.le_of_ble_eq_true rfl)⟩) (fun r319_148 h => ?_)
                            clear heA fs9
                            refine lv_iload hx hb dL_law_322 (lv_at hl 2 rfl) ?_
                            refine lv_icmp_ne (tgt := 395) hx hb dL_law_324 (by decide) (fun c_324_148 => ?_) (fun c_324_148 => ?_)
                            · replace h := h.1 c_324_148
                              refine lv_iconst (v := (0 : Int32)) hx hb dL_law_395 (by decide) ?_
                              exact h.elim
                            · replace h := h.2 c_324_148
                              refine lv_aload_n hx hb dL_law_327 rfl (lv_at hl 11 rfl) ?_
                              refine lv_iload hx hb dL_law_328 (lv_at hl 5 rfl) ?_
                              refine lv_iconst (v := (4 : Int32)) hx hb dL_law_330 (by decide) ?_
                              obtain ⟨fs9, heA⟩ := hAW.recv
                              refine vp_callSi (W.runV (As := [.int t_24, .int (4 : Int32)]) (rest := []) ⟨hx, hb, hml, hown, hts⟩ (a_picture l g a V_146 ws hAW t_24 (4 : Int32) _ h) (cwV 2 hts gL_law_X4_picture rfl rfl rfl hdX4_picture ⟨(Nat.le_of_ble_eq_true rfl), (Nat.le_of_ble_eq_true rfl)⟩) (preV_R (r := (RX4, TX4, 9)) hK hP (ci := 4) (q0 := 0) rfl heA) rfl rfl hl.1 rfl (lv_room (Nat.le_of_ble_eq_true rfl)) dL_law_331 ⟨(Nat.le_of_ble_eq_true rfl), (Nat.le_of_ble_eq_true rfl)⟩) (fun r331_150 h => ?_)
                              clear heA fs9
                              refine lv_iload hx hb dL_law_334 (lv_at hl 0 rfl) ?_
                              refine lv_iload hx hb dL_law_336 (lv_at hl 1 rfl) ?_
                              have tail_11 : ∀ (t_151 : Int32) (ws : va_W) (H : Heap) (locs : List Loc) (ls : Array Slot), PL_law_J11 r71_21 t_24 (PL_law_J4 (PL_law_L1  kx_1 n_1) v2_15 r71_21) r245_140 r257_141 r269_142 r281_143 r290_144 V_146 r331_150 t_151 → AW g a V_146 ws → va_P g.1 vwCl ws H → va_D (fun q : Nat => s.heap.size ≤ q) ws → va_S (fun q : Nat => s.heap.size ≤ q) s.heap H locs → lv_has ls 13 [(12, .int r290_144), (11, .int r281_143), (10, .int r269_142), (9, .int r257_141), (8, .int r245_140), (7, .int t_24), (6, .int t_23), (5, .int r78_22), (4, .int r71_21), (3, .int r61_19), (2, .int v2_15), (1, .ref (a.1 0)), (0, .ref b)] → W p l e room_1 s m #[Value.ref b] below meth c H locs 600000 7302250 (lw_Z below #[Value.ref b] s) (F0 m 346 ls [.int t_151, .int r290_144, .int r331_150]) := by
                                intro t_151 ws H locs ls h hAW hP hD hS hl
                                unfold PL_law_J11 at h
                                refine lv_isub hx hb dL_law_346 ?_
                                refine lv_iload hx hb dL_law_347 (lv_at hl 2 rfl) ?_
                                have tail_12 : ∀ (t_152 : Int32) (ws : va_W) (H : Heap) (locs : List Loc) (ls : Array Slot), PL_law_J12 r71_21 t_24 (PL_law_J4 (PL_law_L1  kx_1 n_1) v2_15 r71_21) r245_140 r257_141 r281_143 r290_144 V_146 r331_150 t_151 t_152 → AW g a V_146 ws → va_P g.1 vwCl ws H → va_D (fun q : Nat => s.heap.size ≤ q) ws → va_S (fun q : Nat => s.heap.size ≤ q) s.heap H locs → lv_has ls 13 [(12, .int r290_144), (11, .int r281_143), (10, .int r269_142), (9, .int r257_141), (8, .int r245_140), (7, .int t_24), (6, .int t_23), (5, .int r78_22), (4, .int r71_21), (3, .int r61_19), (2, .int v2_15), (1, .ref (a.1 0)), (0, .ref b)] → W p l e room_1 s m #[Value.ref b] below meth c H locs 600000 7302250 (lw_Z below #[Value.ref b] s) (F0 m 357 ls [.int t_152, .int (r290_144 - t_151), .int r331_150]) := by
                                  intro t_152 ws H locs ls h hAW hP hD hS hl
                                  unfold PL_law_J12 at h
                                  refine lv_iadd hx hb dL_law_357 ?_
                                  refine lv_icmp_ne (tgt := 395) hx hb dL_law_358 (by decide) (fun c_358_152 => ?_) (fun c_358_152 => ?_)
                                  · replace h := h.1 c_358_152
                                    refine lv_iconst (v := (0 : Int32)) hx hb dL_law_395 (by decide) ?_
                                    exact h.elim
                                  · replace h := h.2 c_358_152
                                    refine lv_iload hx hb dL_law_361 (lv_at hl 8 rfl) ?_
                                    refine lv_bipush (v := (13 : Int32)) hx hb dL_law_363 (by decide) ?_
                                    refine lv_ishr hx hb dL_law_365 ?_
                                    refine lv_iconst (v := (4 : Int32)) hx hb dL_law_366 (by decide) ?_
                                    refine vp_callSi (W.runS (As := [.int (r71_21 >>> ((13 : Int32) &&& 31)), .int (4 : Int32)]) (rest := []) ⟨hx, hb, hml, hown, hts⟩ (kL_low l g  (r71_21 >>> ((13 : Int32) &&& 31)) (4 : Int32) _ h) (va_cwS 2 hts gL_law_L_low rfl rfl rfl hdL_low.2 ⟨(Nat.le_of_ble_eq_true rfl), (Nat.le_of_ble_eq_true rfl)⟩) (preS_R hK (va_P_nil (D := g.1) (cl := vwCl))) rfl rfl hl.1 rfl (lv_room (Nat.le_of_ble_eq_true rfl)) dL_law_367 ⟨(Nat.le_of_ble_eq_true rfl), (Nat.le_of_ble_eq_true rfl)⟩) (fun r367_154 h => ?_)
                                    have tail_13 : ∀ (V_155 : VS) (ws : va_W) (H : Heap) (locs : List Loc) (ls : Array Slot), PL_law_J13 (PL_law_J4 (PL_law_L1  kx_1 n_1) v2_15 r71_21) V_155 → AW g a V_155 ws → va_P g.1 vwCl ws H → va_D (fun q : Nat => s.heap.size ≤ q) ws → va_S (fun q : Nat => s.heap.size ≤ q) s.heap H locs → lv_has ls 13 [(12, .int r290_144), (11, .int r281_143), (10, .int r269_142), (9, .int r257_141), (8, .int r245_140), (7, .int t_24), (6, .int t_23), (5, .int r78_22), (4, .int r71_21), (3, .int r61_19), (2, .int v2_15), (1, .ref (a.1 0)), (0, .ref b)] → W p l e room_1 s m #[Value.ref b] below meth c H locs 600000 7302250 (lw_Z below #[Value.ref b] s) (F0 m 397 ls []) := by
                                      intro V_155 ws H locs ls h hAW hP hD hS hl
                                      unfold PL_law_J13 at h
                                      refine lv_goto (tgt := 953) hx hb dL_law_397 (by decide) ?_
                                      exact tail_4 V_155 ws H locs ls h hAW hP hD hS (lv_sub hl [5, 6, 7, 8, 9, 10, 11, 12] rfl)
                                    refine lv_if_ne (tgt := 397) hx hb dL_law_370 (by decide) (fun c_370_155 => ?_) (fun c_370_155 => ?_)
                                    · replace h := h.1 c_370_155
                                      exact tail_13 V_146 ws H locs ls h hAW hP hD hS (lv_sub hl [0, 1, 2, 3, 4, 5, 6, 7, 8, 9, 10, 11, 12] rfl)
                                    · replace h := h.2 c_370_155
                                      refine lv_aload_n hx hb dL_law_373 rfl (lv_at hl 11 rfl) ?_
                                      obtain ⟨fs9, heA⟩ := hAW.recv
                                      refine vl_calli (V := V_146) (va_runV (As := []) (rest := []) ⟨hx, hb, hml, hown, hts⟩ (a_undo l g a V_146 ws H.size hAW  _ h) (cwV 0 hts gL_law_X4_undo rfl rfl rfl hdX4_undo ⟨(Nat.le_of_ble_eq_true rfl), (Nat.le_of_ble_eq_true rfl)⟩) (preV_M (r := (RX4, TX4, 9)) hK hP hD (ci := 4) (q0 := 0) rfl heA) rfl rfl hl.1 rfl (lv_room (Nat.le_of_ble_eq_true rfl)) dL_law_374 ⟨(Nat.le_of_ble_eq_true rfl), (Nat.le_of_ble_eq_true rfl)⟩) hS (va_freeA hD hS hA) ?_
                                      clear heA fs9
                                      clear h hAW hP hD hS
                                      clear ws H locs
                                      intro r374_157 V_158 ws H locs hAW hP hD hS h
                                      refine lv_if_lt (tgt := 395) hx hb dL_law_377 (by decide) (fun c_377_158 => ?_) (fun c_377_158 => ?_)
                                      · replace h := h.1 c_377_158
                                        refine lv_iconst (v := (0 : Int32)) hx hb dL_law_395 (by decide) ?_
                                        exact h.elim
                                      · replace h := h.2 c_377_158
                                        refine lv_aload_n hx hb dL_law_380 rfl (lv_at hl 11 rfl) ?_
                                        refine lv_iload hx hb dL_law_381 (lv_at hl 5 rfl) ?_
                                        refine lv_iload hx hb dL_law_383 (lv_at hl 4 rfl) ?_
                                        refine lv_iload hx hb dL_law_385 (lv_at hl 3 rfl) ?_
                                        obtain ⟨fs9, heA⟩ := hAW.recv
                                        refine vp_callSi (W.runV (As := [.int t_24, .int r245_140, .int r257_141]) (rest := []) ⟨hx, hb, hml, hown, hts⟩ (a_color l g a V_158 ws hAW t_24 r245_140 r257_141 _ h) (cwV 3 hts gL_law_X4_color rfl rfl rfl hdX4_color ⟨(Nat.le_of_ble_eq_true rfl), (Nat.le_of_ble_eq_true rfl)⟩) (preV_R (r := (RX4, TX4, 9)) hK hP (ci := 4) (q0 := 0) rfl heA) rfl rfl hl.1 rfl (lv_room (Nat.le_of_ble_eq_true rfl)) dL_law_387 ⟨(Nat.le_of_ble_eq_true rfl), (Nat.le_of_ble_eq_true rfl)⟩) (fun r387_160 h => ?_)
                                        clear heA fs9
                                        refine lv_iload hx hb dL_law_390 (lv_at hl 1 rfl) ?_
                                        refine lv_icmp_eq (tgt := 397) hx hb dL_law_392 (by decide) (fun c_392_160 => ?_) (fun c_392_160 => ?_)
                                        · replace h := h.1 c_392_160
                                          exact tail_13 V_158 ws H locs ls h hAW hP hD hS (lv_sub hl [0, 1, 2, 3, 4, 5, 6, 7, 8, 9, 10, 11, 12] rfl)
                                        · replace h := h.2 c_392_160
                                          refine lv_iconst (v := (0 : Int32)) hx hb dL_law_395 (by decide) ?_
                                          exact h.elim
                                refine lv_if_le (tgt := 356) hx hb dL_law_349 (by decide) (fun c_349_161 => ?_) (fun c_349_161 => ?_)
                                · replace h := h.1 c_349_161
                                  refine lv_iconst (v := (0 : Int32)) hx hb dL_law_356 (by decide) ?_
                                  exact tail_12 (0 : Int32) ws H locs ls h hAW hP hD hS (lv_sub hl [0, 1, 2, 3, 4, 5, 6, 7, 8, 9, 10, 11, 12] rfl)
                                · replace h := h.2 c_349_161
                                  refine lv_iconst (v := (1 : Int32)) hx hb dL_law_352 (by decide) ?_
                                  refine lv_goto (tgt := 357) hx hb dL_law_353 (by decide) ?_
                                  exact tail_12 (1 : Int32) ws H locs ls h hAW hP hD hS (lv_sub hl [0, 1, 2, 3, 4, 5, 6, 7, 8, 9, 10, 11, 12] rfl)
                              refine lv_if_le (tgt := 345) hx hb dL_law_338 (by decide) (fun c_338_162 => ?_) (fun c_338_162 => ?_)
                              · replace h := h.1 c_338_162
                                refine lv_iconst (v := (0 : Int32)) hx hb dL_law_345 (by decide) ?_
                                exact tail_11 (0 : Int32) ws H locs ls h hAW hP hD hS (lv_sub hl [0, 1, 2, 3, 4, 5, 6, 7, 8, 9, 10, 11, 12] rfl)
                              · replace h := h.2 c_338_162
                                refine lv_iconst (v := (1 : Int32)) hx hb dL_law_341 (by decide) ?_
                                refine lv_goto (tgt := 346) hx hb dL_law_342 (by decide) ?_
                                exact tail_11 (1 : Int32) ws H locs ls h hAW hP hD hS (lv_sub hl [0, 1, 2, 3, 4, 5, 6, 7, 8, 9, 10, 11, 12] rfl)
                      · replace h := h.2 c_131_57
                        refine lv_iconst (v := (1 : Int32)) hx hb dL_law_134 (by decide) ?_
                        refine lv_iload hx hb dL_law_135 (lv_at hl 3 rfl) ?_
                        refine lv_bipush (v := (12 : Int32)) hx hb dL_law_137 (by decide) ?_
                        refine vp_callSi (W.runS (As := [.int r71_21, .int (12 : Int32)]) (rest := [.int (1 : Int32)]) ⟨hx, hb, hml, hown, hts⟩ (kL_low l g  r71_21 (12 : Int32) _ h) (va_cwS 2 hts gL_law_L_low rfl rfl rfl hdL_low.2 ⟨(Nat.le_of_ble_eq_true rfl), (Nat.le_of_ble_eq_true rfl)⟩) (preS_R hK (va_P_nil (D := g.1) (cl := vwCl))) rfl rfl hl.1 rfl (lv_room (Nat.le_of_ble_eq_true rfl)) dL_law_139 ⟨(Nat.le_of_ble_eq_true rfl), (Nat.le_of_ble_eq_true rfl)⟩) (fun r139_164 h => ?_)
                        refine lv_iadd hx hb dL_law_142 ?_
                        refine lv_topi (fun v8_165 e_v8_165 => ?_)
                        replace h := h v8_165 e_v8_165
                        refine lv_istore (lv' := [(8, .int v8_165), (7, .int t_24), (6, .int t_23), (5, .int r78_22), (4, .int r71_21), (3, .int r61_19), (2, .int v2_15), (1, .ref (a.1 0)), (0, .ref b)]) hx hb dL_law_143 hl (by decide) rfl (fun ls hl => ?_)
                        refine lv_aload_n hx hb dL_law_145 rfl (lv_at hl 7 rfl) ?_
                        refine lv_iload hx hb dL_law_146 (lv_at hl 0 rfl) ?_
                        obtain ⟨fs9, heA⟩ := hAW.recv
                        refine vl_calli (V := V_16) (va_runV (As := [.int v8_165]) (rest := []) ⟨hx, hb, hml, hown, hts⟩ (a_addPicture l g a V_16 ws H.size hAW v8_165 _ h) (cwV 1 hts gL_law_X4_addPicture rfl rfl rfl hdX4_addPicture ⟨(Nat.le_of_ble_eq_true rfl), (Nat.le_of_ble_eq_true rfl)⟩) (preV_M (r := (RX4, TX4, 9)) hK hP hD (ci := 4) (q0 := 0) rfl heA) rfl rfl hl.1 rfl (lv_room (Nat.le_of_ble_eq_true rfl)) dL_law_148 ⟨(Nat.le_of_ble_eq_true rfl), (Nat.le_of_ble_eq_true rfl)⟩) hS (va_freeA hD hS hA) ?_
                        clear heA fs9
                        clear h hAW hP hD hS
                        clear ws H locs
                        intro r148_166 V_167 ws H locs hAW hP hD hS h
                        refine lv_istore (lv' := [(9, .int r148_166), (8, .int v8_165), (7, .int t_24), (6, .int t_23), (5, .int r78_22), (4, .int r71_21), (3, .int r61_19), (2, .int v2_15), (1, .ref (a.1 0)), (0, .ref b)]) hx hb dL_law_151 hl (by decide) rfl (fun ls hl => ?_)
                        refine lv_iload hx hb dL_law_153 (lv_at hl 0 rfl) ?_
                        refine lv_iload hx hb dL_law_155 (lv_at hl 4 rfl) ?_
                        refine lv_iconst (v := (4 : Int32)) hx hb dL_law_157 (by decide) ?_
                        have tail_14 : ∀ (t_168 : Int32) (ws : va_W) (H : Heap) (locs : List Loc) (ls : Array Slot), PL_law_J14 (PL_law_J4 (PL_law_L1  kx_1 n_1) v2_15 r71_21) v8_165 r148_166 V_167 t_168 → AW g a V_167 ws → va_P g.1 vwCl ws H → va_D (fun q : Nat => s.heap.size ≤ q) ws → va_S (fun q : Nat => s.heap.size ≤ q) s.heap H locs → lv_has ls 13 [(9, .int r148_166), (8, .int v8_165), (7, .int t_24), (6, .int t_23), (5, .int r78_22), (4, .int r71_21), (3, .int r61_19), (2, .int v2_15), (1, .ref (a.1 0)), (0, .ref b)] → W p l e room_1 s m #[Value.ref b] below meth c H locs 600000 7302250 (lw_Z below #[Value.ref b] s) (F0 m 168 ls [.int t_168, .int r148_166]) := by
                          intro t_168 ws H locs ls h hAW hP hD hS hl
                          unfold PL_law_J14 at h
                          refine lv_icmp_ne (tgt := 225) hx hb dL_law_168 (by decide) (fun c_168_168 => ?_) (fun c_168_168 => ?_)
                          · replace h := h.1 c_168_168
                            refine lv_iconst (v := (0 : Int32)) hx hb dL_law_225 (by decide) ?_
                            exact h.elim
                          · replace h := h.2 c_168_168
                            refine lv_iload hx hb dL_law_171 (lv_at hl 0 rfl) ?_
                            have tail_15 : ∀ (ws : va_W) (H : Heap) (locs : List Loc) (ls : Array Slot), PL_law_J15 (PL_law_J4 (PL_law_L1  kx_1 n_1) v2_15 r71_21) V_167  → AW g a V_167 ws → va_P g.1 vwCl ws H → va_D (fun q : Nat => s.heap.size ≤ q) ws → va_S (fun q : Nat => s.heap.size ≤ q) s.heap H locs → lv_has ls 13 [(9, .int r148_166), (8, .int v8_165), (7, .int t_24), (6, .int t_23), (5, .int r78_22), (4, .int r71_21), (3, .int r61_19), (2, .int v2_15), (1, .ref (a.1 0)), (0, .ref b)] → W p l e room_1 s m #[Value.ref b] below meth c H locs 600000 7302250 (lw_Z below #[Value.ref b] s) (F0 m 227 ls []) := by
                              intro  ws H locs ls h hAW hP hD hS hl
                              unfold PL_law_J15 at h
                              refine lv_goto (tgt := 953) hx hb dL_law_227 (by decide) ?_
                              exact tail_4 V_167 ws H locs ls h hAW hP hD hS (lv_sub hl [2, 3, 4, 5, 6, 7, 8, 9] rfl)
                            refine lv_if_lt (tgt := 227) hx hb dL_law_173 (by decide) (fun c_173_169 => ?_) (fun c_173_169 => ?_)
                            · replace h := h.1 c_173_169
                              exact tail_15  ws H locs ls h hAW hP hD hS (lv_sub hl [0, 1, 2, 3, 4, 5, 6, 7, 8, 9] rfl)
                            · replace h := h.2 c_173_169
                              refine lv_aload_n hx hb dL_law_176 rfl (lv_at hl 8 rfl) ?_
                              refine lv_iload hx hb dL_law_177 (lv_at hl 0 rfl) ?_
                              refine lv_iconst (v := (0 : Int32)) hx hb dL_law_179 (by decide) ?_
                              obtain ⟨fs9, heA⟩ := hAW.recv
                              refine vp_callSi (W.runV (As := [.int r148_166, .int (0 : Int32)]) (rest := []) ⟨hx, hb, hml, hown, hts⟩ (a_picture l g a V_167 ws hAW r148_166 (0 : Int32) _ h) (cwV 2 hts gL_law_X4_picture rfl rfl rfl hdX4_picture ⟨(Nat.le_of_ble_eq_true rfl), (Nat.le_of_ble_eq_true rfl)⟩) (preV_R (r := (RX4, TX4, 9)) hK hP (ci := 4) (q0 := 0) rfl heA) rfl rfl hl.1 rfl (lv_room (Nat.le_of_ble_eq_true rfl)) dL_law_180 ⟨(Nat.le_of_ble_eq_true rfl), (Nat.le_of_ble_eq_true rfl)⟩) (fun r180_171 h => ?_)
                              clear heA fs9
                              refine lv_iload hx hb dL_law_183 (lv_at hl 1 rfl) ?_
                              refine lv_icmp_ne (tgt := 225) hx hb dL_law_185 (by decide) (fun c_185_171 => ?_) (fun c_185_171 => ?_)
                              · replace h := h.1 c_185_171
                                refine lv_iconst (v := (0 : Int32)) hx hb dL_law_225 (by decide) ?_
                                exact h.elim
                              · replace h := h.2 c_185_171
                                refine lv_aload_n hx hb dL_law_188 rfl (lv_at hl 8 rfl) ?_
                                refine lv_iload hx hb dL_law_189 (lv_at hl 0 rfl) ?_
                                refine lv_iconst (v := (2 : Int32)) hx hb dL_law_191 (by decide) ?_
                                obtain ⟨fs9, heA⟩ := hAW.recv
                                refine vp_callSi (W.runV (As := [.int r148_166, .int (2 : Int32)]) (rest := []) ⟨hx, hb, hml, hown, hts⟩ (a_picture l g a V_167 ws hAW r148_166 (2 : Int32) _ h) (cwV 2 hts gL_law_X4_picture rfl rfl rfl hdX4_picture ⟨(Nat.le_of_ble_eq_true rfl), (Nat.le_of_ble_eq_true rfl)⟩) (preV_R (r := (RX4, TX4, 9)) hK hP (ci := 4) (q0 := 0) rfl heA) rfl rfl hl.1 rfl (lv_room (Nat.le_of_ble_eq_true rfl)) dL_law_192 ⟨(Nat.le_of_ble_eq_true rfl), (Nat.le_of_ble_eq_true rfl)⟩) (fun r192_173 h => ?_)
                                clear heA fs9
                                refine lv_bipush (v := (6 : Int32)) hx hb dL_law_195 (by decide) ?_
                                refine lv_icmp_ne (tgt := 225) hx hb dL_law_197 (by decide) (fun c_197_173 => ?_) (fun c_197_173 => ?_)
                                · replace h := h.1 c_197_173
                                  refine lv_iconst (v := (0 : Int32)) hx hb dL_law_225 (by decide) ?_
                                  exact h.elim
                                · replace h := h.2 c_197_173
                                  refine lv_aload_n hx hb dL_law_200 rfl (lv_at hl 8 rfl) ?_
                                  refine lv_iload hx hb dL_law_201 (lv_at hl 0 rfl) ?_
                                  refine lv_iconst (v := (4 : Int32)) hx hb dL_law_203 (by decide) ?_
                                  obtain ⟨fs9, heA⟩ := hAW.recv
                                  refine vp_callSi (W.runV (As := [.int r148_166, .int (4 : Int32)]) (rest := []) ⟨hx, hb, hml, hown, hts⟩ (a_picture l g a V_167 ws hAW r148_166 (4 : Int32) _ h) (cwV 2 hts gL_law_X4_picture rfl rfl rfl hdX4_picture ⟨(Nat.le_of_ble_eq_true rfl), (Nat.le_of_ble_eq_true rfl)⟩) (preV_R (r := (RX4, TX4, 9)) hK hP (ci := 4) (q0 := 0) rfl heA) rfl rfl hl.1 rfl (lv_room (Nat.le_of_ble_eq_true rfl)) dL_law_204 ⟨(Nat.le_of_ble_eq_true rfl), (Nat.le_of_ble_eq_true rfl)⟩) (fun r204_175 h => ?_)
                                  clear heA fs9
                                  refine lv_if_ne (tgt := 225) hx hb dL_law_207 (by decide) (fun c_207_175 => ?_) (fun c_207_175 => ?_)
                                  · replace h := h.1 c_207_175
                                    refine lv_iconst (v := (0 : Int32)) hx hb dL_law_225 (by decide) ?_
                                    exact h.elim
                                  · replace h := h.2 c_207_175
                                    refine lv_aload_n hx hb dL_law_210 rfl (lv_at hl 8 rfl) ?_
                                    refine lv_iload hx hb dL_law_211 (lv_at hl 0 rfl) ?_
                                    refine lv_iconst (v := (5 : Int32)) hx hb dL_law_213 (by decide) ?_
                                    obtain ⟨fs9, heA⟩ := hAW.recv
                                    refine vp_callSi (W.runV (As := [.int r148_166, .int (5 : Int32)]) (rest := []) ⟨hx, hb, hml, hown, hts⟩ (a_picture l g a V_167 ws hAW r148_166 (5 : Int32) _ h) (cwV 2 hts gL_law_X4_picture rfl rfl rfl hdX4_picture ⟨(Nat.le_of_ble_eq_true rfl), (Nat.le_of_ble_eq_true rfl)⟩) (preV_R (r := (RX4, TX4, 9)) hK hP (ci := 4) (q0 := 0) rfl heA) rfl rfl hl.1 rfl (lv_room (Nat.le_of_ble_eq_true rfl)) dL_law_214 ⟨(Nat.le_of_ble_eq_true rfl), (Nat.le_of_ble_eq_true rfl)⟩) (fun r214_177 h => ?_)
                                    clear heA fs9
                                    refine lv_bipush (v := (6 : Int32)) hx hb dL_law_217 (by decide) ?_
                                    refine lv_iload hx hb dL_law_219 (lv_at hl 1 rfl) ?_
                                    refine lv_imul hx hb dL_law_221 ?_
                                    refine lv_icmp_eq (tgt := 227) hx hb dL_law_222 (by decide) (fun c_222_177 => ?_) (fun c_222_177 => ?_)
                                    · replace h := h.1 c_222_177
                                      exact tail_15  ws H locs ls h hAW hP hD hS (lv_sub hl [0, 1, 2, 3, 4, 5, 6, 7, 8, 9] rfl)
                                    · replace h := h.2 c_222_177
                                      refine lv_iconst (v := (0 : Int32)) hx hb dL_law_225 (by decide) ?_
                                      exact h.elim
                        refine lv_icmp_ne (tgt := 166) hx hb dL_law_158 (by decide) (fun c_158_178 => ?_) (fun c_158_178 => ?_)
                        · replace h := h.1 c_158_178
                          refine lv_iload hx hb dL_law_166 (lv_at hl 4 rfl) ?_
                          exact tail_14 r78_22 ws H locs ls h hAW hP hD hS (lv_sub hl [0, 1, 2, 3, 4, 5, 6, 7, 8, 9] rfl)
                        · replace h := h.2 c_158_178
                          refine lv_bipush (v := (-103 : Int32)) hx hb dL_law_161 (by decide) ?_
                          refine lv_goto (tgt := 168) hx hb dL_law_163 (by decide) ?_
                          exact tail_14 (-103 : Int32) ws H locs ls h hAW hP hD hS (lv_sub hl [0, 1, 2, 3, 4, 5, 6, 7, 8, 9] rfl)
                    refine lv_if_ne (tgt := 119) hx hb dL_law_112 (by decide) (fun c_112_179 => ?_) (fun c_112_179 => ?_)
                    · replace h := h.1 c_112_179
                      refine lv_iload_n hx hb dL_law_119 rfl (lv_at hl 3 rfl) ?_
                      refine lv_iconst (v := (5 : Int32)) hx hb dL_law_120 (by decide) ?_
                      refine lv_ishr hx hb dL_law_121 ?_
                      refine lv_iload hx hb dL_law_122 (lv_at hl 1 rfl) ?_
                      refine vp_callSi (W.runS (As := [.int (r61_19 >>> ((5 : Int32) &&& 31)), .int r78_22]) (rest := []) ⟨hx, hb, hml, hown, hts⟩ (kL_low l g  (r61_19 >>> ((5 : Int32) &&& 31)) r78_22 _ h) (va_cwS 2 hts gL_law_L_low rfl rfl rfl hdL_low.2 ⟨(Nat.le_of_ble_eq_true rfl), (Nat.le_of_ble_eq_true rfl)⟩) (preS_R hK (va_P_nil (D := g.1) (cl := vwCl))) rfl rfl hl.1 rfl (lv_room (Nat.le_of_ble_eq_true rfl)) dL_law_124 ⟨(Nat.le_of_ble_eq_true rfl), (Nat.le_of_ble_eq_true rfl)⟩) (fun r124_181 h => ?_)
                      exact tail_3 r124_181 ws H locs ls h hAW hP hD hS (lv_sub hl [0, 1, 2, 3, 4, 5, 6] rfl)
                    · replace h := h.2 c_112_179
                      refine lv_iconst (v := (0 : Int32)) hx hb dL_law_115 (by decide) ?_
                      refine lv_goto (tgt := 127) hx hb dL_law_116 (by decide) ?_
                      exact tail_3 (0 : Int32) ws H locs ls h hAW hP hD hS (lv_sub hl [0, 1, 2, 3, 4, 5, 6] rfl)
                  refine lv_icmp_ge (tgt := 92) hx hb dL_law_85 (by decide) (fun c_85_181 => ?_) (fun c_85_181 => ?_)
                  · replace h := h.1 c_85_181
                    refine lv_iload_n hx hb dL_law_92 rfl (lv_at hl 3 rfl) ?_
                    refine lv_bipush (v := (10 : Int32)) hx hb dL_law_93 (by decide) ?_
                    refine lv_icmp_ge (tgt := 102) hx hb dL_law_95 (by decide) (fun c_95_182 => ?_) (fun c_95_182 => ?_)
                    · replace h := h.1 c_95_182
                      refine lv_iload_n hx hb dL_law_102 rfl (lv_at hl 2 rfl) ?_
                      refine lv_bipush (v := (12 : Int32)) hx hb dL_law_103 (by decide) ?_
                      refine vp_callSi (W.runS (As := [.int r61_19, .int (12 : Int32)]) (rest := []) ⟨hx, hb, hml, hown, hts⟩ (kL_low l g  r61_19 (12 : Int32) _ h) (va_cwS 2 hts gL_law_L_low rfl rfl rfl hdL_low.2 ⟨(Nat.le_of_ble_eq_true rfl), (Nat.le_of_ble_eq_true rfl)⟩) (preS_R hK (va_P_nil (D := g.1) (cl := vwCl))) rfl rfl hl.1 rfl (lv_room (Nat.le_of_ble_eq_true rfl)) dL_law_105 ⟨(Nat.le_of_ble_eq_true rfl), (Nat.le_of_ble_eq_true rfl)⟩) (fun r105_184 h => ?_)
                      exact tail_2 r105_184 ws H locs ls h hAW hP hD hS (lv_sub hl [0, 1, 2, 3, 4, 5] rfl)
                    · replace h := h.2 c_95_182
                      refine lv_iconst (v := (1 : Int32)) hx hb dL_law_98 (by decide) ?_
                      refine lv_goto (tgt := 108) hx hb dL_law_99 (by decide) ?_
                      exact tail_2 (1 : Int32) ws H locs ls h hAW hP hD hS (lv_sub hl [0, 1, 2, 3, 4, 5] rfl)
                  · replace h := h.2 c_85_181
                    refine lv_iconst (v := (0 : Int32)) hx hb dL_law_88 (by decide) ?_
                    refine lv_goto (tgt := 108) hx hb dL_law_89 (by decide) ?_
                    exact tail_2 (0 : Int32) ws H locs ls h hAW hP hD hS (lv_sub hl [0, 1, 2, 3, 4, 5] rfl)
            obtain ⟨n_1, h⟩ := h
            refine loop_1 _ ?_ n_1 (0 : Int32) V_11 _ _ _ ls h hAW hP hD hS (lv_sub hl [0, 1, 2] rfl)
            intro v2_15 V_16 ws H locs ls h hAW hP hD hS hl
            refine lv_aload_n hx hb dL_law_1104 rfl (lv_at hl 1 rfl) ?_
            refine vl_calli (V := V_16) (va_runS (As := [.ref (a.1 0)]) (rest := []) ⟨hx, hb, hml, hown, hts⟩ (kL_refuses l g a V_16 ws H.size hAW  _ h) (va_cwS 1 hts gL_law_L_refuses rfl rfl rfl hdL_refuses.2 ⟨(Nat.le_of_ble_eq_true rfl), (Nat.le_of_ble_eq_true rfl)⟩) (preS_MSg hK hP hD hST hS (va_freeA hD hS hA)) rfl rfl hl.1 rfl (lv_room (Nat.le_of_ble_eq_true rfl)) dL_law_1105 ⟨(Nat.le_of_ble_eq_true rfl), (Nat.le_of_ble_eq_true rfl)⟩) hS (va_freeA hD hS hA) ?_
            clear h hAW hP hD hS
            clear ws H locs
            intro r1105_185 V_186 ws H locs hAW hP hD hS h
            replace h : r1105_185 = 1 := h
            rw [h]
            exact va_forget (fun z9 hz9 => hS.2.2 z9 hz9) (lw_ret hx hb hr hlocks dL_law_1108)
          · replace h := h.2 c_44_13
            refine lv_iconst (v := (0 : Int32)) hx hb dL_law_47 (by decide) ?_
            exact h.elim
