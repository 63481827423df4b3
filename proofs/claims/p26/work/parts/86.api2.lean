/-! the class's looks, over the one mathematical value -/
theorem tA_count0 {S : AS} {n : Nat} {h : Nat → AS} {k : Int32 → Prop} (hk : k (nI (s_cnt S))) : PA_count (S, n, h) (0 : Int32) k := by
  intro l_oldest l_historySize l_textLength n_pictureCount n_angle n_speed n_ticks n_load n_secondArm n_settings n_working n_written n_writtenIn n_width n_first n_step n_kind n_columns hist hR
  obtain ⟨hS, hC, o, hO, hHC, e1, e3⟩ := RAC_out hR
  obtain ⟨c1, c2, c3, c4, c5, c6, cG, cW, cP⟩ := id hC
  unfold PX4_count
  refine ⟨fun e => absurd e (by decide), fun _ => ?_, fun e => absurd e (by decide), fun e => absurd e (by decide), fun e => absurd e (by decide), fun e => absurd e (by decide), fun e => absurd e (by decide), fun e => absurd e (by decide), fun e => absurd e (by decide), fun e => absurd e (by decide), fun e => absurd e (by decide)⟩
  rw [c1]; exact hk
theorem tA_count1 {S : AS} {n : Nat} {h : Nat → AS} {k : Int32 → Prop} (hk : k (nI (s_ang S))) : PA_count (S, n, h) (1 : Int32) k := by
  intro l_oldest l_historySize l_textLength n_pictureCount n_angle n_speed n_ticks n_load n_secondArm n_settings n_working n_written n_writtenIn n_width n_first n_step n_kind n_columns hist hR
  obtain ⟨hS, hC, o, hO, hHC, e1, e3⟩ := RAC_out hR
  obtain ⟨c1, c2, c3, c4, c5, c6, cG, cW, cP⟩ := id hC
  unfold PX4_count
  refine ⟨fun e => absurd e (by decide), fun e => absurd e (by decide), fun _ => ?_, fun e => absurd e (by decide), fun e => absurd e (by decide), fun e => absurd e (by decide), fun e => absurd e (by decide), fun e => absurd e (by decide), fun e => absurd e (by decide), fun e => absurd e (by decide), fun e => absurd e (by decide)⟩
  rw [c2]; exact hk
theorem tA_count2 {S : AS} {n : Nat} {h : Nat → AS} {k : Int32 → Prop} (hk : ∀ r : Int32, r.toInt = s_spd S → k r) : PA_count (S, n, h) (2 : Int32) k := by
  intro l_oldest l_historySize l_textLength n_pictureCount n_angle n_speed n_ticks n_load n_secondArm n_settings n_working n_written n_writtenIn n_width n_first n_step n_kind n_columns hist hR
  obtain ⟨hS, hC, o, hO, hHC, e1, e3⟩ := RAC_out hR
  obtain ⟨c1, c2, c3, c4, c5, c6, cG, cW, cP⟩ := id hC
  unfold PX4_count
  refine ⟨fun e => absurd e (by decide), fun e => absurd e (by decide), fun e => absurd e (by decide), fun _ => ?_, fun e => absurd e (by decide), fun e => absurd e (by decide), fun e => absurd e (by decide), fun e => absurd e (by decide), fun e => absurd e (by decide), fun e => absurd e (by decide), fun e => absurd e (by decide)⟩
  exact hk _ c3
theorem tA_count3 {S : AS} {n : Nat} {h : Nat → AS} {k : Int32 → Prop} (hk : k (nI (s_tck S))) : PA_count (S, n, h) (3 : Int32) k := by
  intro l_oldest l_historySize l_textLength n_pictureCount n_angle n_speed n_ticks n_load n_secondArm n_settings n_working n_written n_writtenIn n_width n_first n_step n_kind n_columns hist hR
  obtain ⟨hS, hC, o, hO, hHC, e1, e3⟩ := RAC_out hR
  obtain ⟨c1, c2, c3, c4, c5, c6, cG, cW, cP⟩ := id hC
  unfold PX4_count
  refine ⟨fun e => absurd e (by decide), fun e => absurd e (by decide), fun e => absurd e (by decide), fun e => absurd e (by decide), fun _ => ?_, fun e => absurd e (by decide), fun e => absurd e (by decide), fun e => absurd e (by decide), fun e => absurd e (by decide), fun e => absurd e (by decide), fun e => absurd e (by decide)⟩
  rw [c4]; exact hk
theorem tA_count4 {S : AS} {n : Nat} {h : Nat → AS} {k : Int32 → Prop} (hk : k (nI (s_ld S))) : PA_count (S, n, h) (4 : Int32) k := by
  intro l_oldest l_historySize l_textLength n_pictureCount n_angle n_speed n_ticks n_load n_secondArm n_settings n_working n_written n_writtenIn n_width n_first n_step n_kind n_columns hist hR
  obtain ⟨hS, hC, o, hO, hHC, e1, e3⟩ := RAC_out hR
  obtain ⟨c1, c2, c3, c4, c5, c6, cG, cW, cP⟩ := id hC
  unfold PX4_count
  refine ⟨fun e => absurd e (by decide), fun e => absurd e (by decide), fun e => absurd e (by decide), fun e => absurd e (by decide), fun e => absurd e (by decide), fun _ => ?_, fun e => absurd e (by decide), fun e => absurd e (by decide), fun e => absurd e (by decide), fun e => absurd e (by decide), fun e => absurd e (by decide)⟩
  rw [c5]; exact hk
theorem tA_count5 {S : AS} {n : Nat} {h : Nat → AS} {k : Int32 → Prop} (hk : k (nI (sg 720 (fun a => sm 12 (dk (litS S 0 a)))))) : PA_count (S, n, h) (5 : Int32) k := by
  intro l_oldest l_historySize l_textLength n_pictureCount n_angle n_speed n_ticks n_load n_secondArm n_settings n_working n_written n_writtenIn n_width n_first n_step n_kind n_columns hist hR
  obtain ⟨hS, hC, o, hO, hHC, e1, e3⟩ := RAC_out hR
  obtain ⟨c1, c2, c3, c4, c5, c6, cG, cW, cP⟩ := id hC
  unfold PX4_count
  refine ⟨fun e => absurd e (by decide), fun e => absurd e (by decide), fun e => absurd e (by decide), fun e => absurd e (by decide), fun e => absurd e (by decide), fun e => absurd e (by decide), fun _ => ?_, fun e => absurd e (by decide), fun e => absurd e (by decide), fun e => absurd e (by decide), fun e => absurd e (by decide)⟩
  exact tC_countLit (by decide) hS hC hk
theorem tA_count6 {S : AS} {n : Nat} {h : Nat → AS} {k : Int32 → Prop} (hk : k (nI (sg 720 (fun a => sm 12 (dk (fun l => litS S 0 a l ^^^ wantS S a l)))))) : PA_count (S, n, h) (6 : Int32) k := by
  intro l_oldest l_historySize l_textLength n_pictureCount n_angle n_speed n_ticks n_load n_secondArm n_settings n_working n_written n_writtenIn n_width n_first n_step n_kind n_columns hist hR
  obtain ⟨hS, hC, o, hO, hHC, e1, e3⟩ := RAC_out hR
  obtain ⟨c1, c2, c3, c4, c5, c6, cG, cW, cP⟩ := id hC
  unfold PX4_count
  refine ⟨fun e => absurd e (by decide), fun e => absurd e (by decide), fun e => absurd e (by decide), fun e => absurd e (by decide), fun e => absurd e (by decide), fun e => absurd e (by decide), fun e => absurd e (by decide), fun _ => ?_, fun e => absurd e (by decide), fun e => absurd e (by decide), fun e => absurd e (by decide)⟩
  exact tC_countNot (by decide) hS hC hk
theorem tA_count7 {S : AS} {n : Nat} {h : Nat → AS} {k : Int32 → Prop} (hk : k (nI (s_sec S))) : PA_count (S, n, h) (7 : Int32) k := by
  intro l_oldest l_historySize l_textLength n_pictureCount n_angle n_speed n_ticks n_load n_secondArm n_settings n_working n_written n_writtenIn n_width n_first n_step n_kind n_columns hist hR
  obtain ⟨hS, hC, o, hO, hHC, e1, e3⟩ := RAC_out hR
  obtain ⟨c1, c2, c3, c4, c5, c6, cG, cW, cP⟩ := id hC
  unfold PX4_count
  refine ⟨fun e => absurd e (by decide), fun e => absurd e (by decide), fun e => absurd e (by decide), fun e => absurd e (by decide), fun e => absurd e (by decide), fun e => absurd e (by decide), fun e => absurd e (by decide), fun e => absurd e (by decide), fun _ => ?_, fun e => absurd e (by decide), fun e => absurd e (by decide)⟩
  rw [c6]; exact hk
theorem tA_count8 {S : AS} {n : Nat} {h : Nat → AS} {k : Int32 → Prop} (hk : k (nI n)) : PA_count (S, n, h) (8 : Int32) k := by
  intro l_oldest l_historySize l_textLength n_pictureCount n_angle n_speed n_ticks n_load n_secondArm n_settings n_working n_written n_writtenIn n_width n_first n_step n_kind n_columns hist hR
  obtain ⟨hS, hC, o, hO, hHC, e1, e3⟩ := RAC_out hR
  obtain ⟨c1, c2, c3, c4, c5, c6, cG, cW, cP⟩ := id hC
  unfold PX4_count
  refine ⟨fun e => absurd e (by decide), fun e => absurd e (by decide), fun e => absurd e (by decide), fun e => absurd e (by decide), fun e => absurd e (by decide), fun e => absurd e (by decide), fun e => absurd e (by decide), fun e => absurd e (by decide), fun e => absurd e (by decide), fun _ => ?_, fun e => absurd e (by decide)⟩
  rw [e3]; exact hk
theorem tA_countX {S : AS} {n : Nat} {h : Nat → AS} {k : Int32 → Prop} (hk : k (-101)) : PA_count (S, n, h) (-1 : Int32) k := by
  intro l_oldest l_historySize l_textLength n_pictureCount n_angle n_speed n_ticks n_load n_secondArm n_settings n_working n_written n_writtenIn n_width n_first n_step n_kind n_columns hist hR
  obtain ⟨hS, hC, o, hO, hHC, e1, e3⟩ := RAC_out hR
  obtain ⟨c1, c2, c3, c4, c5, c6, cG, cW, cP⟩ := id hC
  unfold PX4_count
  refine ⟨fun _ => ?_, fun e => absurd e (by decide), fun e => absurd e (by decide), fun e => absurd e (by decide), fun e => absurd e (by decide), fun e => absurd e (by decide), fun e => absurd e (by decide), fun e => absurd e (by decide), fun e => absurd e (by decide), fun e => absurd e (by decide), fun e => absurd e (by decide)⟩
  exact hk
theorem tA_setting {S : AS} {n : Nat} {h : Nat → AS} {k : Int32 → Prop} {x : Nat} (hx : x < 4) (hk : ∀ r : Int32, r.toInt = s_stg S x → k r) : PA_setting (S, n, h) (nI x) k := by
  intro l_oldest l_historySize n_pictureCount n_angle n_speed n_ticks n_load n_secondArm n_settings n_working n_written n_writtenIn n_width n_first n_step n_kind n_columns hist hR
  obtain ⟨hS, hC, o, hO, hHC, e1, e3⟩ := RAC_out hR
  unfold PX4_setting
  refine yes4 (L := 0) (H := 3) (by decide) (by decide) (by omega) (by omega) ⟨fun c => absurd c (by decide), fun _ => ⟨vp_in_nI (by omega) (by decide), ?_⟩⟩
  rw [nI_clamp (by omega)]
  exact hk _ (hC.2.2.2.2.2.2.1 x hx)
theorem tA_settingX {S : AS} {n : Nat} {h : Nat → AS} {k : Int32 → Prop} {a : Int32} (h0 : ¬ (0 ≤ a.toInt ∧ a.toInt ≤ 3)) (hk : k (-101)) : PA_setting (S, n, h) a k := by
  intro l_oldest l_historySize n_pictureCount n_angle n_speed n_ticks n_load n_secondArm n_settings n_working n_written n_writtenIn n_width n_first n_step n_kind n_columns hist hR
  obtain ⟨hS, hC, o, hO, hHC, e1, e3⟩ := RAC_out hR
  unfold PX4_setting
  exact no4 (A := 0) (B := 3) (by decide) (by decide) h0 ⟨fun _ => hk, fun q => absurd rfl q⟩
theorem tA_picture0 {S : AS} {n : Nat} {h : Nat → AS} {k : Int32 → Prop} {p : Nat} (hp : p < s_cnt S) (hk : k (nI (s_wd S p))) : PA_picture (S, n, h) (nI p) (0 : Int32) k := by
  intro l_oldest l_historySize n_pictureCount n_angle n_speed n_ticks n_load n_secondArm n_settings n_working n_written n_writtenIn n_width n_first n_step n_kind n_columns hist hR
  obtain ⟨hS, hC, o, hO, hHC, e1, e3⟩ := RAC_out hR
  have hcnt := hS.1
  have hpc := hC.1
  subst hpc
  unfold PX4_picture
  refine pickp hcnt hp ?_
  obtain ⟨q1, q2, q3, q4, q5, q6, q7⟩ := okQ_of hS hp
  obtain ⟨c1, c2, c3, c4, c5⟩ := cP_of hC hcnt hp
  rw [c1, c2, c3, c4]
  refine ⟨fun e => absurd e (by decide), fun _ => ?_, fun e => absurd e (by decide), fun e => absurd e (by decide), fun e => absurd e (by decide), fun e => absurd e (by decide), fun e => absurd e (by decide)⟩
  exact hk
theorem tA_picture1 {S : AS} {n : Nat} {h : Nat → AS} {k : Int32 → Prop} {p : Nat} (hp : p < s_cnt S) (hk : k (nI (s_fs S p))) : PA_picture (S, n, h) (nI p) (1 : Int32) k := by
  intro l_oldest l_historySize n_pictureCount n_angle n_speed n_ticks n_load n_secondArm n_settings n_working n_written n_writtenIn n_width n_first n_step n_kind n_columns hist hR
  obtain ⟨hS, hC, o, hO, hHC, e1, e3⟩ := RAC_out hR
  have hcnt := hS.1
  have hpc := hC.1
  subst hpc
  unfold PX4_picture
  refine pickp hcnt hp ?_
  obtain ⟨q1, q2, q3, q4, q5, q6, q7⟩ := okQ_of hS hp
  obtain ⟨c1, c2, c3, c4, c5⟩ := cP_of hC hcnt hp
  rw [c1, c2, c3, c4]
  refine ⟨fun e => absurd e (by decide), fun e => absurd e (by decide), fun _ => ?_, fun e => absurd e (by decide), fun e => absurd e (by decide), fun e => absurd e (by decide), fun e => absurd e (by decide)⟩
  exact hk
theorem tA_picture2 {S : AS} {n : Nat} {h : Nat → AS} {k : Int32 → Prop} {p : Nat} (hp : p < s_cnt S) (hk : k (nI (s_sp S p))) : PA_picture (S, n, h) (nI p) (2 : Int32) k := by
  intro l_oldest l_historySize n_pictureCount n_angle n_speed n_ticks n_load n_secondArm n_settings n_working n_written n_writtenIn n_width n_first n_step n_kind n_columns hist hR
  obtain ⟨hS, hC, o, hO, hHC, e1, e3⟩ := RAC_out hR
  have hcnt := hS.1
  have hpc := hC.1
  subst hpc
  unfold PX4_picture
  refine pickp hcnt hp ?_
  obtain ⟨q1, q2, q3, q4, q5, q6, q7⟩ := okQ_of hS hp
  obtain ⟨c1, c2, c3, c4, c5⟩ := cP_of hC hcnt hp
  rw [c1, c2, c3, c4]
  refine ⟨fun e => absurd e (by decide), fun e => absurd e (by decide), fun e => absurd e (by decide), fun _ => ?_, fun e => absurd e (by decide), fun e => absurd e (by decide), fun e => absurd e (by decide)⟩
  exact hk
theorem tA_picture3 {S : AS} {n : Nat} {h : Nat → AS} {k : Int32 → Prop} {p : Nat} (hp : p < s_cnt S) (hk : k (nI (s_kd S p))) : PA_picture (S, n, h) (nI p) (3 : Int32) k := by
  intro l_oldest l_historySize n_pictureCount n_angle n_speed n_ticks n_load n_secondArm n_settings n_working n_written n_writtenIn n_width n_first n_step n_kind n_columns hist hR
  obtain ⟨hS, hC, o, hO, hHC, e1, e3⟩ := RAC_out hR
  have hcnt := hS.1
  have hpc := hC.1
  subst hpc
  unfold PX4_picture
  refine pickp hcnt hp ?_
  obtain ⟨q1, q2, q3, q4, q5, q6, q7⟩ := okQ_of hS hp
  obtain ⟨c1, c2, c3, c4, c5⟩ := cP_of hC hcnt hp
  rw [c1, c2, c3, c4]
  refine ⟨fun e => absurd e (by decide), fun e => absurd e (by decide), fun e => absurd e (by decide), fun e => absurd e (by decide), fun _ => ?_, fun e => absurd e (by decide), fun e => absurd e (by decide)⟩
  exact hk
theorem tA_picture4 {S : AS} {n : Nat} {h : Nat → AS} {k : Int32 → Prop} {p : Nat} (hp : p < s_cnt S) (hk : k (nI (sg (s_wd S p) (fun c => sm 12 (dk (s_co S p c)))))) : PA_picture (S, n, h) (nI p) (4 : Int32) k := by
  intro l_oldest l_historySize n_pictureCount n_angle n_speed n_ticks n_load n_secondArm n_settings n_working n_written n_writtenIn n_width n_first n_step n_kind n_columns hist hR
  obtain ⟨hS, hC, o, hO, hHC, e1, e3⟩ := RAC_out hR
  have hcnt := hS.1
  have hpc := hC.1
  subst hpc
  unfold PX4_picture
  refine pickp hcnt hp ?_
  obtain ⟨q1, q2, q3, q4, q5, q6, q7⟩ := okQ_of hS hp
  obtain ⟨c1, c2, c3, c4, c5⟩ := cP_of hC hcnt hp
  rw [c1, c2, c3, c4]
  refine ⟨fun e => absurd e (by decide), fun e => absurd e (by decide), fun e => absurd e (by decide), fun e => absurd e (by decide), fun e => absurd e (by decide), fun _ => ?_, fun e => absurd e (by decide)⟩
  exact tC_countNotDark q2 q7 c5 hk
theorem tA_picture5 {S : AS} {n : Nat} {h : Nat → AS} {k : Int32 → Prop} {p : Nat} (hp : p < s_cnt S) (hk : k (nI (cvN (s_wd S p) (s_sp S p)))) : PA_picture (S, n, h) (nI p) (5 : Int32) k := by
  intro l_oldest l_historySize n_pictureCount n_angle n_speed n_ticks n_load n_secondArm n_settings n_working n_written n_writtenIn n_width n_first n_step n_kind n_columns hist hR
  obtain ⟨hS, hC, o, hO, hHC, e1, e3⟩ := RAC_out hR
  have hcnt := hS.1
  have hpc := hC.1
  subst hpc
  unfold PX4_picture
  refine pickp hcnt hp ?_
  obtain ⟨q1, q2, q3, q4, q5, q6, q7⟩ := okQ_of hS hp
  obtain ⟨c1, c2, c3, c4, c5⟩ := cP_of hC hcnt hp
  rw [c1, c2, c3, c4]
  refine ⟨fun e => absurd e (by decide), fun e => absurd e (by decide), fun e => absurd e (by decide), fun e => absurd e (by decide), fun e => absurd e (by decide), fun e => absurd e (by decide), fun _ => ?_⟩
  exact tC_coveredAngles q2 q4 hk
theorem tA_pictureX {S : AS} {n : Nat} {h : Nat → AS} {k : Int32 → Prop} {a b : Int32} (h0 : ¬ (0 ≤ a.toInt ∧ a.toInt ≤ (s_cnt S : Int) - 1)) (hk : k (-101)) : PA_picture (S, n, h) a b k := by
  intro l_oldest l_historySize n_pictureCount n_angle n_speed n_ticks n_load n_secondArm n_settings n_working n_written n_writtenIn n_width n_first n_step n_kind n_columns hist hR
  obtain ⟨hS, hC, o, hO, hHC, e1, e3⟩ := RAC_out hR
  have hcnt := hS.1
  have hpc := hC.1
  subst hpc
  unfold PX4_picture
  exact pickno hcnt h0 hk
theorem tA_colorX {S : AS} {n : Nat} {h : Nat → AS} {k : Int32 → Prop} {a b c : Int32} (h0 : ¬ (0 ≤ a.toInt ∧ a.toInt ≤ (s_cnt S : Int) - 1)) (hk : k (-101)) : PA_color (S, n, h) a b c k := by
  intro l_oldest l_historySize n_pictureCount n_angle n_speed n_ticks n_load n_secondArm n_settings n_working n_written n_writtenIn n_width n_first n_step n_kind n_columns hist hR
  obtain ⟨hS, hC, o, hO, hHC, e1, e3⟩ := RAC_out hR
  have hcnt := hS.1
  have hpc := hC.1
  subst hpc
  unfold PX4_color
  exact pickno hcnt h0 hk
theorem tA_columnAtX {S : AS} {n : Nat} {h : Nat → AS} {k : Int32 → Prop} {a b : Int32} (h0 : ¬ (0 ≤ a.toInt ∧ a.toInt ≤ (s_cnt S : Int) - 1)) (hk : k (-101)) : PA_columnAt (S, n, h) a b k := by
  intro l_oldest l_historySize n_pictureCount n_angle n_speed n_ticks n_load n_secondArm n_settings n_working n_written n_writtenIn n_width n_first n_step n_kind n_columns hist hR
  obtain ⟨hS, hC, o, hO, hHC, e1, e3⟩ := RAC_out hR
  have hcnt := hS.1
  have hpc := hC.1
  subst hpc
  unfold PX4_columnAt
  exact pickno hcnt h0 hk
theorem tA_color {S : AS} {n : Nat} {h : Nat → AS} {k : Int32 → Prop} {p x y : Nat} (hp : p < s_cnt S) (hx : x < s_wd S p) (hy : y < 12) (hk : k (nI (s_co S p x y))) : PA_color (S, n, h) (nI p) (nI x) (nI y) k := by
  intro l_oldest l_historySize n_pictureCount n_angle n_speed n_ticks n_load n_secondArm n_settings n_working n_written n_writtenIn n_width n_first n_step n_kind n_columns hist hR
  obtain ⟨hS, hC, o, hO, hHC, e1, e3⟩ := RAC_out hR
  have hcnt := hS.1
  have hpc := hC.1
  subst hpc
  unfold PX4_color
  refine pickp hcnt hp ?_
  obtain ⟨q1, q2, q3, q4, q5, q6, q7⟩ := okQ_of hS hp
  obtain ⟨c1, c2, c3, c4, c5⟩ := cP_of hC hcnt hp
  refine yes4 (L := 0) (H := 39) (by decide) (by decide) (by omega) (by omega) ⟨fun c => absurd c (by decide), fun _ => ?_⟩
  refine yes4 (L := 0) (H := 11) (by decide) (by decide) (by omega) (by omega) ⟨fun _ => ?_, fun c => absurd c (by decide)⟩
  rw [c1]
  refine ⟨fun c => ?_, fun c => ?_⟩ <;> rw [nI_leI (by omega) (by omega)] at c
  · omega
  · refine ⟨vp_in_nI (by omega) (by decide), ?_⟩
    rw [nI_clamp (by omega), c5 x (by omega)]
    exact pX4_colorIn (fun l hl => q7 x l (by omega) hl) (by omega) hk
theorem tA_broken {S : AS} {n : Nat} {h : Nat → AS} {k : Int32 → Prop} {x y : Nat} (hx : x < 2) (hy : y < 12) (hk : k (nI (1 - s_wk S x y))) : PA_broken (S, n, h) (nI x) (nI y) k := by
  intro l_oldest l_historySize n_pictureCount n_angle n_speed n_ticks n_load n_secondArm n_settings n_working n_written n_writtenIn n_width n_first n_step n_kind n_columns hist hR
  obtain ⟨hS, hC, o, hO, hHC, e1, e3⟩ := RAC_out hR
  obtain ⟨-, -, -, -, -, -, -, ⟨cw1, -⟩, -⟩ := id hC
  obtain ⟨-, -, -, -, -, -, -, ⟨-, hb, -⟩⟩ := id hS
  unfold PX4_broken
  refine yes4 (L := 0) (H := 1) (by decide) (by decide) (by omega) (by omega) ⟨fun c => absurd c (by decide), fun _ => ?_⟩
  refine yes4 (L := 0) (H := 11) (by decide) (by decide) (by omega) (by omega) ⟨fun _ => ?_, fun c => absurd c (by decide)⟩
  refine tC_works cw1 hb hx hy (fun w => ⟨fun q => absurd q (by decide), fun _ => ?_⟩) (fun w => ⟨fun _ => ?_, fun q => absurd rfl q⟩)
  · rw [w] at hk; exact hk
  · rw [w] at hk; exact hk
theorem tA_brokenX {S : AS} {n : Nat} {h : Nat → AS} {k : Int32 → Prop} {a b : Int32} (h0 : ¬ (0 ≤ a.toInt ∧ a.toInt ≤ 1)) (hk : k (-101)) : PA_broken (S, n, h) a b k := by
  intro l_oldest l_historySize n_pictureCount n_angle n_speed n_ticks n_load n_secondArm n_settings n_working n_written n_writtenIn n_width n_first n_step n_kind n_columns hist hR
  obtain ⟨hS, hC, o, hO, hHC, e1, e3⟩ := RAC_out hR
  unfold PX4_broken
  exact no4 (A := 0) (B := 1) (by decide) (by decide) h0 ⟨fun _ => hk, fun q => absurd rfl q⟩
theorem tA_place0 {S : AS} {n : Nat} {h : Nat → AS} {k : Int32 → Prop} {x y : Nat} (hx : x < 720) (hy : y < 12) (hk : k (nI (wantS S x y))) : PA_place (S, n, h) (nI x) (nI y) (0 : Int32) k := by
  intro l_oldest l_historySize n_pictureCount n_angle n_speed n_ticks n_load n_secondArm n_settings n_working n_written n_writtenIn n_width n_first n_step n_kind n_columns hist hR
  obtain ⟨hS, hC, o, hO, hHC, e1, e3⟩ := RAC_out hR
  unfold PX4_place
  refine yes4 (L := 0) (H := 719) (by decide) (by decide) (by omega) (by omega) ⟨fun c => absurd c (by decide), fun _ => ?_⟩
  refine yes4 (L := 0) (H := 11) (by decide) (by decide) (by omega) (by omega) ⟨fun _ => ?_, fun c => absurd c (by decide)⟩
  obtain ⟨c1, -, -, c4, -, -, -, cW, cP⟩ := id hC
  refine ⟨fun e => absurd e (by decide), fun _ => ?_, fun e => absurd e (by decide), fun e => absurd e (by decide)⟩
  exact tC_wantedAt hS c1 cP hx (pX4_colorIn (fun l hl => want_lt hS hl) hy hk)
theorem tA_place1 {S : AS} {n : Nat} {h : Nat → AS} {k : Int32 → Prop} {x y : Nat} (hx : x < 720) (hy : y < 12) (hk : k (nI (litS S 0 x y))) : PA_place (S, n, h) (nI x) (nI y) (1 : Int32) k := by
  intro l_oldest l_historySize n_pictureCount n_angle n_speed n_ticks n_load n_secondArm n_settings n_working n_written n_writtenIn n_width n_first n_step n_kind n_columns hist hR
  obtain ⟨hS, hC, o, hO, hHC, e1, e3⟩ := RAC_out hR
  unfold PX4_place
  refine yes4 (L := 0) (H := 719) (by decide) (by decide) (by omega) (by omega) ⟨fun c => absurd c (by decide), fun _ => ?_⟩
  refine yes4 (L := 0) (H := 11) (by decide) (by decide) (by omega) (by omega) ⟨fun _ => ?_, fun c => absurd c (by decide)⟩
  obtain ⟨c1, -, -, c4, -, -, -, cW, cP⟩ := id hC
  refine ⟨fun e => absurd e (by decide), fun e => absurd e (by decide), fun _ => ?_, fun e => absurd e (by decide)⟩
  exact tC_lit (x := 0) (by decide) hS hC (by omega) hx (pX4_colorIn (fun l hl => litS_lt hS hx hl) hy hk)
theorem tA_place2 {S : AS} {n : Nat} {h : Nat → AS} {k : Int32 → Prop} {x y : Nat} (hx : x < 720) (hy : y < 12) (hk : (s_wi S x y = 0 → k (-109)) ∧ (s_wi S x y ≠ 0 → k (nI (s_tck S - s_wi S x y)))) : PA_place (S, n, h) (nI x) (nI y) (2 : Int32) k := by
  intro l_oldest l_historySize n_pictureCount n_angle n_speed n_ticks n_load n_secondArm n_settings n_working n_written n_writtenIn n_width n_first n_step n_kind n_columns hist hR
  obtain ⟨hS, hC, o, hO, hHC, e1, e3⟩ := RAC_out hR
  unfold PX4_place
  refine yes4 (L := 0) (H := 719) (by decide) (by decide) (by omega) (by omega) ⟨fun c => absurd c (by decide), fun _ => ?_⟩
  refine yes4 (L := 0) (H := 11) (by decide) (by decide) (by omega) (by omega) ⟨fun _ => ?_, fun c => absurd c (by decide)⟩
  obtain ⟨c1, -, -, c4, -, -, -, cW, cP⟩ := id hC
  refine ⟨fun e => absurd e (by decide), fun e => absurd e (by decide), fun e => absurd e (by decide), fun _ => ?_⟩
  obtain ⟨-, -, -, -, -, -, -, ⟨k1, -, k3, k4⟩⟩ := id hS
  have h4 := k4 x y hx hy
  unfold PX4_ticksSinceWritten
  rw [pl12, nI_clamp (by omega)]
  refine ⟨vp_in_nI (by omega) (by decide), fun v ev => ?_⟩
  rw [cW.2.2 x y hx hy] at ev
  subst ev
  subst c4
  have hz : nI (s_wi S x y) = 0 ↔ s_wi S x y = 0 := nI_eq (b := 0) (by omega) (by omega)
  refine ⟨fun c => ?_, fun c => ?_⟩
  · rw [pk_sub h4]
    exact hk.2 (fun w => c (hz.mpr w))
  · exact hk.1 (hz.mp c)
theorem tA_placeX {S : AS} {n : Nat} {h : Nat → AS} {k : Int32 → Prop} {a b c : Int32} (h0 : ¬ (0 ≤ a.toInt ∧ a.toInt ≤ 719)) (hk : k (-101)) : PA_place (S, n, h) a b c k := by
  intro l_oldest l_historySize n_pictureCount n_angle n_speed n_ticks n_load n_secondArm n_settings n_working n_written n_writtenIn n_width n_first n_step n_kind n_columns hist hR
  obtain ⟨hS, hC, o, hO, hHC, e1, e3⟩ := RAC_out hR
  unfold PX4_place
  exact no4 (A := 0) (B := 719) (by decide) (by decide) h0 ⟨fun _ => hk, fun q => absurd rfl q⟩
theorem tA_columnAt {S : AS} {n : Nat} {h : Nat → AS} {k : Int32 → Prop} {p x : Nat} (hp : p < s_cnt S) (hx : x < 720) (h1 : ofs x (s_fs S p) < cvN (s_wd S p) (s_sp S p) → k (nI (clN (s_wd S p) (s_fs S p) (s_sp S p) (s_kd S p) x))) (h2 : ¬ ofs x (s_fs S p) < cvN (s_wd S p) (s_sp S p) → k (-109)) : PA_columnAt (S, n, h) (nI p) (nI x) k := by
  intro l_oldest l_historySize n_pictureCount n_angle n_speed n_ticks n_load n_secondArm n_settings n_working n_written n_writtenIn n_width n_first n_step n_kind n_columns hist hR
  obtain ⟨hS, hC, o, hO, hHC, e1, e3⟩ := RAC_out hR
  have hcnt := hS.1
  have hpc := hC.1
  subst hpc
  unfold PX4_columnAt
  refine pickp hcnt hp ?_
  obtain ⟨q1, q2, q3, q4, q5, q6, q7⟩ := okQ_of hS hp
  obtain ⟨c1, c2, c3, c4, c5⟩ := cP_of hC hcnt hp
  refine yes4 (L := 0) (H := 719) (by decide) (by decide) (by omega) (by omega) ⟨fun _ => ?_, fun c => absurd c (by decide)⟩
  rw [c1, c2, c3, c4]
  refine tC_covers q2 q4 q5 hx (fun y => ⟨fun q => absurd q (by decide), fun _ => ?_⟩) (fun y => ⟨fun _ => ?_, fun q => absurd rfl q⟩)
  · exact tC_columnOf q1 q2 q3 q4 q5 hx q6 y (h1 y)
  · exact h2 y
theorem tA_meetings {S : AS} {n : Nat} {h : Nat → AS} {k : Int32 → Prop} {p q : Nat} (hp : p < s_cnt S) (hq : q < s_cnt S) (hne : p ≠ q) (hk : k (nI (sg 720 (fun a => sm 12 (mt S p q a))))) : PA_meetings (S, n, h) (nI p) (nI q) k := by
  intro l_oldest l_historySize n_pictureCount n_angle n_speed n_ticks n_load n_secondArm n_settings n_working n_written n_writtenIn n_width n_first n_step n_kind n_columns hist hR
  obtain ⟨hS, hC, o, hO, hHC, e1, e3⟩ := RAC_out hR
  have hcnt := hS.1
  have hpc := hC.1
  subst hpc
  unfold PX4_meetings PX4_meetings_J1 PX4_meetings_J2 PX4_meetings_J3 PX4_meetings_J4
  refine pickp hcnt hp ?_
  refine pickp hcnt hq ?_
  exact ⟨fun _ => tC_meet hS hC hp hq hk, fun e => absurd ((nI_eq (by omega) (by omega)).mp e) hne⟩
theorem tA_meetingsX {S : AS} {n : Nat} {h : Nat → AS} {k : Int32 → Prop} {a b : Int32} (h0 : ¬ (0 ≤ a.toInt ∧ a.toInt ≤ (s_cnt S : Int) - 1)) (hk : k (-101)) : PA_meetings (S, n, h) a b k := by
  intro l_oldest l_historySize n_pictureCount n_angle n_speed n_ticks n_load n_secondArm n_settings n_working n_written n_writtenIn n_width n_first n_step n_kind n_columns hist hR
  obtain ⟨hS, hC, o, hO, hHC, e1, e3⟩ := RAC_out hR
  have hcnt := hS.1
  have hpc := hC.1
  subst hpc
  unfold PX4_meetings PX4_meetings_J1 PX4_meetings_J2 PX4_meetings_J3 PX4_meetings_J4
  refine pickno hcnt h0 ?_
  exact pick4p hcnt (fun q hq eq => ⟨fun _ => hk, fun j _ _ => hk⟩) (fun c => ⟨fun _ => hk, fun j _ _ => hk⟩)
