theorem dk_sum (f : Nat → Nat → Nat) : sg 720 (fun a => sm 12 (dk (f a))) = sg 8640 (fun i => if f (i / 12) (i % 12) = 0 then 0 else 1) := by
  rw [show (8640 : Nat) = 12 * 720 from rfl, sg12]
  refine sg_congr fun c hc => sm_congr fun l hl => ?_
  show dk (f c) l = if f ((12 * c + l) / 12) ((12 * c + l) % 12) = 0 then 0 else 1
  rw [show (12 * c + l) / 12 = c by omega, show (12 * c + l) % 12 = l by omega]
  rfl
theorem sg_compl {f g : Nat → Nat} : ∀ {n : Nat}, (∀ i, i < n → f i + g i = 1) → sg n f + sg n g = n
  | 0, _ => rfl
  | n + 1, h => by
    have h1 := sg_compl (n := n) (f := f) (g := g) (fun i hi => h i (by omega))
    have h2 := h n (by omega)
    show sg n f + f n + (sg n g + g n) = n + 1
    omega
theorem xor_0 {a b : Nat} : a ^^^ b = 0 ↔ a = b := by
  constructor
  · intro h
    refine Nat.eq_of_testBit_eq fun i => ?_
    have h1 : (a ^^^ b).testBit i = false := by rw [h]; exact Nat.zero_testBit i
    rw [Nat.testBit_xor] at h1
    cases h2 : a.testBit i <;> cases h3 : b.testBit i <;> rw [h2, h3] at h1 <;> first | rfl | exact absurd h1 (by decide)
  · rintro rfl
    exact Nat.xor_self a
theorem tC_countLit {T : Nat} {S : AS} {n_pictureCount n_angle n_speed n_ticks n_load n_secondArm : Int32} {n_settings : Nat → Int32} {n_working n_written : Nat → Int64} {n_writtenIn n_width n_first n_step n_kind : Nat → Int32} {n_columns : Nat → Nat → Int64} {k : Int32 → Prop} (hT : T < 10000) (hS : okS T S) (hC : repC S n_pictureCount n_angle n_speed n_ticks n_load n_secondArm n_settings n_working n_written n_writtenIn n_width n_first n_step n_kind n_columns) (h : k (nI (sg 720 (fun a => sm 12 (dk (litS S 0 a)))))) : PX4_countLit n_ticks n_settings n_written n_writtenIn k := by
  unfold PX4_countLit
  refine lp2 (PX4_countLit_L1 n_ticks n_settings n_written n_writtenIn _) (fun v w => ∃ i, i ≤ 720 ∧ w = nI i ∧ v = nI (sg i (fun a => sm 12 (dk (litS S 0 a))))) (fun _ w => 720 - w.toNatClampNeg) ?_ _ _ ⟨0, by omega, rfl, rfl⟩
  rintro f v w ⟨i, hi, ew, ev⟩ ih
  subst ew ev
  unfold PX4_countLit_L1
  refine ⟨fun c => ?_, fun c => ?_⟩ <;> rw [show (720 : Int32) = nI 720 from rfl, nI_leI (by omega) (by omega)] at c
  · obtain rfl : i = 720 := by omega
    exact h
  · refine tC_lit (x := 0) hT hS hC (by omega) (by omega) ?_
    refine pX4_notDark (fun l hl => litS_lt hS (by omega) hl) (pJ13_dk (fun l _ => dk_le _ l) ?_)
    intro v1 e1 w1 f1
    rw [nI_add] at e1
    rw [nI_1] at f1
    refine ih _ _ ⟨i + 1, by omega, f1, e1⟩ ?_
    rw [f1, nI_clamp (by omega), nI_clamp (by omega)]
    omega
theorem tC_countNot {T : Nat} {S : AS} {n_pictureCount n_angle n_speed n_ticks n_load n_secondArm : Int32} {n_settings : Nat → Int32} {n_working n_written : Nat → Int64} {n_writtenIn n_width n_first n_step n_kind : Nat → Int32} {n_columns : Nat → Nat → Int64} {k : Int32 → Prop} (hT : T < 10000) (hS : okS T S) (hC : repC S n_pictureCount n_angle n_speed n_ticks n_load n_secondArm n_settings n_working n_written n_writtenIn n_width n_first n_step n_kind n_columns) (h : k (nI (sg 720 (fun a => sm 12 (dk (fun l => litS S 0 a l ^^^ wantS S a l)))))) : PX4_countNotAsWanted n_pictureCount n_ticks n_settings n_written n_writtenIn n_width n_first n_step n_kind n_columns k := by
  unfold PX4_countNotAsWanted
  refine lp2 (PX4_countNotAsWanted_L1 n_pictureCount n_ticks n_settings n_written n_writtenIn n_width n_first n_step n_kind n_columns _) (fun v w => ∃ i, i ≤ 720 ∧ w = nI i ∧ v = nI (sg i (fun a => sm 12 (dk (fun l => litS S 0 a l ^^^ wantS S a l))))) (fun _ w => 720 - w.toNatClampNeg) ?_ _ _ ⟨0, by omega, rfl, rfl⟩
  rintro f v w ⟨i, hi, ew, ev⟩ ih
  subst ew ev
  unfold PX4_countNotAsWanted_L1
  refine ⟨fun c => ?_, fun c => ?_⟩ <;> rw [show (720 : Int32) = nI 720 from rfl, nI_leI (by omega) (by omega)] at c
  · obtain rfl : i = 720 := by omega
    exact h
  · have hi7 : i < 720 := by omega
    have d1 : ∀ l, l < 12 → litS S 0 i l < 8 := fun l hl => litS_lt hS hi7 hl
    have d2 : ∀ l, l < 12 → wantS S i l < 8 := fun l hl => want_lt hS hl
    have hC' := id hC
    obtain ⟨c1, -, -, -, -, -, -, -, cP⟩ := hC'
    refine tC_lit (x := 0) hT hS hC (by omega) hi7 (tC_wantedAt hS c1 cP hi7 ?_)
    rw [l_xorD d1 d2]
    refine pX4_notDark (fun l hl => Nat.xor_lt_two_pow (n := 3) (d1 l hl) (d2 l hl)) (pJ13_dk (fun l _ => dk_le _ l) ?_)
    intro v1 e1 w1 f1
    rw [nI_add] at e1
    rw [nI_1] at f1
    refine ih _ _ ⟨i + 1, by omega, f1, e1⟩ ?_
    rw [f1, nI_clamp (by omega), nI_clamp (by omega)]
    omega
