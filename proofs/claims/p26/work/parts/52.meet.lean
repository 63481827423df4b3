/-! meetings -/
def pwS (S : AS) (p a l : Nat) : Nat := pw (s_wd S p) (s_fs S p) (s_sp S p) (s_kd S p) (s_co S p) a l
def mt (S : AS) (p q a l : Nat) : Nat := if pwS S p a l = 0 then 0 else if pwS S q a l = 0 then 0 else 1
theorem mt_and (S : AS) (p q a l : Nat) : dk (pwS S p a) l &&& dk (pwS S q a) l = mt S p q a l := by
  unfold dk mt
  by_cases h1 : pwS S p a l = 0
  · rw [if_pos h1, if_pos h1, Nat.zero_and]
  · rw [if_neg h1, if_neg h1]
    by_cases h2 : pwS S q a l = 0
    · rw [if_pos h2]; rfl
    · rw [if_neg h2]; rfl
theorem tC_meet {T : Nat} {S : AS} {n_pictureCount n_angle n_speed n_ticks n_load n_secondArm : Int32} {n_settings : Nat → Int32} {n_working n_written : Nat → Int64} {n_writtenIn n_width n_first n_step n_kind : Nat → Int32} {n_columns : Nat → Nat → Int64} {p q : Nat} {k : Int32 → Prop} (hS : okS T S) (hC : repC S n_pictureCount n_angle n_speed n_ticks n_load n_secondArm n_settings n_working n_written n_writtenIn n_width n_first n_step n_kind n_columns) (hp : p < s_cnt S) (hq : q < s_cnt S) (h : k (nI (sg 720 (fun a => sm 12 (mt S p q a))))) : ∃ n_5, PX4_meetings_L5 n_width n_first n_step n_kind n_columns p q (fun v5_8 v6_9 => (k v5_8)) n_5 (0 : Int32) (0 : Int32) := by
  have hcnt := hS.1
  have Qp := okQ_of hS hp
  have Qq := okQ_of hS hq
  obtain ⟨a1, a2, a3, a4, a5, a6, a7⟩ := id Qp
  obtain ⟨b1, b2, b3, b4, b5, b6, b7⟩ := id Qq
  obtain ⟨c1, c2, c3, c4, c5⟩ := cP_of hC hcnt hp
  obtain ⟨d1, d2, d3, d4, d5⟩ := cP_of hC hcnt hq
  refine lp2 (PX4_meetings_L5 n_width n_first n_step n_kind n_columns p q _) (fun v w => ∃ i, i ≤ 720 ∧ w = nI i ∧ v = nI (sg i (fun a => sm 12 (mt S p q a)))) (fun _ w => 720 - w.toNatClampNeg) ?_ _ _ ⟨0, by omega, rfl, rfl⟩
  rintro f v w ⟨i, hi, ew, ev⟩ ih
  subst ew ev
  unfold PX4_meetings_L5
  refine ⟨fun c => ?_, fun c => ?_⟩ <;> rw [show (720 : Int32) = nI 720 from rfl, nI_leI (by omega) (by omega)] at c
  · obtain rfl : i = 720 := by omega
    exact h
  · rw [c1, c2, c3, c4, d1, d2, d3, d4]
    refine tC_pwanted a1 a2 a3 a4 a5 (by omega) a6 c5 ?_
    refine pX4_notDark (fun l hl => pw_lt Qp hl) ?_
    refine tC_pwanted b1 b2 b3 b4 b5 (by omega) b6 d5 ?_
    refine pX4_notDark (fun l hl => pw_lt Qq hl) ?_
    rw [l_and (fun l _ => dk_lt _ l) (fun l _ => dk_lt _ l)]
    have e : ∀ l, l < 12 → dk (pw (s_wd S p) (s_fs S p) (s_sp S p) (s_kd S p) (s_co S p) i) l &&& dk (pw (s_wd S q) (s_fs S q) (s_sp S q) (s_kd S q) (s_co S q) i) l = mt S p q i l := fun l _ => mt_and S p q i l
    rw [dg_congr e]
    refine pJ13_dk (fun l _ => ?_) ?_
    · unfold mt; split
      · omega
      · split <;> omega
    intro v1 e1 w1 f1
    rw [nI_add] at e1
    rw [nI_1] at f1
    refine ih _ _ ⟨i + 1, by omega, f1, e1⟩ ?_
    rw [f1, nI_clamp (by omega), nI_clamp (by omega)]
    omega
theorem sg_zero {f : Nat → Nat} : ∀ {n : Nat}, (∀ i, i < n → f i = 0) → sg n f = 0
  | 0, _ => rfl
  | n + 1, h => by
    show sg n f + f n = 0
    rw [sg_zero (n := n) fun i hi => h i (by omega), h n (by omega)]
