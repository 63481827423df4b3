/-! gaps -/
def cvc (S : AS) (a : Nat) : Nat → Nat
  | 0 => 0
  | n + 1 => if cvc S a n = 1 then 1 else if s_kd S n ≠ 2 ∧ ofs a (s_fs S n) < cvN (s_wd S n) (s_sp S n) then 1 else 0
theorem cvc_le (S : AS) (a : Nat) : ∀ n, cvc S a n ≤ 1
  | 0 => by show 0 ≤ 1; omega
  | n + 1 => by
    unfold cvc
    split
    · omega
    · split <;> omega
theorem cvc_up {S : AS} {a n : Nat} (h : cvc S a n = 1) : ∀ d, cvc S a (n + d) = 1
  | 0 => h
  | d + 1 => by
    show (if cvc S a (n + d) = 1 then 1 else _) = 1
    rw [if_pos (cvc_up h d)]
theorem tC_isCovered {T : Nat} {S : AS} {n_pictureCount n_angle n_speed n_ticks n_load n_secondArm : Int32} {n_settings : Nat → Int32} {n_working n_written : Nat → Int64} {n_writtenIn n_width n_first n_step n_kind : Nat → Int32} {n_columns : Nat → Nat → Int64} {a : Nat} {k : Int32 → Prop} (hS : okS T S) (hC : repC S n_pictureCount n_angle n_speed n_ticks n_load n_secondArm n_settings n_working n_written n_writtenIn n_width n_first n_step n_kind n_columns) (ha : a < 720) (h : k (nI (cvc S a (s_cnt S)))) : PX2_isCoveredAt n_pictureCount n_width n_first n_step n_kind (nI a) k := by
  have hcnt := hS.1
  have hpc := hC.1
  subst hpc
  unfold PX2_isCoveredAt
  refine lp1 (PX2_isCoveredAt_L1 (nI (s_cnt S)) n_width n_first n_step n_kind (nI a) k _) (fun v => ∃ i, i ≤ s_cnt S ∧ v = nI i ∧ cvc S a i = 0) (fun v => s_cnt S - v.toNatClampNeg) ?_ _ ⟨0, by omega, rfl, rfl⟩
  rintro g v ⟨i, hi, ev, hJ⟩ ih
  subst ev
  unfold PX2_isCoveredAt_L1
  refine ⟨fun c => ?_, fun c => ?_⟩ <;> rw [nI_leI (by omega) (by omega)] at c
  · obtain rfl : i = s_cnt S := by omega
    rw [hJ] at h
    exact h
  · have hp : i < s_cnt S := by omega
    obtain ⟨b1, b2, b3, b4, b5, b6, b7⟩ := okQ_of hS hp
    obtain ⟨d1, d2, d3, d4, d5⟩ := cP_of hC hcnt hp
    have hin : vp_in (nI i) 4 := vp_in_nI (by omega) (by decide)
    have nxt : ¬ (s_kd S i ≠ 2 ∧ ofs a (s_fs S i) < cvN (s_wd S i) (s_sp S i)) → ∀ v1 : Int32, v1 = nI i + (1 : Int32) → PX2_isCoveredAt_L1 (nI (s_cnt S)) n_width n_first n_step n_kind (nI a) k (fun v2_1 => (k (0 : Int32))) g v1 := by
      intro hne v1 f1
      rw [nI_1] at f1
      refine ih _ ⟨i + 1, by omega, f1, ?_⟩ (by rw [f1, nI_clamp (by omega), nI_clamp (by omega)]; omega)
      unfold cvc
      rw [if_neg (by omega), if_neg hne]
    refine ⟨hin, fun j hj ej => ?_⟩
    rw [nI_clamp (by omega)] at ej
    subst ej
    rw [d4]
    refine ⟨fun c2 => nxt (fun z => z.1 ((k_eq b6 (c := 2) (by omega)).mp c2)), fun c2 => ⟨hin, fun j2 hj2 ej2 => ?_⟩⟩
    rw [nI_clamp (by omega)] at ej2
    subst ej2
    have c3 : s_kd S i ≠ 2 := fun z => c2 ((k_eq b6 (c := 2) (by omega)).mpr z)
    rw [d1, d2, d3]
    refine tC_covers b2 b4 b5 ha (fun y => ⟨fun q => absurd q (by decide), fun _ => ?_⟩) (fun y => ⟨fun _ => nxt (fun z => y z.2), fun q => absurd rfl q⟩)
    have h1 : cvc S a (i + 1) = 1 := by
      unfold cvc
      rw [if_neg (by omega), if_pos ⟨c3, y⟩]
    have h2 := cvc_up h1 (s_cnt S - (i + 1))
    rw [show i + 1 + (s_cnt S - (i + 1)) = s_cnt S by omega] at h2
    rw [h2] at h
    exact h
/-- the angles at which an arm came by -/
def cm (sec : Nat) (P : Nat → Nat) (q : Nat) : Nat := if P q ≠ 0 ∨ (sec = 1 ∧ P (opp q) ≠ 0) then 1 else 0
theorem ang_form {pos : Bool} {a : Nat} (ha : a < 720) : ∀ i, ang pos a i = if pos then (a + i) % 720 else (a + 719 * i) % 720
  | 0 => by
    show a = _
    cases pos
    · rw [if_neg (by decide)]; omega
    · rw [if_pos rfl]; omega
  | i + 1 => by
    show stp pos (ang pos a i) = _
    rw [ang_form ha i]
    unfold stp
    cases pos
    · rw [if_neg (by decide), if_neg (by decide), if_neg (by decide)]; omega
    · rw [if_pos rfl, if_pos rfl, if_pos rfl]; omega
theorem ang_ne {pos : Bool} {a i N : Nat} (ha : a < 720) (hi : i < N) (hN : N ≤ 60) : ang pos a i ≠ ang pos a N := by
  rw [ang_form ha, ang_form ha]
  cases pos
  · rw [if_neg (by decide), if_neg (by decide)]; omega
  · rw [if_pos rfl, if_pos rfl]; omega
