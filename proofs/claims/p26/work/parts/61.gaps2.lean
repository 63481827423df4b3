def gp (S : AS) (P : Nat → Nat) (q : Nat) : Nat := if cm (s_sec S) P q = 0 ∧ cvc S q (s_cnt S) = 1 then 1 else 0
theorem tC_gapsL {T : Nat} {S : AS} {n_pictureCount n_angle n_speed n_ticks n_load n_secondArm : Int32} {n_settings : Nat → Int32} {n_working n_written : Nat → Int64} {n_writtenIn n_width n_first n_step n_kind : Nat → Int32} {n_columns : Nat → Nat → Int64} {P : Nat → Nat} {wp : Nat → Int32} {k : Int32 → Prop} (hS : okS T S) (hC : repC S n_pictureCount n_angle n_speed n_ticks n_load n_secondArm n_settings n_working n_written n_writtenIn n_width n_first n_step n_kind n_columns) (hP : ∀ q, P q ≤ 1000) (hwp : ∀ q, q < 720 → wp q = nI (P q)) (h : k (nI (sg 720 (gp S P)))) : ∃ n_1, PX4_gaps_L1 n_pictureCount n_width n_first n_step n_kind (nI (s_sec S)) wp (fun v2_19 v3_20 => k v2_19) n_1 (0 : Int32) (0 : Int32) := by
  have ksec := hS.2.2.2.2.1
  refine lp2 (PX4_gaps_L1 n_pictureCount n_width n_first n_step n_kind (nI (s_sec S)) wp _) (fun v w => ∃ i, i ≤ 720 ∧ w = nI i ∧ v = nI (sg i (gp S P))) (fun _ w => 720 - w.toNatClampNeg) ?_ _ _ ⟨0, by omega, rfl, rfl⟩
  rintro f v w ⟨i, hi, ew, ev⟩ ih
  subst ew ev
  unfold PX4_gaps_L1
  refine ⟨fun c => ?_, fun c => ?_⟩ <;> rw [show (720 : Int32) = nI 720 from rfl, nI_leI (by omega) (by omega)] at c
  · obtain rfl : i = 720 := by omega
    exact h
  · have hi7 : i < 720 := by omega
    have ho := opp_lt i
    have hPi := hP i
    have hPo := hP (opp i)
    have nxt0 : gp S P i = 0 → ∀ w1 : Int32, w1 = nI i + (1 : Int32) → PX4_gaps_L1 n_pictureCount n_width n_first n_step n_kind (nI (s_sec S)) wp (fun v2_19 v3_20 => k v2_19) f (nI (sg i (gp S P))) w1 := by
      intro h0 w1 f1
      rw [nI_1] at f1
      refine ih _ _ ⟨i + 1, by omega, f1, ?_⟩ (by rw [f1, nI_clamp (by omega), nI_clamp (by omega)]; omega)
      show nI (sg i (gp S P)) = nI (sg i (gp S P) + gp S P i)
      rw [h0]
      rfl
    have pos0 : ∀ {x : Nat}, x ≤ 1000 → ((0 : Int32) < nI x ↔ 0 < x) := fun hx => nI_ltI (a := 0) (by omega) (by omega)
    unfold PX3_firstArmAt
    rw [nI_clamp (by omega), hwp i hi7]
    refine ⟨vp_in_nI hi7 (by decide), fun c2 => nxt0 ?_, fun c2 => ?_⟩ <;> rw [pos0 hPi] at c2
    · unfold gp cm
      rw [if_pos (Or.inl (by omega)), if_neg (by omega)]
    · have last : ∀ x : Nat, x ≤ 1000 → x = (if s_sec S = 1 then P (opp i) else 0) → ((nI x ≤ 0 → PX2_isCoveredAt n_pictureCount n_width n_first n_step n_kind (nI i) (fun r103_29 => ((r103_29 = 0 → (∀ v3_31 : Int32, v3_31 = nI i + (1 : Int32) → PX4_gaps_L1 n_pictureCount n_width n_first n_step n_kind (nI (s_sec S)) wp (fun v2_19 v3_20 => k v2_19) f (nI (sg i (gp S P))) v3_31)) ∧ (¬ r103_29 = 0 → (∀ v2_32 : Int32, v2_32 = nI (sg i (gp S P)) + (1 : Int32) → (∀ v3_33 : Int32, v3_33 = nI i + (1 : Int32) → PX4_gaps_L1 n_pictureCount n_width n_first n_step n_kind (nI (s_sec S)) wp (fun v2_19 v3_20 => k v2_19) f v2_32 v3_33)))))) ∧ (¬ nI x ≤ 0 → (∀ v3_35 : Int32, v3_35 = nI i + (1 : Int32) → PX4_gaps_L1 n_pictureCount n_width n_first n_step n_kind (nI (s_sec S)) wp (fun v2_19 v3_20 => k v2_19) f (nI (sg i (gp S P))) v3_35))) := by
        intro x hx ex
        have hz : nI x ≤ (0 : Int32) ↔ x ≤ 0 := nI_leI (b := 0) (by omega) (by omega)
        refine ⟨fun c3 => ?_, fun c3 => nxt0 ?_⟩ <;> rw [hz] at c3
        · have hcm : cm (s_sec S) P i = 0 := by
            unfold cm
            refine if_neg fun z => ?_
            rcases z with z | z
            · omega
            · rw [if_pos z.1] at ex
              exact z.2 (by omega)
          have hle := cvc_le S i (s_cnt S)
          refine tC_isCovered hS hC hi7 ⟨fun c4 => nxt0 ?_, fun c4 v1 e1 w1 f1 => ?_⟩ <;> rw [show (0 : Int32) = nI 0 from rfl, nI_eq (by omega) (by omega)] at c4
          · unfold gp
            rw [if_neg (by omega)]
          · rw [nI_1] at e1 f1
            refine ih _ _ ⟨i + 1, by omega, f1, e1.trans (congrArg nI ?_)⟩ (by rw [f1, nI_clamp (by omega), nI_clamp (by omega)]; omega)
            show sg i (gp S P) + 1 = sg i (gp S P) + gp S P i
            have : gp S P i = 1 := by
              unfold gp
              rw [if_pos ⟨hcm, by omega⟩]
            omega
        · have hcm : cm (s_sec S) P i = 1 := by
            unfold cm
            refine if_pos (Or.inr ?_)
            by_cases z : s_sec S = 1
            · rw [if_pos z] at ex
              exact ⟨z, by omega⟩
            · rw [if_neg z] at ex
              omega
          unfold gp
          rw [if_neg (by omega)]
      unfold PX3_secondArmAt PX3_opposite
      rw [opp_I i hi7]
      refine ⟨fun c3 => ?_, fun c3 => ⟨vp_in_nI ho (by decide), ?_⟩⟩
      · have z : s_sec S = 0 := (nI_eq (b := 0) (by omega) (by omega)).mp c3
        exact last 0 (by omega) (by rw [if_neg (by omega)])
      · have z : s_sec S = 1 := by
          have : ¬ s_sec S = 0 := fun z => c3 (by rw [z]; rfl)
          omega
        rw [nI_clamp (by omega), hwp _ ho]
        exact last _ hPo (by rw [if_pos z])
