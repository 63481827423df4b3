/-! pictures -/
theorem gpN_le (S : AS) (t : Nat) : gpN S t ≤ 720 := by
  have := sg_le (b := 1) (n := 720) (f := gp S (zS S (s_stg S 0) t).2.2.2) (fun q _ => by unfold gp; split <;> omega)
  unfold gpN
  omega
theorem met_le2 (S : AS) (p q : Nat) : met S p q ≤ 8640 := by
  have := sg_le (b := 12) (n := 720) (f := fun a => sm 12 (mt S p q a)) (fun a _ => by
    have := sm_le (b := 1) (n := 12) (d := mt S p q a) (fun l _ => mt_le1 S p q a l)
    omega)
  unfold met
  omega
theorem tL_pi2 {S : AS} {n : Nat} {h : Nat → AS} (hS : okS 5000 S) {A : Nat} (hA : A < 720) {kx : Int32 → Int32 → Prop} (hk : ∀ v5, kx (nI (cvc S A (s_cnt S))) v5) : ∃ f, PL_pictures_L2 (S, n, h) (nI (s_cnt S)) (nI A) kx f (0 : Int32) (0 : Int32) := by
  have hcnt := hS.1
  refine lp2 (PL_pictures_L2 (S, n, h) (nI (s_cnt S)) (nI A) kx) (fun v w => ∃ i, i ≤ s_cnt S ∧ w = nI i ∧ v = nI (cvc S A i)) (fun _ w => s_cnt S - w.toNatClampNeg) ?_ _ _ ⟨0, by omega, rfl, rfl⟩
  rintro f v w ⟨i, hi, ew, ev⟩ ih
  subst ew ev
  unfold PL_pictures_L2
  refine ⟨fun c => ?_, fun c => ?_⟩ <;> rw [nI_leI (by omega) (by omega)] at c
  · obtain rfl : i = s_cnt S := by omega
    exact hk _
  · have hp : i < s_cnt S := by omega
    have hle := cvc_le S A i
    obtain ⟨q1, q2, q3, q4, q5, q6, q7⟩ := okQ_of hS hp
    have nxt : ∀ d : Nat, d = cvc S A (i + 1) → ∀ w1 : Int32, w1 = nI i + (1 : Int32) → PL_pictures_L2 (S, n, h) (nI (s_cnt S)) (nI A) kx f (nI d) w1 := by
      intro d hd w1 f1
      rw [nI_1] at f1
      refine ih _ _ ⟨i + 1, by omega, f1, by rw [hd]⟩ ?_
      rw [f1, nI_clamp (by omega), nI_clamp (by omega)]
      omega
    have hz : nI (cvc S A i) = 0 ↔ cvc S A i = 0 := nI_eq (b := 0) (by omega) (by omega)
    refine ⟨fun c2 => ?_, fun c2 => ?_⟩ <;> rw [hz] at c2
    · unfold PL_pictures_J3
      refine nxt 1 ?_
      unfold cvc
      rw [if_pos (by omega)]
    · have e1 : ¬ cvc S A i = 1 := by omega
      have zero : ¬ (s_kd S i ≠ 2 ∧ ofs A (s_fs S i) < cvN (s_wd S i) (s_sp S i)) → PL_pictures_J4 (PL_pictures_L2 (S, n, h) (nI (s_cnt S)) (nI A) kx f) (nI i) := by
        intro z
        unfold PL_pictures_J4
        refine nxt 0 ?_
        unfold cvc
        rw [if_neg e1, if_neg z]
      refine tA_picture3 hp ⟨fun c3 => zero fun z => z.1 ((k_eq q6 (c := 2) (by omega)).mp c3), fun c3 => tA_columnAt hp hA (fun y => ⟨fun c4 => ?_, fun _ => ?_⟩) (fun y => ⟨fun _ => zero fun z => y z.2, fun c4 => absurd rfl c4⟩)⟩
      · have hcl := (clN_lt (kd := s_kd S i) y).1
        have hI := i_nI (n := clN (s_wd S i) (s_fs S i) (s_sp S i) (s_kd S i) A) (by omega)
        rw [c4] at hI
        have : (-109 : Int32).toInt = -109 := by decide
        omega
      · unfold PL_pictures_J3
        refine nxt 1 ?_
        unfold cvc
        rw [if_neg e1, if_pos ⟨fun z => c3 ((k_eq q6 (c := 2) (by omega)).mpr z), y⟩]
theorem tL_pi7 {S : AS} {n : Nat} {h : Nat → AS} (hS : okS 5000 S) {p : Nat} (hp : p < s_cnt S) {k : Int32 → VS → Prop} {kx : Int32 → Int32 → Prop} (hk : ∀ v6, kx (nI (cvN (s_wd S p) (s_sp S p))) v6) : ∃ f, PL_pictures_L7 (S, n, h) k (nI p) (nI (s_wd S p)) kx f (0 : Int32) (0 : Int32) := by
  have hcnt := hS.1
  obtain ⟨q1, q2, q3, q4, q5, q6, q7⟩ := okQ_of hS hp
  have hb : ∀ i, i ≤ 720 → sg i (fun a => if ofs a (s_fs S p) < cvN (s_wd S p) (s_sp S p) then 1 else 0) ≤ 720 := fun i hi => by
    have := sg_le (b := 1) (n := i) (f := fun a => if ofs a (s_fs S p) < cvN (s_wd S p) (s_sp S p) then 1 else 0) (fun a _ => by split <;> omega)
    omega
  refine lp2 (PL_pictures_L7 (S, n, h) k (nI p) (nI (s_wd S p)) kx) (fun v w => ∃ i, i ≤ 720 ∧ w = nI i ∧ v = nI (sg i (fun a => if ofs a (s_fs S p) < cvN (s_wd S p) (s_sp S p) then 1 else 0))) (fun _ w => 720 - w.toNatClampNeg) ?_ _ _ ⟨0, by omega, rfl, rfl⟩
  rintro f v w ⟨i, hi, ew, ev⟩ ih
  subst ew ev
  unfold PL_pictures_L7
  refine ⟨fun c => ?_, fun c => ?_⟩ <;> rw [show (720 : Int32) = nI 720 from rfl, nI_leI (by omega) (by omega)] at c
  · obtain rfl : i = 720 := by omega
    rw [cov_sum (by omega) (cvN_le _ _)]
    exact hk _
  · have hi7 : i < 720 := by omega
    have nxt : ∀ d : Nat, d = (if ofs i (s_fs S p) < cvN (s_wd S p) (s_sp S p) then 1 else 0) → ∀ v1 : Int32, v1 = nI (sg i (fun a => if ofs a (s_fs S p) < cvN (s_wd S p) (s_sp S p) then 1 else 0)) + nI d → ∀ w1 : Int32, w1 = nI i + (1 : Int32) → PL_pictures_L7 (S, n, h) k (nI p) (nI (s_wd S p)) kx f v1 w1 := by
      intro d hd v1 e1 w1 f1
      rw [nI_1] at f1
      rw [nI_add] at e1
      refine ih _ _ ⟨i + 1, by omega, f1, by rw [e1, hd]; rfl⟩ ?_
      rw [f1, nI_clamp (by omega), nI_clamp (by omega)]
      omega
    refine tA_columnAt hp hi7 (fun y => ?_) (fun y => ⟨fun c2 => absurd rfl c2, fun _ => ?_⟩)
    · have hcl := (clN_lt (kd := s_kd S p) y).1
      have hne : ¬ nI (clN (s_wd S p) (s_fs S p) (s_sp S p) (s_kd S p) i) = (-109 : Int32) := by
        intro c4
        have hI := i_nI (n := clN (s_wd S p) (s_fs S p) (s_sp S p) (s_kd S p) i) (by omega)
        rw [c4] at hI
        have : (-109 : Int32).toInt = -109 := by decide
        omega
      refine ⟨fun _ => ?_, fun c2 => absurd c2 hne⟩
      unfold PL_pictures_J8
      intro v1 e1
      refine ⟨fun c2 => absurd c2 hne, fun _ => ⟨fun c2 => absurd c2 (nI_nlt (b := 0) (by omega) (by omega)), fun _ => ⟨fun _ => nxt 1 (by rw [if_pos y]) v1 e1, fun c2 => absurd (nI_lt hcl (by omega)) c2⟩⟩⟩
    · unfold PL_pictures_J8
      intro v1 e1
      exact ⟨fun _ => nxt 0 (by rw [if_neg y]) v1 e1, fun c2 => absurd rfl c2⟩
theorem tL_pi10 {S : AS} {n : Nat} {h : Nat → AS} (hS : okS 5000 S) {p : Nat} (hp : p < s_cnt S) {k : Int32 → VS → Prop} {kx : Int32 → Prop} (hk : ∀ v, kx v) : ∃ f, PL_pictures_L10 (S, n, h) k (nI (s_cnt S)) (nI p) (nI (cvN (s_wd S p) (s_sp S p))) kx f (0 : Int32) := by
  have hcnt := hS.1
  obtain ⟨q1, q2, q3, q4, q5, q6, q7⟩ := okQ_of hS hp
  refine lp1 (PL_pictures_L10 (S, n, h) k (nI (s_cnt S)) (nI p) (nI (cvN (s_wd S p) (s_sp S p))) kx) (fun w => ∃ i, i ≤ s_cnt S ∧ w = nI i) (fun w => s_cnt S - w.toNatClampNeg) ?_ _ ⟨0, by omega, rfl⟩
  rintro f w ⟨i, hi, ew⟩ ih
  subst ew
  unfold PL_pictures_L10
  refine ⟨fun c => hk _, fun c => ?_⟩
  rw [nI_leI (by omega) (by omega)] at c
  have hi2 : i < s_cnt S := by omega
  have nxt : ∀ w1 : Int32, w1 = nI i + (1 : Int32) → PL_pictures_L10 (S, n, h) k (nI (s_cnt S)) (nI p) (nI (cvN (s_wd S p) (s_sp S p))) kx f w1 := by
    intro w1 f1
    rw [nI_1] at f1
    exact ih _ ⟨i + 1, by omega, f1⟩ (by rw [f1, nI_clamp (by omega), nI_clamp (by omega)]; omega)
  have hip : nI i = nI p ↔ i = p := nI_eq (by omega) (by omega)
  unfold PL_pictures_J11
  refine ⟨fun c2 => ?_, fun c2 => ⟨fun _ => nxt, fun c3 => absurd c2 c3⟩⟩
  have hne : i ≠ p := fun z => c2 (hip.mpr z)
  have hm1 := met_le (S := S) (p := p) (q := i) (by omega)
  have hm2 := met_le2 S p i
  have hcv := cvN_le (s_wd S p) (s_sp S p)
  have hz : nI (met S p i) = 0 ↔ met S p i = 0 := nI_eq (b := 0) (by omega) (by omega)
  refine tA_meetings hp hi2 (fun z => hne z.symm) ⟨fun c3 => absurd c3 c2, fun _ => tA_meetings hi2 hp hne ?_⟩
  show ((¬ nI (met S p i) = nI (met S i p) → _) ∧ (nI (met S p i) = nI (met S i p) → ((nI (met S p i) < 0 → _) ∧ (¬ nI (met S p i) < 0 → (((12 : Int32) * nI (cvN (s_wd S p) (s_sp S p)) < nI (met S p i) → _) ∧ (¬ (12 : Int32) * nI (cvN (s_wd S p) (s_sp S p)) < nI (met S p i) → _))))))
  have hb := bri_le S p
  refine ⟨fun c3 => absurd (by rw [met_sym]) c3, fun _ => ⟨fun c3 => absurd c3 (nI_nlt (b := 0) (by omega) (by omega)), fun _ => ⟨fun c3 => ?_, fun _ => tA_picture3 hp ⟨fun c4 => ?_, fun c4 => tA_picture4 hp ⟨fun _ => nxt, fun c5 => ?_⟩⟩⟩⟩⟩
  · rw [show (12 : Int32) = nI 12 from rfl, pk_mul] at c3
    exact absurd c3 (nI_nlt (by omega) (by omega))
  · unfold PL_pictures_J12
    exact ⟨fun _ => nxt, fun c5 => absurd (hz.mpr (met_zero (Or.inl ((k_eq q6 (c := 2) (by omega)).mp c4)))) c5⟩
  · unfold PL_pictures_J12
    have c5' : nI (bri S p) = 0 := c5
    have e0 : bri S p = 0 := (nI_eq (b := 0) (by omega) (by omega)).mp c5'
    exact ⟨fun _ => nxt, fun c6 => absurd (hz.mpr (met_zero (Or.inr e0))) c6⟩
theorem tL_pi6 {S : AS} {n : Nat} {h : Nat → AS} (hS : okS 5000 S) {k : Int32 → VS → Prop} {kx : Int32 → Prop} (hk : ∀ v, kx v) : ∃ f, PL_pictures_L6 (S, n, h) k (nI (s_cnt S)) kx f (0 : Int32) := by
  have hcnt := hS.1
  refine lp1 (PL_pictures_L6 (S, n, h) k (nI (s_cnt S)) kx) (fun w => ∃ i, i ≤ s_cnt S ∧ w = nI i) (fun w => s_cnt S - w.toNatClampNeg) ?_ _ ⟨0, by omega, rfl⟩
  rintro f w ⟨p, hi, ew⟩ ih
  subst ew
  unfold PL_pictures_L6
  refine ⟨fun c => hk _, fun c => ?_⟩
  rw [nI_leI (by omega) (by omega)] at c
  have hp : p < s_cnt S := by omega
  obtain ⟨q1, q2, q3, q4, q5, q6, q7⟩ := okQ_of hS hp
  have nxt : ∀ w1 : Int32, w1 = nI p + (1 : Int32) → PL_pictures_L6 (S, n, h) k (nI (s_cnt S)) kx f w1 := by
    intro w1 f1
    rw [nI_1] at f1
    exact ih _ ⟨p + 1, by omega, f1⟩ (by rw [f1, nI_clamp (by omega), nI_clamp (by omega)]; omega)
  refine tA_picture0 hp (tL_pi7 hS hp fun v6 => tA_picture1 hp ?_)
  have e0 : ofs (s_fs S p) (s_fs S p) = 0 := by unfold ofs; omega
  have hpos : 1 ≤ s_wd S p * s_sp S p := Nat.mul_le_mul q1 q3
  have hcov : ofs (s_fs S p) (s_fs S p) < cvN (s_wd S p) (s_sp S p) := by
    rw [e0]
    unfold cvN
    split <;> omega
  have hb := bri_le S p
  have j9 : ∀ t : Int32, nI (clN (s_wd S p) (s_fs S p) (s_sp S p) (s_kd S p) (s_fs S p)) = t → PL_pictures_J9 (S, n, h) k (nI (s_cnt S)) (PL_pictures_L6 (S, n, h) k (nI (s_cnt S)) kx f) (nI p) (nI (s_wd S p)) (nI (cvN (s_wd S p) (s_sp S p))) (nI (clN (s_wd S p) (s_fs S p) (s_sp S p) (s_kd S p) (s_fs S p))) t := by
    intro t ht
    unfold PL_pictures_J9
    refine ⟨fun c2 => absurd ht c2, fun _ => tA_picture4 hp ?_⟩
    show ((nI (bri S p) < 0 → _) ∧ (¬ nI (bri S p) < 0 → _))
    refine ⟨fun c2 => absurd c2 (nI_nlt (b := 0) (by omega) (by omega)), fun _ => tA_picture4 hp ?_⟩
    show ((nI (bri S p) ≤ (12 : Int32) * nI (s_wd S p) → _) ∧ (¬ nI (bri S p) ≤ (12 : Int32) * nI (s_wd S p) → _))
    rw [show (12 : Int32) = nI 12 from rfl, pk_mul]
    exact ⟨fun _ => tL_pi10 hS hp fun _ => nxt, fun c2 => absurd ((nI_leI (by omega) (by omega)).mpr hb) c2⟩
  refine tA_columnAt hp q5 (fun _ => tA_picture5 hp ⟨fun c2 => absurd rfl c2, fun _ => tA_picture3 hp ⟨fun c2 => j9 _ ?_, fun c2 => j9 _ ?_⟩⟩) (fun y => absurd hcov y)
  · unfold clN
    rw [if_neg (fun z => c2 ((k_eq q6 (c := 1) (by omega)).mpr z)), e0, Nat.zero_div]
    rfl
  · unfold clN
    rw [if_pos ((k_eq q6 (c := 1) (by omega)).mp c2), e0, Nat.zero_div]
    exact (pk_sub (b := 1) q1).symm
theorem cvs_le {S : AS} (i : Nat) (hi : i ≤ 720) : sg i (fun a => cvc S a (s_cnt S)) ≤ 720 := by
  have := sg_le (b := 1) (n := i) (f := fun a => cvc S a (s_cnt S)) (fun a _ => cvc_le S a _)
  omega
theorem tL_pi1 {S : AS} {n : Nat} {h : Nat → AS} (hS : okS 5000 S) {kx : Int32 → Int32 → Prop} (hk : ∀ v3, kx (nI (sg 720 (fun a => cvc S a (s_cnt S)))) v3) : ∃ f, PL_pictures_L1 (S, n, h) (nI (s_cnt S)) kx f (0 : Int32) (0 : Int32) := by
  have hcnt := hS.1
  refine lp2 (PL_pictures_L1 (S, n, h) (nI (s_cnt S)) kx) (fun v w => ∃ i, i ≤ 720 ∧ w = nI i ∧ v = nI (sg i (fun a => cvc S a (s_cnt S)))) (fun _ w => 720 - w.toNatClampNeg) ?_ _ _ ⟨0, by omega, rfl, rfl⟩
  rintro f v w ⟨i, hi, ew, ev⟩ ih
  subst ew ev
  unfold PL_pictures_L1
  refine ⟨fun c => ?_, fun c => ?_⟩ <;> rw [show (720 : Int32) = nI 720 from rfl, nI_leI (by omega) (by omega)] at c
  · obtain rfl : i = 720 := by omega
    exact hk _
  · have hi7 : i < 720 := by omega
    have hle := cvc_le S i (s_cnt S)
    refine tL_pi2 hS hi7 fun v5 => ?_
    have hz : nI (cvc S i (s_cnt S)) = 0 ↔ cvc S i (s_cnt S) = 0 := nI_eq (b := 0) (by omega) (by omega)
    have nxt : ∀ d : Nat, d = cvc S i (s_cnt S) → PL_pictures_J5 (PL_pictures_L1 (S, n, h) (nI (s_cnt S)) kx f) (nI (sg i (fun a => cvc S a (s_cnt S)))) (nI i) (nI d) := by
      intro d hd
      unfold PL_pictures_J5
      intro v1 e1 w1 f1
      rw [nI_1] at f1
      rw [nI_add] at e1
      refine ih _ _ ⟨i + 1, by omega, f1, by rw [e1, hd]; rfl⟩ ?_
      rw [f1, nI_clamp (by omega), nI_clamp (by omega)]
      omega
    exact ⟨fun c2 => nxt 0 (hz.mp c2).symm, fun c2 => nxt 1 (by have : ¬ cvc S i (s_cnt S) = 0 := fun z => c2 (hz.mpr z); omega)⟩
theorem tL_pictures {S : AS} {n : Nat} {h : Nat → AS} (hS : okS 5000 S) {k : Int32 → VS → Prop} (hk : k 1 (S, n, h)) : PL_pictures (S, n, h) k := by
  have hcnt := hS.1
  have hb := cvs_le (S := S)
  unfold PL_pictures
  refine tA_count0 (tL_pi1 hS fun _ => ?_)
  have g0 := gpN_0 S
  have g3 := gpN_mono S 0 3
  have g40 := gpN_mono S 3 37
  have b0 := gpN_le S 0
  have b3 := gpN_le S 3
  have b40 := gpN_le S 40
  have e3 : gpN S (0 + 3) = gpN S 3 := rfl
  have e40 : gpN S (3 + 37) = gpN S 40 := rfl
  refine tL_pi6 hS fun _ => tA_gaps (x := 3) (by omega) (tA_gaps (x := 0) (by omega) ?_)
  rw [← g0]
  show ((¬ nI (gpN S 0) = nI (gpN S 0) → _) ∧ (nI (gpN S 0) = nI (gpN S 0) → ((nI (gpN S 0) < nI (gpN S 3) → _) ∧ (¬ nI (gpN S 0) < nI (gpN S 3) → _))))
  refine ⟨fun c2 => absurd rfl c2, fun _ => ⟨fun c2 => absurd c2 (nI_nlt (by omega) (by omega)), fun _ => tA_gaps (x := 40) (by omega) ?_⟩⟩
  show ((nI (gpN S 3) < nI (gpN S 40) → _) ∧ (¬ nI (gpN S 3) < nI (gpN S 40) → _))
  refine ⟨fun c2 => absurd c2 (nI_nlt (by omega) (by omega)), fun _ => tA_count5 ?_⟩
  have l5 := litC_le S
  have l6 := sg_le (b := 12) (n := 720) (f := fun a => sm 12 (dk (fun l => litS S 0 a l ^^^ wantS S a l))) (fun c _ => sm_dk_le _)
  show (((8640 : Int32) < nI (litC S) → _) ∧ (¬ (8640 : Int32) < nI (litC S) → _))
  exact ⟨fun c2 => absurd c2 (nI_nlt (a := 8640) (by omega) (by omega)), fun _ => tA_count6 ⟨fun c2 => absurd c2 (nI_nlt (a := 8640) (by omega) (by omega)), fun _ => hk⟩⟩
