/-! sums -/
def sg : Nat → (Nat → Nat) → Nat
  | 0, _ => 0
  | n + 1, f => sg n f + f n
theorem sg_congr : ∀ {n : Nat} {f g : Nat → Nat}, (∀ i, i < n → f i = g i) → sg n f = sg n g
  | 0, _, _, _ => rfl
  | n + 1, f, g, h => by
    show sg n f + f n = sg n g + g n
    rw [sg_congr (n := n) (fun i hi => h i (by omega)), h n (by omega)]
theorem sg_le {b : Nat} : ∀ {n : Nat} {f : Nat → Nat}, (∀ i, i < n → f i ≤ b) → sg n f ≤ n * b
  | 0, _, _ => by simp [sg]
  | n + 1, f, h => by
    have h1 := sg_le (n := n) (f := f) (fun i hi => h i (by omega))
    have h2 := h n (by omega)
    show sg n f + f n ≤ (n + 1) * b
    rw [Nat.succ_mul]
    omega
theorem sm12 (d : Nat → Nat) : sm 12 d = d 0 + (d 1 + (d 2 + (d 3 + (d 4 + (d 5 + (d 6 + (d 7 + (d 8 + (d 9 + (d 10 + (d 11 + 0))))))))))) := rfl
theorem sg12 (f : Nat → Nat) : ∀ n, sg (12 * n) f = sg n (fun c => sm 12 (fun l => f (12 * c + l)))
  | 0 => rfl
  | n + 1 => by
    show sg (12 * n + 12) f = sg n _ + sm 12 (fun l => f (12 * n + l))
    rw [← sg12 f n, sm12]
    show sg (12 * n) f + f (12 * n) + f (12 * n + 1) + f (12 * n + 2) + f (12 * n + 3) + f (12 * n + 4) + f (12 * n + 5) + f (12 * n + 6) + f (12 * n + 7) + f (12 * n + 8) + f (12 * n + 9) + f (12 * n + 10) + f (12 * n + 11) = sg (12 * n) f + (f (12 * n) + (f (12 * n + 1) + (f (12 * n + 2) + (f (12 * n + 3) + (f (12 * n + 4) + (f (12 * n + 5) + (f (12 * n + 6) + (f (12 * n + 7) + (f (12 * n + 8) + (f (12 * n + 9) + (f (12 * n + 10) + (f (12 * n + 11) + 0))))))))))))
    omega
theorem sm_dk_le (d : Nat → Nat) : sm 12 (dk d) ≤ 12 := by
  have := sm_le (b := 1) (n := 12) (d := dk d) (fun l _ => dk_le d l)
  omega
theorem tC_countNotDark {wd : Nat} {co : Nat → Nat → Nat} {cols : Nat → Int64} {k : Int32 → Prop} (h1 : wd ≤ 40) (hco : ∀ c l, c < 40 → l < 12 → co c l < 8) (hcols : ∀ c, c < 40 → cols c = lN (dg 8 12 (co c))) (h : k (nI (sg wd (fun c => sm 12 (dk (co c)))))) : PX0_countNotDark (nI wd) cols k := by
  unfold PX0_countNotDark
  refine lp2 (PX0_countNotDark_L1 (nI wd) cols _) (fun v w => ∃ i, i ≤ wd ∧ w = nI i ∧ v = nI (sg i (fun c => sm 12 (dk (co c))))) (fun _ w => wd - w.toNatClampNeg) ?_ _ _ ⟨0, by omega, rfl, rfl⟩
  rintro f v w ⟨i, hi, ew, ev⟩ ih
  subst ew ev
  unfold PX0_countNotDark_L1
  refine ⟨fun c => ?_, fun c => ?_⟩ <;> rw [nI_leI (by omega) (by omega)] at c
  · obtain rfl : i = wd := by omega
    exact h
  · refine ⟨vp_in_nI (by omega) (by decide), ?_⟩
    rw [nI_clamp (by omega), hcols i (by omega)]
    refine pX4_notDark (fun l hl => hco i l (by omega) hl) (pJ13_dk (fun l _ => dk_le _ l) ?_)
    intro v1 e1 w1 f1
    rw [nI_add] at e1
    rw [nI_1] at f1
    refine ih _ _ ⟨i + 1, by omega, f1, e1⟩ ?_
    rw [f1, nI_clamp (by omega), nI_clamp (by omega)]
    omega
theorem tM_bright {m : Nat → Int32} {p wd fs sp kd : Nat} {co : Nat → Nat → Nat} {k : Int32 → Prop} (hp : p < 4) (hm : mP m p wd fs sp kd co) (h1 : wd ≤ 40) (hco : ∀ c l, c < 40 → l < 12 → co c l < 8) (h : k (nI (sg wd (fun c => sm 12 (dk (co c)))))) : PX5_bright m (nI p) k := by
  unfold PX5_bright
  have hsum : sg (12 * wd) (fun i => dk (co (i / 12)) (i % 12)) = sg wd (fun c => sm 12 (dk (co c))) := by
    rw [sg12]
    refine sg_congr fun c hc => sm_congr fun l hl => ?_
    rw [show (12 * c + l) / 12 = c by omega, show (12 * c + l) % 12 = l by omega]
  rw [← hsum] at h
  refine lp2 (PX5_bright_L1 m (nI p) _) (fun v w => ∃ i, i ≤ 12 * wd ∧ w = nI i ∧ v = nI (sg i (fun i => dk (co (i / 12)) (i % 12)))) (fun _ w => 12 * wd - w.toNatClampNeg) ?_ _ _ ⟨0, by omega, rfl, rfl⟩
  rintro f v w ⟨i, hi, ew, ev⟩ ih
  subst ew ev
  unfold PX5_bright_L1
  refine tM_of0 hp ?_
  rw [hm.1, show (12 : Int32) = nI 12 from rfl, pk_mul]
  refine ⟨fun c => ?_, fun c => ?_⟩ <;> rw [nI_leI (by omega) (by omega)] at c
  · obtain rfl : i = 12 * wd := by omega
    exact h
  · rw [pk_div (by omega) (by omega) (by omega), pk_mul, pk_sub (by omega), show i - i / 12 * 12 = i % 12 by omega]
    refine tM_colorOf hp hm hco (by omega) (by omega) ?_
    have hlt := hco (i / 12) (i % 12) (by omega) (by omega)
    have nxt : ∀ d, d = dk (co (i / 12)) (i % 12) → ∀ v1 : Int32, v1 = nI (sg i (fun i => dk (co (i / 12)) (i % 12))) + nI d → ∀ w1 : Int32, w1 = nI i + (1 : Int32) → PX5_bright_L1 m (nI p) (fun v2_1 v3_2 => k v2_1) f v1 w1 := by
      intro d hd v1 e1 w1 f1
      rw [nI_add] at e1
      rw [nI_1] at f1
      refine ih _ _ ⟨i + 1, by omega, f1, by rw [e1, hd]; rfl⟩ ?_
      rw [f1, nI_clamp (by omega), nI_clamp (by omega)]
      omega
    refine ⟨fun c2 => nxt 1 ?_, fun c2 => nxt 0 ?_⟩
    · unfold dk
      rw [if_neg (fun z => c2 (by rw [z]; rfl))]
    · unfold dk
      rw [show (0 : Int32) = nI 0 from rfl, nI_eq (by omega) (by omega)] at c2
      rw [if_pos c2]
theorem sim_picture : SIM_picture RR := by
  intro l_oldest l_historySize l_text l_textLength n_pictureCount n_angle n_speed n_ticks n_load n_secondArm n_settings n_working n_written n_writtenIn n_width n_first n_step n_kind n_columns hist b_m b_written b_states b_fifth b_oldest b_stateCount b_text b_textLength a_1 a_2 hR
  obtain ⟨S, o, n, h, tl, tx, hS, hC, hM, hO, hHC, hHM, e1, e2, e3, e4, hT⟩ := id hR
  have hcnt := hS.1
  have hpc := hC.1
  subst hpc
  unfold PX4_picture PX5_picture
  refine pick4p hcnt (fun p hp ep => ⟨fun c => absurd c (by simp), fun j hj ej => ?_⟩) (fun c => ⟨fun _ => ?_, fun j _ ej => absurd ej (by simp)⟩)
  · obtain rfl : p = j := by simpa using ej
    subst ep
    obtain ⟨q1, q2, q3, q4, q5, q6, q7⟩ := okQ_of hS hp
    obtain ⟨c1, c2, c3, c4, c5⟩ := cP_of hC hcnt hp
    obtain hmp := mP_of hM hp
    have yes : ∀ {x : Nat} {k : Int32 → Prop}, x ≤ 5 → k 1 → PX5_in (nI x) 0 5 k := fun hx hk => yes5 (L := 0) (H := 5) (by decide) (by decide) (by omega) hx hk
    rw [c1, c2, c3, c4]
    refine ⟨fun c => ?_, fun ex => ?_, fun ex => ?_, fun ex => ?_, fun ex => ?_, fun ex => ?_, fun ex => ?_⟩
    · refine yes5p hM.1 hcnt hp ⟨fun c => absurd c (by decide), fun _ => ?_⟩
      exact no5 (A := 0) (B := 5) (by decide) (by decide) (by omega) ⟨fun q => absurd rfl q, fun _ => ⟨rfl, hR⟩⟩
    · subst ex
      refine yes5p hM.1 hcnt hp ⟨fun c => absurd c (by decide), fun _ => yes (x := 0) (by omega) ⟨fun _ => ⟨fun q => absurd q (by decide), fun _ => ?_⟩, fun q => absurd q (by decide)⟩⟩
      exact tM_of0 (by omega) ⟨hmp.1.symm, hR⟩
    · subst ex
      refine yes5p hM.1 hcnt hp ⟨fun c => absurd c (by decide), fun _ => yes (x := 1) (by omega) ⟨fun _ => ⟨fun q => absurd q (by decide), fun _ => ?_⟩, fun q => absurd q (by decide)⟩⟩
      exact tM_of1 (by omega) ⟨hmp.2.1.symm, hR⟩
    · subst ex
      refine yes5p hM.1 hcnt hp ⟨fun c => absurd c (by decide), fun _ => yes (x := 2) (by omega) ⟨fun _ => ⟨fun q => absurd q (by decide), fun _ => ?_⟩, fun q => absurd q (by decide)⟩⟩
      exact tM_of2 (by omega) ⟨hmp.2.2.1.symm, hR⟩
    · subst ex
      refine yes5p hM.1 hcnt hp ⟨fun c => absurd c (by decide), fun _ => yes (x := 3) (by omega) ⟨fun _ => ⟨fun q => absurd q (by decide), fun _ => ?_⟩, fun q => absurd q (by decide)⟩⟩
      exact tM_of3 (by omega) ⟨hmp.2.2.2.1.symm, hR⟩
    · subst ex
      refine tC_countNotDark q2 q7 c5 ?_
      refine yes5p hM.1 hcnt hp ⟨fun c => absurd c (by decide), fun _ => yes (x := 4) (by omega) ⟨fun _ => ⟨fun _ => ⟨fun q => absurd rfl q, fun _ => ?_⟩, fun q => absurd (show (4 : Int32) ≤ 4 by decide) q⟩, fun q => absurd q (by decide)⟩⟩
      exact tM_bright (by omega) hmp q2 q7 ⟨rfl, hR⟩
    · subst ex
      refine tC_coveredAngles q2 q4 ?_
      refine yes5p hM.1 hcnt hp ⟨fun c => absurd c (by decide), fun _ => yes (x := 5) (by omega) ⟨fun _ => ⟨fun _ => ⟨fun _ => ?_, fun q => absurd q (by decide)⟩, fun q => absurd (show (4 : Int32) ≤ 5 by decide) q⟩, fun q => absurd q (by decide)⟩⟩
      exact tM_covered (by omega) hmp q2 q4 ⟨rfl, hR⟩
  · exact no5p hM.1 hcnt c ⟨fun _ => ⟨rfl, hR⟩, fun q => absurd rfl q⟩
