/-! bestSpeed -/
def rt (S : AS) (n : Nat) (P : Nat → Nat) (a l : Nat) : Nat := if n - gN S < hit (s_wk S) (s_sec S) P a l ∨ litS S n a l = wantS S a l then 1 else 0
def Rn (S : AS) (n : Nat) (P : Nat → Nat) : Nat := sg 8640 (fun q => if litN (s_tck S + n) (gN S) (wiP S P) (wcP S P) q = wantS S (q / 12) (q % 12) then 1 else 0)
theorem rt_eq {T : Nat} {S : AS} {n : Nat} {P : Nat → Nat} {a l : Nat} (hS : okS T S) (ha : a < 720) (hl : l < 12) : rt S n P a l = if gl (s_tck S + n) (gN S) (wiP S P a l) (wcP S P a l) = wantS S a l then 1 else 0 := by
  have hg := gN_lt hS.2.2.2.2.2.1
  have hwi := hS.2.2.2.2.2.2.2.2.2.2 a l ha hl
  unfold rt litS wiP wcP
  generalize hit (s_wk S) (s_sec S) P a l = H
  generalize wantS S a l = W
  by_cases z : H = 0
  · rw [if_pos z, if_pos z]
    have e : (n - gN S < H ∨ gl (s_tck S + n) (gN S) (s_wi S a l) (s_wc S a l) = W) ↔ gl (s_tck S + n) (gN S) (s_wi S a l) (s_wc S a l) = W := ⟨fun h => h.elim (fun q => by omega) id, Or.inr⟩
    by_cases y : gl (s_tck S + n) (gN S) (s_wi S a l) (s_wc S a l) = W
    · rw [if_pos (e.mpr y), if_pos y]
    · rw [if_neg (fun q => y (e.mp q)), if_neg y]
  · rw [if_neg z, if_neg z]
    unfold gl
    by_cases y : n - gN S < H
    · rw [if_pos (Or.inl y), if_pos (show s_tck S + H ≠ 0 ∧ s_tck S + n < s_tck S + H + gN S by omega), if_pos rfl]
    · rw [if_neg (show ¬ (s_tck S + H ≠ 0 ∧ s_tck S + n < s_tck S + H + gN S) by omega), if_neg (show ¬ (s_wi S a l ≠ 0 ∧ s_tck S + n < s_wi S a l + gN S) by omega)]
      by_cases x : 0 = W
      · rw [if_pos (Or.inr x), if_pos x]
      · rw [if_neg (fun q => q.elim y x), if_neg x]
theorem rt_sum {T : Nat} {S : AS} {n : Nat} {P : Nat → Nat} (hS : okS T S) : sg 720 (fun a => sm 12 (rt S n P a)) = Rn S n P := by
  unfold Rn
  rw [show (8640 : Nat) = 12 * 720 from rfl, sg12]
  refine sg_congr fun c hc => sm_congr fun l hl => ?_
  rw [rt_eq hS hc hl]
  unfold litN
  rw [show (12 * c + l) / 12 = c by omega, show (12 * c + l) % 12 = l by omega]
theorem or3 {A B E H : Prop} [Decidable A] [Decidable B] [Decidable E] [Decidable H] {w0 w1 : Nat} (h0 : w0 ≤ 1) (h1 : w1 ≤ 1) (hH : H ↔ (A ∧ w0 = 1) ∨ (B ∧ w1 = 1)) : ((if A then w0 else 0) ||| (if B then w1 else 0)) ||| (if E then 1 else 0) = if H ∨ E then 1 else 0 := by
  rcases (show w0 = 0 ∨ w0 = 1 by omega) with y0 | y0 <;> rcases (show w1 = 0 ∨ w1 = 1 by omega) with y1 | y1 <;> subst y0 <;> subst y1 <;> by_cases a : A <;> by_cases b : B <;> by_cases e : E <;> simp [hH, a, b, e]
theorem tC_countRight {T : Nat} {S : AS} {n_pictureCount n_angle n_speed n_ticks n_load n_secondArm : Int32} {n_settings : Nat → Int32} {n_working n_written : Nat → Int64} {n_writtenIn n_width n_first n_step n_kind : Nat → Int32} {n_columns : Nat → Nat → Int64} {n : Nat} {P : Nat → Nat} {ra : Nat → Int64} {wp : Nat → Int32} {k : Int32 → Prop} (hS : okS T S) (hC : repC S n_pictureCount n_angle n_speed n_ticks n_load n_secondArm n_settings n_working n_written n_writtenIn n_width n_first n_step n_kind n_columns) (hn : n ≤ 40) (hP : ∀ q, P q ≤ 1000) (hwp : ∀ q, q < 720 → wp q = nI (P q)) (hra : ∀ a, a < 720 → ra a = lN (dg 8 12 (fun l => if litS S n a l = wantS S a l then 1 else 0)))
    (h : k (nI (Rn S n P))) : PX4_countRight ra wp (nI (s_sec S)) n_settings n_working (nI n) k := by
  obtain ⟨-, -, -, -, -, -, cG, ⟨cW, -, -⟩, -⟩ := hC
  have kG := hS.2.2.2.2.2.1
  have hg := gN_lt kG
  have ksec := hS.2.2.2.2.1
  have hb : ∀ a l, a < 2 → l < 12 → s_wk S a l ≤ 1 := hS.2.2.2.2.2.2.2.2.1
  rw [← rt_sum hS] at h
  unfold PX4_countRight
  intro v ev
  have hst := stale_eq (t := n) (x := 0) (g := gN S) (by omega) (by omega) (by omega)
  rw [nI_add, Nat.add_zero] at hst
  rw [gN_C kG cG, hst] at ev
  subst ev
  refine lp2 (PX4_countRight_L1 ra wp (nI (s_sec S)) n_working (nI (n - gN S)) _) (fun v w => ∃ i, i ≤ 720 ∧ w = nI i ∧ v = nI (sg i (fun a => sm 12 (rt S n P a)))) (fun _ w => 720 - w.toNatClampNeg) ?_ _ _ ⟨0, by omega, rfl, rfl⟩
  rintro f v w ⟨i, hi, ew, ev⟩ ih
  subst ew ev
  unfold PX4_countRight_L1
  refine ⟨fun c => ?_, fun c => ?_⟩ <;> rw [show (720 : Int32) = nI 720 from rfl, nI_leI (by omega) (by omega)] at c
  · obtain rfl : i = 720 := by omega
    exact h
  · have hi7 : i < 720 := by omega
    have ho := opp_lt i
    have hPi := hP i
    have hPo := hP (opp i)
    have hin : vp_in (nI i) 720 := vp_in_nI hi7 (by decide)
    have b1 : ∀ {x : Nat}, x ≤ 1 → x < 8 := fun h => by omega
    have fin : ∀ d0 d1 : Nat → Nat, (∀ l, l < 12 → d0 l = if n - gN S < P i then s_wk S 0 l else 0) → (∀ l, l < 12 → d1 l = if s_sec S = 1 ∧ n - gN S < P (opp i) then s_wk S 1 l else 0) → ∀ x0 x1 : Int64, x0 = lN (dg 8 12 d0) → x1 = lN (dg 8 12 d1) → (vp_in (nI i) 720 ∧ PJ13_bitCount_95d88 ((x0 ||| x1) ||| (ra (Int32.toNatClampNeg (nI i)))) (fun r99_10 => (∀ v3_11 : Int32, v3_11 = (nI (sg i (fun a => sm 12 (rt S n P a))) + r99_10) → (∀ v4_12 : Int32, v4_12 = nI i + (1 : Int32) → PX4_countRight_L1 ra wp (nI (s_sec S)) n_working (nI (n - gN S)) (fun v3_2 v4_3 => (k v3_2)) f v3_11 v4_12)))) := by
      intro d0 d1 h0 h1 x0 x1 e0 e1
      have k0 : ∀ l, l < 12 → d0 l ≤ 1 := fun l hl => by rw [h0 l hl]; have := hb 0 l (by omega) hl; split <;> omega
      have k1 : ∀ l, l < 12 → d1 l ≤ 1 := fun l hl => by rw [h1 l hl]; have := hb 1 l (by omega) hl; split <;> omega
      have k2 : ∀ l, l < 12 → (if litS S n i l = wantS S i l then 1 else 0) ≤ 1 := fun l hl => by split <;> omega
      have k01 : ∀ l, l < 12 → d0 l ||| d1 l < 2 := fun l hl => Nat.or_lt_two_pow (n := 1) (by have := k0 l hl; omega) (by have := k1 l hl; omega)
      rw [nI_clamp (by omega), e0, e1, hra i hi7, l_or (fun l hl => b1 (k0 l hl)) (fun l hl => b1 (k1 l hl)), l_or (fun l hl => by have := k01 l hl; omega) (fun l hl => b1 (k2 l hl))]
      have hd : ∀ l, l < 12 → (d0 l ||| d1 l) ||| (if litS S n i l = wantS S i l then 1 else 0) = rt S n P i l := by
        intro l hl
        rw [h0 l hl, h1 l hl]
        have w0 := hb 0 l (by omega) hl
        have w1 := hb 1 l (by omega) hl
        have ehit : (n - gN S < hit (s_wk S) (s_sec S) P i l) ↔ (n - gN S < P i ∧ s_wk S 0 l = 1) ∨ ((s_sec S = 1 ∧ n - gN S < P (opp i)) ∧ s_wk S 1 l = 1) := by
          unfold hit
          by_cases y0 : s_wk S 0 l = 1 <;> by_cases y1 : s_wk S 1 l = 1 <;> by_cases y2 : s_sec S = 1 <;> simp [y0, y1, y2] <;> omega
        exact or3 w0 w1 ehit
      rw [dg_congr hd]
      refine ⟨hin, pJ13_dk (fun l _ => by unfold rt; split <;> omega) ?_⟩
      intro v1 g1 w1 f1
      rw [nI_add] at g1
      rw [nI_1] at f1
      exact ih _ _ ⟨i + 1, by omega, f1, g1⟩ (by rw [f1, nI_clamp (by omega), nI_clamp (by omega)]; omega)
    have second : ∀ (Q : Int32 → Prop), (s_sec S = 1 → Q (nI (P (opp i)))) → (s_sec S = 0 → Q (nI 0)) → PX3_secondArmAt wp (nI (s_sec S)) (nI i) Q := by
      intro Q g1 g0
      unfold PX3_secondArmAt PX3_opposite
      rw [opp_I i hi7]
      refine ⟨fun c3 => g0 ((nI_eq (b := 0) (by omega) (by omega)).mp c3), fun c3 => ⟨vp_in_nI ho (by decide), ?_⟩⟩
      rw [nI_clamp (by omega), hwp _ ho]
      refine g1 ?_
      have : ¬ s_sec S = 0 := fun z => c3 (by rw [z]; rfl)
      omega
    have le : ∀ {x : Nat}, x ≤ 1000 → (nI x ≤ nI (n - gN S) ↔ x ≤ n - gN S) := fun hx => nI_leI (by omega) (by omega)
    unfold PX3_firstArmAt
    have hf0 : wp (Int32.toNatClampNeg (nI i)) = nI (P i) := by rw [nI_clamp (by omega)]; exact hwp i hi7
    rw [hf0]
    refine ⟨hin, fun c2 => ?_, fun c2 v5 e5 => ?_⟩ <;> rw [le hPi] at c2
    · refine second _ (fun s1 => ⟨fun c3 => ?_, fun c3 v7 e7 => ?_⟩) (fun s0 => ⟨fun c3 => ?_, fun c3 => absurd (nI_le (a := 0) (b := n - gN S) (by omega) (by omega)) c3⟩)
      · rw [le hPo] at c3
        exact fin (fun _ => 0) (fun _ => 0) (fun l _ => by rw [if_neg (by omega)]) (fun l _ => by rw [if_neg (by omega)]) _ _ l_zero l_zero
      · rw [le hPo] at c3
        rw [cW 1 (by omega)] at e7
        exact fin (fun _ => 0) (s_wk S 1) (fun l _ => by rw [if_neg (by omega)]) (fun l _ => by rw [if_pos (by omega)]) _ _ l_zero e7
      · exact fin (fun _ => 0) (fun _ => 0) (fun l _ => by rw [if_neg (by omega)]) (fun l _ => by rw [if_neg (by omega)]) _ _ l_zero l_zero
    · rw [cW 0 (by omega)] at e5
      refine second _ (fun s1 => ⟨fun c3 => ?_, fun c3 v7 e7 => ?_⟩) (fun s0 => ⟨fun c3 => ?_, fun c3 => absurd (nI_le (a := 0) (b := n - gN S) (by omega) (by omega)) c3⟩)
      · rw [le hPo] at c3
        exact fin (s_wk S 0) (fun _ => 0) (fun l _ => by rw [if_pos (by omega)]) (fun l _ => by rw [if_neg (by omega)]) _ _ e5 l_zero
      · rw [le hPo] at c3
        rw [cW 1 (by omega)] at e7
        exact fin (s_wk S 0) (s_wk S 1) (fun l _ => by rw [if_pos (by omega)]) (fun l _ => by rw [if_pos (by omega)]) _ _ e5 e7
      · exact fin (s_wk S 0) (fun _ => 0) (fun l _ => by rw [if_pos (by omega)]) (fun l _ => by rw [if_neg (by omega)]) _ _ e5 l_zero
