/-! sums -/
def sg : Nat → (Nat → Nat) → Nat
  | 0, _ => 0
  | n + 1, f => sg n f + f n
theorem sg_congr : ∀ {n : Nat} {f g : Nat → Nat}, (∀ i, i < n → f i = g i) → sg n f = sg n g
  | 0, _, _, _ => rfl
  | n + 1, f, g, h => by
    show sg n f + f n = sg n g + g n
    rw [sg_congr (n := n) (fun i hi => h i (by omega)), h n (by omega)]
theorem sg_le {b : Nat} : ∀ {n : Nat} {f : Nat → Nat}, (∀ i, i < n → f i ≤ b) → sg n f ≤ n * b
  | 0, _, _ => by simp [sg]
  | n + 1, f, h => by
    have h1 := sg_le (n := n) (f := f) (fun i hi => h i (by omega))
    have h2 := h n (by omega)
    show sg n f + f n ≤ (n + 1) * b
    rw [Nat.succ_mul]
    omega
theorem sm12 (d : Nat → Nat) : sm 12 d = d 0 + (d 1 + (d 2 + (d 3 + (d 4 + (d 5 + (d 6 + (d 7 + (d 8 + (d 9 + (d 10 + (d 11 + 0))))))))))) := rfl
theorem sg12 (f : Nat → Nat) : ∀ n, sg (12 * n) f = sg n (fun c => sm 12 (fun l => f (12 * c + l)))
  | 0 => rfl
  | n + 1 => by
    show sg (12 * n + 12) f = sg n _ + sm 12 (fun l => f (12 * n + l))
    rw [← sg12 f n, sm12]
    show sg (12 * n) f + f (12 * n) + f (12 * n + 1) + f (12 * n + 2) + f (12 * n + 3) + f (12 * n + 4) + f (12 * n + 5) + f (12 * n + 6) + f (12 * n + 7) + f (12 * n + 8) + f (12 * n + 9) + f (12 * n + 10) + f (12 * n + 11) = sg (12 * n) f + (f (12 * n) + (f (12 * n + 1) + (f (12 * n + 2) + (f (12 * n + 3) + (f (12 * n + 4) + (f (12 * n + 5) + (f (12 * n + 6) + (f (12 * n + 7) + (f (12 * n + 8) + (f (12 * n + 9) + (f (12 * n + 10) + (f (12 * n + 11) + 0))))))))))))
    omega
theorem sm_dk_le (d : Nat → Nat) : sm 12 (dk d) ≤ 12 := by
  have := sm_le (b := 1) (n := 12) (d := dk d) (fun l _ => dk_le d l)
  omega
theorem tC_countNotDark {wd : Nat} {co : Nat → Nat → Nat} {cols : Nat → Int64} {k : Int32 → Prop} (h1 : wd ≤ 40) (hco : ∀ c l, c < 40 → l < 12 → co c l < 8) (hcols : ∀ c, c < 40 → cols c = lN (dg 8 12 (co c))) (h : k (nI (sg wd (fun c => sm 12 (dk (co c)))))) : PX0_countNotDark (nI wd) cols k := by
  unfold PX0_countNotDark
  refine lp2 (PX0_countNotDark_L1 (nI wd) cols _) (fun v w => ∃ i, i ≤ wd ∧ w = nI i ∧ v = nI (sg i (fun c => sm 12 (dk (co c))))) (fun _ w => wd - w.toNatClampNeg) ?_ _ _ ⟨0, by omega, rfl, rfl⟩
  rintro f v w ⟨i, hi, ew, ev⟩ ih
  subst ew ev
  unfold PX0_countNotDark_L1
  refine ⟨fun c => ?_, fun c => ?_⟩ <;> rw [nI_leI (by omega) (by omega)] at c
  · obtain rfl : i = wd := by omega
    exact h
  · refine ⟨vp_in_nI (by omega) (by decide), ?_⟩
    rw [nI_clamp (by omega), hcols i (by omega)]
    refine pX4_notDark (fun l hl => hco i l (by omega) hl) (pJ13_dk (fun l _ => dk_le _ l) ?_)
    intro v1 e1 w1 f1
    rw [nI_add] at e1
    rw [nI_1] at f1
    refine ih _ _ ⟨i + 1, by omega, f1, e1⟩ ?_
    rw [f1, nI_clamp (by omega), nI_clamp (by omega)]
    omega
