/-! the law's loop, and the law -/
theorem tL_J3 {S : AS} {n : Nat} {h : Nat → AS} (hS : okS 5000 S) (ht : s_tck S + 63 ≤ 5000) {i : Nat} (hi : i < 34) {lb : Int32 → VS → Prop} (y : Int32) {w p : Nat} (hw : w < 12) (hp : w ≠ 0 → p < s_cnt S) (hlb : ∀ v : Int32, v = nI i + (1 : Int32) → ∀ S' n' h', okS 5000 S' → 1 ≤ s_cnt S' → s_tck S' ≤ s_tck S + 60 → lb v (S', n', h')) : PL_law_J3 lb (nI i) (S, n, h) y (nI (s_cnt S)) (nI w) (nI p) := by
  have hcnt := hS.1
  have hj : ∀ (S' : AS) n' h', okS 5000 S' → 1 ≤ s_cnt S' → s_tck S' ≤ s_tck S + 60 → PL_law_J4 lb (nI i) y (S', n', h') := fun S' n' h' hok hc htk => tL_J4 hok (by omega) hi y (fun v e n2 h2 => hlb v e S' n2 h2 hok hc htk)
  have e0 : nI w = 0 ↔ w = 0 := nI_eq (b := 0) (by omega) (by omega)
  have e4 : nI w = (4 : Int32) ↔ w = 4 := nI_eq (b := 4) (by omega) (by omega)
  have e5 : nI w = (5 : Int32) ↔ w = 5 := nI_eq (b := 5) (by omega) (by omega)
  have e6 : nI w = (6 : Int32) ↔ w = 6 := nI_eq (b := 6) (by omega) (by omega)
  have e7 : nI w = (7 : Int32) ↔ w = 7 := nI_eq (b := 7) (by omega) (by omega)
  unfold PL_law_J3
  refine ⟨fun c0 => ?_, fun c0 => tL_add hS y fun S' n' h' hok hc htk => hj S' n' h' hok hc (by omega)⟩
  have hp' : p < s_cnt S := hp fun z => c0 (e0.mpr z)
  refine ⟨fun c1 => ⟨fun c2 => ⟨fun c3 => ⟨fun c4 => ⟨fun c5 => ?_, fun c5 => ?_⟩, fun c4 => ?_⟩, fun c3 => ?_⟩, fun c2 => ?_⟩, fun c1 => ?_⟩
  · refine tL_low (n := 6) (by decide) (by decide) ⟨fun _ => ?_, fun _ => ?_⟩
    · exact tL_J6 (m := 9) hS (by omega) (by omega) (by omega) y fun S' n' h' hok hc htk => hj S' n' h' hok (by omega) (by omega)
    · exact tL_J6 (m := 60) hS (by omega) (by omega) (by omega) y fun S' n' h' hok hc htk => hj S' n' h' hok (by omega) (by omega)
  · exact tL_arm hS y fun S' n' h' hok hc htk => hj S' n' h' hok (by omega) (by omega)
  · exact tL_set hS y fun S' n' h' hok hc htk => hj S' n' h' hok (by omega) (by omega)
  · exact tL_kind hS hp' y fun S' n' h' hok hc htk => hj S' n' h' hok hc (by omega)
  · exact tL_place hS hp' y fun S' n' h' hok hc htk => hj S' n' h' hok hc (by omega)
  · exact tL_paint hS hp' y fun S' n' h' hok hc htk => hj S' n' h' hok hc (by omega)
theorem tL_J2 {S : AS} {n : Nat} {h : Nat → AS} (hS : okS 5000 S) (ht : s_tck S + 63 ≤ 5000) {i : Nat} (hi : i < 34) {lb : Int32 → VS → Prop} (x y : Int32) {w : Nat} (hw : w < 12) (hc : w ≠ 0 → 1 ≤ s_cnt S) (hlb : ∀ v : Int32, v = nI i + (1 : Int32) → ∀ S' n' h', okS 5000 S' → 1 ≤ s_cnt S' → s_tck S' ≤ s_tck S + 60 → lb v (S', n', h')) : PL_law_J2 lb (nI i) (S, n, h) x y (nI (s_cnt S)) (nI w) := by
  have hcnt := hS.1
  have e0 : nI (s_cnt S) = 0 ↔ s_cnt S = 0 := nI_eq (b := 0) (by omega) (by omega)
  unfold PL_law_J2
  refine ⟨fun c => ?_, fun c => ?_⟩ <;> rw [e0] at c
  · exact tL_low (n := s_cnt S) (by omega) (by omega) (tL_J3 hS ht hi y hw (fun _ => lowN_lt (by omega)) hlb)
  · exact tL_J3 (p := 0) hS ht hi y hw (fun z => by have := hc z; omega) hlb
theorem tL_L1 {S0 : AS} {n0 : Nat} {h0 : Nat → AS} (hS0 : okS 5000 S0) (ht0 : s_tck S0 = 0) {kx : Int32 → VS → Prop} (hk : ∀ v S n h, okS 5000 S → kx v (S, n, h)) : ∃ f, PL_law_L1 kx f (0 : Int32) (S0, n0, h0) := by
  refine lp2 (PL_law_L1 kx) (fun v V => ∃ (i : Nat) (S : AS) (n : Nat) (h : Nat → AS), i ≤ 34 ∧ v = nI i ∧ V = (S, n, h) ∧ okS 5000 S ∧ s_tck S ≤ 60 * i ∧ (1 ≤ i → 1 ≤ s_cnt S)) (fun v _ => 34 - v.toNatClampNeg) ?_ _ _ ⟨0, S0, n0, h0, by omega, rfl, rfl, hS0, by omega, fun z => by omega⟩
  rintro f v V ⟨i, S, n, h, hi, ev, eV, hok, htk, hc⟩ ih
  subst ev eV
  unfold PL_law_L1
  refine ⟨fun _ => hk _ S n h hok, fun c => ?_⟩
  rw [show (34 : Int32) = nI 34 from rfl, nI_leI (by omega) (by omega)] at c
  have z1 : (0 : Int32) ≤ ((2 : Int32) * nI i) := by
    rw [show (2 : Int32) = nI 2 from rfl, pk_mul]
    exact (nI_leI (a := 0) (by omega) (by omega)).mpr (Nat.zero_le _)
  have z2 : (0 : Int32) ≤ (((2 : Int32) * nI i) + (1 : Int32)) := by
    rw [show (2 : Int32) = nI 2 from rfl, pk_mul, nI_1]
    exact (nI_leI (a := 0) (by omega) (by omega)).mpr (Nat.zero_le _)
  refine ⟨z1, fun x => ⟨z2, fun y => tA_count0 ?_⟩⟩
  have hlb : ∀ v : Int32, v = nI i + (1 : Int32) → ∀ S' n' h', okS 5000 S' → 1 ≤ s_cnt S' → s_tck S' ≤ s_tck S + 60 → PL_law_L1 kx f v (S', n', h') := by
    intro v e S' n' h' hok' hc' htk'
    rw [nI_1] at e
    exact ih v _ ⟨i + 1, S', n', h', by omega, e, rfl, hok', by omega, fun _ => hc'⟩ (by rw [e, nI_clamp (by omega), nI_clamp (by omega)]; omega)
  have h2 : (2 : Int32) ≤ nI i ↔ 2 ≤ i := nI_leI (a := 2) (by omega) (by omega)
  refine ⟨fun c2 => ⟨fun c3 => tL_low (n := 12) (by decide) (by decide) (tL_J2 hok (by omega) (by omega) x y (lowN_lt (by decide)) (fun _ => hc (by rw [h2] at c2; omega)) hlb), fun c3 => tL_J2 (w := 1) hok (by omega) (by omega) x y (by omega) (fun _ => hc (by rw [h2] at c2; omega)) hlb⟩, fun c2 => tL_J2 (w := 0) hok (by omega) (by omega) x y (by omega) (fun z => absurd rfl z) hlb⟩
theorem tL_law : PL_law (S00, 0, fun _ => S00) := by
  have eg : gpN S00 0 = 0 := by
    rw [gpN_0]
    exact sg_zero fun _ _ => rfl
  have el : litC S00 = 0 := by
    unfold litC
    refine sg_zero fun a _ => ?_
    have : sm 12 (dk (litS S00 0 a)) ≤ 12 * 0 := sm_le fun l _ => by
      have e : litS S00 0 a l = 0 := by
        unfold litS gl
        rw [if_neg (fun z => z.1 rfl)]
      unfold dk
      rw [if_pos e]
      exact Nat.le_refl 0
    omega
  unfold PL_law
  refine tL_refuses S00_ok ⟨fun c => absurd c (by decide), fun _ => tA_undo0 ⟨fun c => absurd rfl c, fun _ => tL_pictures S00_ok ⟨fun c => absurd c (by decide), fun _ => tA_gaps (x := 0) (by omega) ?_⟩⟩⟩
  show ((¬ nI (gpN S00 0) = 0 → False) ∧ (nI (gpN S00 0) = 0 → _))
  rw [eg]
  refine ⟨fun c => absurd rfl c, fun _ => tA_count5 ?_⟩
  show ((nI (litC S00) = 0 → _) ∧ (¬ nI (litC S00) = 0 → False))
  rw [el]
  exact ⟨fun _ => tL_L1 S00_ok rfl fun _ S n h hok => tL_refuses hok rfl, fun c => absurd rfl c⟩
