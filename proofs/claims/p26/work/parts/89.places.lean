/-! the law's numbers; places -/
def lowN (v : Int32) (n : Nat) : Nat := v.toBitVec.toNat % 2 ^ 31 % n
theorem lowN_lt {v : Int32} {n : Nat} (h : 0 < n) : lowN v n < n := Nat.mod_lt _ h
theorem i32_nI (v : Int32) : v = nI v.toBitVec.toNat := by
  apply Int32.toBitVec_inj.mp
  show v.toBitVec = BitVec.ofNat 32 v.toBitVec.toNat
  rw [BitVec.ofNat_toNat, BitVec.setWidth_eq]
theorem tL_low {v : Int32} {n : Nat} {k : Int32 → Prop} (h0 : 0 < n) (h1 : n < 2 ^ 31) (h : k (nI (lowN v n))) : PL_low v (nI n) k := by
  have e : (v &&& (2147483647 : Int32)) = nI (v.toBitVec.toNat % 2 ^ 31) := by
    have e1 := pk_andN (n := v.toBitVec.toNat) (m := (2147483647 : Int32)) v.toBitVec.isLt 31 (by decide)
    rw [← i32_nI] at e1
    exact e1
  unfold PL_low
  refine ⟨fun z => ?_, ?_⟩
  · have := (nI_eq (b := 0) h1 (by omega)).mp z
    omega
  · rw [e, pk_rem (Nat.mod_lt _ (by decide)) h0 h1]
    exact h
theorem tL_size {x : Int32} {X : Int} {k : Int32 → Prop} (hx : x.toInt = X) (h1 : -60 ≤ X ∧ X ≤ 60) (h : k (nI X.natAbs)) : PL_size x k := by
  have h0 : (0 : Int32).toInt = 0 := by decide
  unfold PL_size
  refine ⟨fun c => ?_, fun c => ?_⟩ <;> rw [i_le h0 hx] at c
  · have e : x = nI X.natAbs := i_of (by rw [hx]; omega)
    rw [e]; exact h
  · have e : -x = nI X.natAbs := i_of (by rw [i_neg hx (by omega) (by omega)]; omega)
    rw [e]; exact h
theorem tL_pl3 {S : AS} {n : Nat} {h : Nat → AS} (hS : okS 5000 S) {A l : Nat} (hA : A < 720) (hl : l < 12) {kx : Int32 → Int32 → Prop} (hk : ∀ v6, kx (nI (wantS S A l)) v6) : ∃ f, PL_places_L3 (S, n, h) (nI A) (nI l) kx f (0 : Int32) (0 : Int32) := by
  have hcnt := hS.1
  refine lp2 (PL_places_L3 (S, n, h) (nI A) (nI l) kx) (fun v w => ∃ i, i ≤ s_cnt S ∧ w = nI i ∧ v = nI (wt (s_wd S) (s_fs S) (s_sp S) (s_kd S) (s_co S) A i l)) (fun _ w => s_cnt S - w.toNatClampNeg) ?_ _ _ ⟨0, by omega, rfl, rfl⟩
  rintro f v w ⟨i, hi, ew, ev⟩ ih
  subst ew ev
  unfold PL_places_L3
  refine tA_count0 ⟨fun c => ?_, fun c => ?_⟩ <;> rw [nI_leI (by omega) (by omega)] at c
  · obtain rfl : i = s_cnt S := by omega
    exact hk _
  · have hp : i < s_cnt S := by omega
    obtain ⟨q1, q2, q3, q4, q5, q6, q7⟩ := okQ_of hS hp
    have nxt : ∀ d : Nat, d = pw (s_wd S i) (s_fs S i) (s_sp S i) (s_kd S i) (s_co S i) A l → ∀ v1 : Int32, v1 = nI (wt (s_wd S) (s_fs S) (s_sp S) (s_kd S) (s_co S) A i l) ||| nI d → ∀ w1 : Int32, w1 = nI i + (1 : Int32) → PL_places_L3 (S, n, h) (nI A) (nI l) kx f v1 w1 := by
      intro d hd v1 e1 w1 f1
      rw [fa_or] at e1
      rw [nI_1] at f1
      refine ih _ _ ⟨i + 1, by omega, f1, by rw [e1, hd]; rfl⟩ ?_
      rw [f1, nI_clamp (by omega), nI_clamp (by omega)]
      omega
    have off : s_kd S i = 2 → 0 = pw (s_wd S i) (s_fs S i) (s_sp S i) (s_kd S i) (s_co S i) A l := fun z => by unfold pw; rw [if_pos z]
    have out : ¬ ofs A (s_fs S i) < cvN (s_wd S i) (s_sp S i) → 0 = pw (s_wd S i) (s_fs S i) (s_sp S i) (s_kd S i) (s_co S i) A l := fun z => by
      unfold pw
      by_cases k2 : s_kd S i = 2
      · rw [if_pos k2]
      · rw [if_neg k2, if_neg z]
    refine tA_columnAt hp hA (fun y => tA_picture3 hp ⟨fun c2 => ?_, fun c2 => ⟨fun c3 => ?_, fun c3 => ?_⟩⟩) (fun y => tA_picture3 hp ⟨fun c2 => ?_, fun c2 => ⟨fun c3 => absurd rfl c3, fun _ => ?_⟩⟩)
    · unfold PL_places_J4
      exact nxt 0 (off ((k_eq q6 (c := 2) (by omega)).mp c2))
    · have hcl := (clN_lt (kd := s_kd S i) y).1
      refine tA_color hp hcl hl (nxt _ ?_)
      unfold pw
      rw [if_neg (fun z => c2 ((k_eq q6 (c := 2) (by omega)).mpr z)), if_pos y]
    · have hcl := (clN_lt (kd := s_kd S i) y).1
      have hI := i_nI (n := clN (s_wd S i) (s_fs S i) (s_sp S i) (s_kd S i) A) (by omega)
      rw [c3] at hI
      have : (-109 : Int32).toInt = -109 := by decide
      omega
    · unfold PL_places_J4
      exact nxt 0 (out y)
    · unfold PL_places_J4
      exact nxt 0 (out y)
theorem tL_pl2 {S : AS} {n : Nat} {h : Nat → AS} (hS : okS 5000 S) {A : Nat} (hA : A < 720) (x v2 : Int32) {k lb : Int32 → Prop} (hlb : ∀ v : Int32, v = v2 + (1 : Int32) → lb v) : PL_places_J2 (S, n, h) x k lb v2 (nI A) := by
  unfold PL_places_J2
  refine tL_low (n := 12) (by decide) (by decide) ?_
  have hl : lowN (x >>> ((v2 / (2 : Int32)) &&& 31)) 12 < 12 := lowN_lt (by decide)
  generalize lowN (x >>> ((v2 / (2 : Int32)) &&& 31)) 12 = l at hl ⊢
  refine tL_pl3 hS hA hl fun v6 => ?_
  obtain ⟨-, -, -, -, -, kG, -, ⟨k1, -, k3, k4⟩⟩ := id hS
  have hwi := k4 A l hA hl
  have hlit := litS_lt (x := 0) hS hA hl
  have hg := gN_lt kG
  have eg : s_stg S 3 = (gN S : Int) := by have := kG.2.2.2; unfold gN; omega
  have hgl : litS S 0 A l ≠ 0 → s_wi S A l ≠ 0 ∧ s_tck S < s_wi S A l + gN S := by
    intro z
    unfold litS gl at z
    split at z
    · rename_i w; exact ⟨w.1, by omega⟩
    · exact absurd rfl z
  have n0 : ¬ nI (litS S 0 A l) < (0 : Int32) := nI_nlt (b := 0) (by omega) (by omega)
  have n7 : ¬ (7 : Int32) < nI (litS S 0 A l) := nI_nlt (a := 7) (b := litS S 0 A l) (by omega) (by omega)
  refine tA_place1 hA hl (tA_place2 hA hl ⟨fun z => ?_, fun z => ?_⟩)
  · refine tA_place0 hA hl ⟨fun c => absurd rfl c, fun _ => ⟨fun c => absurd c n0, fun _ => ⟨fun c => absurd c n7, fun _ => ⟨fun _ => ?_, fun c => absurd rfl c⟩⟩⟩⟩
    unfold PL_places_J5
    refine ⟨fun _ => hlb, fun c => absurd ?_ c⟩
    have e : litS S 0 A l = 0 := Decidable.byContradiction fun w => (hgl w).1 z
    rw [e]
    exact (nI_leI (a := 0) (b := 0) (by omega) (by omega)).mpr (Nat.le_refl 0)
  · have hne : ¬ nI (s_tck S - s_wi S A l) = (-109 : Int32) := by
      intro c
      have hI := i_nI (n := s_tck S - s_wi S A l) (by omega)
      rw [c] at hI
      have : (-109 : Int32).toInt = -109 := by decide
      omega
    have j5 : PL_places_J5 (S, n, h) k lb v2 (nI (litS S 0 A l)) (nI (s_tck S - s_wi S A l)) := by
      unfold PL_places_J5
      refine ⟨fun _ => hlb, fun c => ⟨fun c2 => absurd c2 hne, fun _ => tA_setting (x := 3) (by omega) fun r hr => ⟨fun _ => hlb, fun c3 => absurd ?_ c3⟩⟩⟩
      have w : litS S 0 A l ≠ 0 := fun w => c (by rw [w]; exact (nI_leI (a := 0) (b := 0) (by omega) (by omega)).mpr (Nat.le_refl 0))
      have w2 := (hgl w).2
      rw [i_lt (i_nI (by omega)) (hr.trans eg)]
      omega
    refine tA_place0 hA hl ⟨fun c => absurd rfl c, fun _ => ⟨fun c => absurd c n0, fun _ => ⟨fun c => absurd c n7, fun _ => ⟨fun c => absurd c hne, fun _ => ⟨fun c => absurd c (nI_nlt (b := 0) (by omega) (by omega)), fun _ => tA_count3 ⟨fun c => ?_, fun _ => j5⟩⟩⟩⟩⟩⟩
    rw [nI_leI (by omega) (by omega)] at c
    omega
theorem plus690 (m : Nat) (hm : m < 100000) : ((nI m - (30 : Int32)) + (720 : Int32)) = nI (m + 690) := by
  refine i_of ?_
  rw [i_add (i_sub (i_nI (by omega)) (show (30 : Int32).toInt = 30 by decide) (by omega) (by omega)) (show (720 : Int32).toInt = 720 by decide) (by omega) (by omega)]
  omega
theorem tL_places {S : AS} {n : Nat} {h : Nat → AS} (hS : okS 5000 S) (x : Int32) {k : Int32 → Prop} (hk : k 1) : PL_places (S, n, h) x k := by
  unfold PL_places
  refine lp1 (PL_places_L1 (S, n, h) x k _) (fun v => ∃ i, i ≤ 24 ∧ v = nI i) (fun v => 24 - v.toNatClampNeg) ?_ _ ⟨0, by omega, rfl⟩
  rintro f v ⟨i, hi, ev⟩ ih
  subst ev
  unfold PL_places_L1
  refine ⟨fun _ => hk, fun c => ?_⟩
  rw [show (24 : Int32) = nI 24 from rfl, nI_leI (by omega) (by omega)] at c
  have nxt : ∀ v : Int32, v = nI i + (1 : Int32) → PL_places_L1 (S, n, h) x k (fun v2_1 => k (1 : Int32)) f v := by
    intro v e
    rw [nI_1] at e
    exact ih v ⟨i + 1, by omega, e⟩ (by rw [e, nI_clamp (by omega), nI_clamp (by omega)]; omega)
  have ha := hS.2.1
  refine ⟨fun c2 => tA_count1 (tL_low (n := 61) (by decide) (by decide) ?_), fun c2 => tL_low (n := 720) (by decide) (by decide) (tL_pl2 hS (lowN_lt (by decide)) x _ nxt)⟩
  have hl := lowN_lt (v := x >>> ((nI i - (9 : Int32)) &&& 31)) (n := 61) (by decide)
  rw [nI_add, plus690 _ (by omega), show (720 : Int32) = nI 720 from rfl, pk_rem (by omega) (by decide) (by decide)]
  exact tL_pl2 hS (Nat.mod_lt _ (by decide)) x _ nxt
