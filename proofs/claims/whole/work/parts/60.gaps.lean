/-! gaps -/
def cvc (S : AS) (a : Nat) : Nat → Nat
  | 0 => 0
  | n + 1 => if cvc S a n = 1 then 1 else if s_kd S n ≠ 2 ∧ ofs a (s_fs S n) < cvN (s_wd S n) (s_sp S n) then 1 else 0
theorem cvc_le (S : AS) (a : Nat) : ∀ n, cvc S a n ≤ 1
  | 0 => by show 0 ≤ 1; omega
  | n + 1 => by
    unfold cvc
    split
    · omega
    · split <;> omega
theorem cvc_up {S : AS} {a n : Nat} (h : cvc S a n = 1) : ∀ d, cvc S a (n + d) = 1
  | 0 => h
  | d + 1 => by
    show (if cvc S a (n + d) = 1 then 1 else _) = 1
    rw [if_pos (cvc_up h d)]
theorem tC_isCovered {T : Nat} {S : AS} {n_pictureCount n_angle n_speed n_ticks n_load n_secondArm : Int32} {n_settings : Nat → Int32} {n_working n_written : Nat → Int64} {n_writtenIn n_width n_first n_step n_kind : Nat → Int32} {n_columns : Nat → Nat → Int64} {a : Nat} {k : Int32 → Prop} (hS : okS T S) (hC : repC S n_pictureCount n_angle n_speed n_ticks n_load n_secondArm n_settings n_working n_written n_writtenIn n_width n_first n_step n_kind n_columns) (ha : a < 720) (h : k (nI (cvc S a (s_cnt S)))) : PX2_isCoveredAt n_pictureCount n_width n_first n_step n_kind (nI a) k := by
  have hcnt := hS.1
  have hpc := hC.1
  subst hpc
  unfold PX2_isCoveredAt
  refine lp1 (PX2_isCoveredAt_L1 (nI (s_cnt S)) n_width n_first n_step n_kind (nI a) k _) (fun v => ∃ i, i ≤ s_cnt S ∧ v = nI i ∧ cvc S a i = 0) (fun v => s_cnt S - v.toNatClampNeg) ?_ _ ⟨0, by omega, rfl, rfl⟩
  rintro g v ⟨i, hi, ev, hJ⟩ ih
  subst ev
  unfold PX2_isCoveredAt_L1
  refine ⟨fun c => ?_, fun c => ?_⟩ <;> rw [nI_leI (by omega) (by omega)] at c
  · obtain rfl : i = s_cnt S := by omega
    rw [hJ] at h
    exact h
  · have hp : i < s_cnt S := by omega
    obtain ⟨b1, b2, b3, b4, b5, b6, b7⟩ := okQ_of hS hp
    obtain ⟨d1, d2, d3, d4, d5⟩ := cP_of hC hcnt hp
    have hin : vp_in (nI i) 4 := vp_in_nI (by omega) (by decide)
    have nxt : ¬ (s_kd S i ≠ 2 ∧ ofs a (s_fs S i) < cvN (s_wd S i) (s_sp S i)) → ∀ v1 : Int32, v1 = nI i + (1 : Int32) → PX2_isCoveredAt_L1 (nI (s_cnt S)) n_width n_first n_step n_kind (nI a) k (fun v2_1 => (k (0 : Int32))) g v1 := by
      intro hne v1 f1
      rw [nI_1] at f1
      refine ih _ ⟨i + 1, by omega, f1, ?_⟩ (by rw [f1, nI_clamp (by omega), nI_clamp (by omega)]; omega)
      unfold cvc
      rw [if_neg (by omega), if_neg hne]
    refine ⟨hin, fun j hj ej => ?_⟩
    rw [nI_clamp (by omega)] at ej
    subst ej
    rw [d4]
    refine ⟨fun c2 => nxt (fun z => z.1 ((k_eq b6 (c := 2) (by omega)).mp c2)), fun c2 => ⟨hin, fun j2 hj2 ej2 => ?_⟩⟩
    rw [nI_clamp (by omega)] at ej2
    subst ej2
    have c3 : s_kd S i ≠ 2 := fun z => c2 ((k_eq b6 (c := 2) (by omega)).mpr z)
    rw [d1, d2, d3]
    refine tC_covers b2 b4 b5 ha (fun y => ⟨fun q => absurd q (by decide), fun _ => ?_⟩) (fun y => ⟨fun _ => nxt (fun z => y z.2), fun q => absurd rfl q⟩)
    have h1 : cvc S a (i + 1) = 1 := by
      unfold cvc
      rw [if_neg (by omega), if_pos ⟨c3, y⟩]
    have h2 := cvc_up h1 (s_cnt S - (i + 1))
    rw [show i + 1 + (s_cnt S - (i + 1)) = s_cnt S by omega] at h2
    rw [h2] at h
    exact h
theorem tM_isCovered {T : Nat} {S : AS} {m wr : Nat → Int32} {a : Nat} {k : Int32 → Prop} (hS : okS T S) (hM : repM S m wr) (ha : a < 720) (h : k (nI (cvc S a (s_cnt S)))) : PX5_isCovered m (nI a) k := by
  have hcnt := hS.1
  unfold PX5_isCovered
  refine lp2 (PX5_isCovered_L1 m (nI a) _) (fun r v => ∃ i, i ≤ s_cnt S ∧ v = nI i ∧ r = nI (cvc S a i)) (fun _ v => s_cnt S - v.toNatClampNeg) ?_ _ _ ⟨0, by omega, rfl, rfl⟩
  rintro g r v ⟨i, hi, ev, er⟩ ih
  subst ev er
  have hle := cvc_le S a i
  unfold PX5_isCovered_L1
  rw [hM.1]
  refine ⟨fun c => ?_, fun c => ?_⟩ <;> rw [nI_leI (by omega) (by omega)] at c
  · obtain rfl : i = s_cnt S := by omega
    refine ⟨?_, h⟩
    rcases (show cvc S a (s_cnt S) = 0 ∨ cvc S a (s_cnt S) = 1 by omega) with z | z <;> rw [z]
    · exact Or.inl rfl
    · exact Or.inr rfl
  · have hp : i < s_cnt S := by omega
    obtain ⟨b1, b2, b3, b4, b5, b6, b7⟩ := okQ_of hS hp
    have hmp := mP_of hM hp
    have hz : nI (cvc S a i) = 0 ↔ cvc S a i = 0 := nI_eq (b := 0) (by omega) (by omega)
    have nxt : ∀ x : Nat, x = cvc S a (i + 1) → ∀ v1 : Int32, v1 = nI i + (1 : Int32) → PX5_isCovered_L1 m (nI a) (fun v2_1 v3_2 => ((v2_1 = 0 ∨ v2_1 = 1) ∧ k v2_1)) g (nI x) v1 := by
      intro x ex v1 f1
      rw [nI_1] at f1
      exact ih _ _ ⟨i + 1, by omega, f1, by rw [ex]⟩ (by rw [f1, nI_clamp (by omega), nI_clamp (by omega)]; omega)
    refine ⟨fun c2 => nxt 1 ?_, fun c2 => ?_⟩ <;> rw [hz] at c2
    · unfold cvc
      rw [if_pos (by omega)]
    · refine tM_of3 (by omega) ?_
      rw [hmp.2.2.2.1]
      refine ⟨fun c3 => nxt 0 ?_, fun c3 => ?_⟩
      · unfold cvc
        rw [if_neg (by omega), if_neg (fun z => z.1 ((k_eq b6 (c := 2) (by omega)).mp c3))]
      · have c4 : s_kd S i ≠ 2 := fun z => c3 ((k_eq b6 (c := 2) (by omega)).mpr z)
        refine tM_columnOf (by omega) hmp b1 b2 b3 b4 b5 ha b6 (fun y => ⟨fun q => ?_, fun _ => nxt 1 ?_⟩) (fun y => ⟨fun _ => nxt 0 ?_, fun q => absurd rfl q⟩)
        · have hcl := (clN_lt (kd := s_kd S i) y).1
          have hI := i_nI (n := clN (s_wd S i) (s_fs S i) (s_sp S i) (s_kd S i) a) (by omega)
          rw [q] at hI
          have : (-109 : Int32).toInt = -109 := by decide
          omega
        · unfold cvc
          rw [if_neg (by omega), if_pos ⟨c4, y⟩]
        · unfold cvc
          rw [if_neg (by omega), if_neg (fun z => y z.2)]
/-- the angles at which an arm came by -/
def cm (sec : Nat) (P : Nat → Nat) (q : Nat) : Nat := if P q ≠ 0 ∨ (sec = 1 ∧ P (opp q) ≠ 0) then 1 else 0
theorem ang_form {pos : Bool} {a : Nat} (ha : a < 720) : ∀ i, ang pos a i = if pos then (a + i) % 720 else (a + 719 * i) % 720
  | 0 => by
    show a = _
    cases pos
    · rw [if_neg (by decide)]; omega
    · rw [if_pos rfl]; omega
  | i + 1 => by
    show stp pos (ang pos a i) = _
    rw [ang_form ha i]
    unfold stp
    cases pos
    · rw [if_neg (by decide), if_neg (by decide), if_neg (by decide)]; omega
    · rw [if_pos rfl, if_pos rfl, if_pos rfl]; omega
theorem ang_ne {pos : Bool} {a i N : Nat} (ha : a < 720) (hi : i < N) (hN : N ≤ 60) : ang pos a i ≠ ang pos a N := by
  rw [ang_form ha, ang_form ha]
  cases pos
  · rw [if_neg (by decide), if_neg (by decide)]; omega
  · rw [if_pos rfl, if_pos rfl]; omega
theorem tM_markJ {sec a j N : Nat} {P : Nat → Nat} {m wr c0 : Nat → Int32} {pos : Bool} {k : (Nat → Int32) → (Nat → Int32) → (Nat → Int32) → Prop} (hsec : sec ≤ 1) (ha : a < 720) (hj : 1 ≤ j) (hN : N ≤ 60) (h4 : m 4 = nI (ang pos a N)) (h8 : m 8 = nI sec) (hc : ∀ q, q < 720 → c0 q = nI (cm sec P q))
    (h : ∀ c', (∀ q, q < 720 → c' q = nI (cm sec (pas pos a j P N) q)) → k m wr c') : PX5_mark_J1 c0 k (nI a) m wr (dirI pos) := by
  unfold PX5_mark_J1
  have key : ∀ (d i : Nat) (c : Nat → Int32), i + d = N → (∀ q, q < 720 → c q = nI (cm sec (pas pos a j P i) q)) → PX5_mark_L2 m (dirI pos) (fun v1_5 b_comes_6 => (k m wr b_comes_6)) (d + 1) (nI (ang pos a i)) c := by
    intro d
    induction d with
    | zero =>
      intro i c hi hJ
      obtain rfl : i = N := by omega
      unfold PX5_mark_L2
      exact ⟨fun _ => h c hJ, fun c2 => absurd h4.symm c2⟩
    | succ d ihd =>
      intro i c hi hJ
      have hai := ang_lt (pos := pos) ha i
      have haN := ang_lt (pos := pos) ha N
      have hs := stp_lt pos (ang pos a i)
      have ho := opp_lt (stp pos (ang pos a i))
      have hne := opp_ne hs
      unfold PX5_mark_L2
      refine ⟨fun c2 => ?_, fun _ => ?_⟩
      · rw [h4, nI_eq (by omega) (by omega)] at c2
        exact absurd c2 (ang_ne ha (by omega) hN)
      · have hsum : (nI (ang pos a i) + dirI pos).toInt = (ang pos a i : Int) + (if pos then 1 else -1) := i_add (i_nI (by omega)) (dirI_toInt pos) (by split <;> omega) (by split <;> omega)
        refine pX5_around hsum (by split <;> omega) (by split <;> omega) ?_
        rw [stp_int pos _ hai, opp_I _ hs, nI_clamp (by omega), nI_clamp (by omega), h8]
        refine ⟨vp_in_nI hs (by decide), fun c1 f1 => ⟨vp_in_nI ho (by decide), vp_in_nI ho (by decide), fun c2 f2 => ?_⟩⟩
        refine ihd (i + 1) c2 (by omega) fun q hq => ?_
        show c2 q = nI (cm sec (nu (pas pos a j P i) (stp pos (ang pos a i)) j) q)
        generalize stp pos (ang pos a i) = b at hs ho hne f1 f2
        generalize pas pos a j P i = Q at hJ
        rw [f2]
        by_cases z : q = opp b
        · subst z
          rw [pk_us, f1, pk_un hne, hJ _ ho, fa_or]
          refine congrArg nI ?_
          unfold cm
          rw [opp_opp hs, nu_s, nu_n hne]
          rcases (show sec = 0 ∨ sec = 1 by omega) with y | y <;> subst y
          · simp
          · by_cases x : Q (opp b) = 0 <;> by_cases w : Q b = 0 <;> simp [x, w, show ¬ j = 0 by omega]
        · rw [pk_un z, f1]
          by_cases y : q = b
          · subst y
            rw [pk_us]
            unfold cm
            rw [nu_s, if_pos (Or.inl (by omega))]
            rfl
          · rw [pk_un y, hJ q hq]
            refine congrArg nI ?_
            unfold cm
            have e : opp q ≠ b := fun x => z (by rw [← x, opp_opp hq])
            rw [nu_n y, nu_n e]
  exact ⟨N + 1, key N 0 c0 (by omega) hc⟩
theorem tM_mark {T : Nat} {S : AS} {ws : Int} {j : Nat} {Z : ZS} {m wr ww c0 : Nat → Int32} {k : (Nat → Int32) → (Nat → Int32) → (Nat → Int32) → Prop} (hS : okS T S) (hT : T < 9000) (hj2 : j < 900) (hZ : okZ j Z) (hws : -60 ≤ ws ∧ ws ≤ 60) (hM : repM (runS S ws j Z) m wr) (hw : ∀ a l, a < 720 → l < 12 → ww (12 * a + l) = nI (wantS S a l)) (hc : ∀ q, q < 720 → c0 q = nI (cm (s_sec S) Z.2.2.2 q))
    (h : ∀ m' wr' c', repM (runS S ws (j + 1) (tk (ldA S) (pwN S) (lmN S) ws (j + 1) Z)) m' wr' → (∀ q, q < 720 → c' q = nI (cm (s_sec S) (tk (ldA S) (pwN S) (lmN S) ws (j + 1) Z).2.2.2 q)) → k m' wr' c') : PX5_mark m wr ww c0 k := by
  unfold PX5_mark
  intro v1 ev1
  rw [show m 4 = nI Z.1 from hM.2.1] at ev1
  subst ev1
  have z1 := hZ.1
  have ksec := hS.2.2.2.2.1
  refine tM_tick hS hT hj2 hZ hws hM hw fun m' wr' hM' => ?_
  have hvr := nsp_in (pw := pwN S) (lm := lmN S) (L := Z.2.2.1) hws hZ.2.1
  have h4 : m' 4 = nI (tk (ldA S) (pwN S) (lmN S) ws (j + 1) Z).1 := hM'.2.1
  have h5 : (m' 5).toInt = (tk (ldA S) (pwN S) (lmN S) ws (j + 1) Z).2.1 := hM'.2.2.1
  have h8 : m' 8 = nI (s_sec S) := hM'.2.2.2.2.2.1
  have h3 : ∀ c', (∀ q, q < 720 → c' q = nI (cm (s_sec S) (tk (ldA S) (pwN S) (lmN S) ws (j + 1) Z).2.2.2 q)) → k m' wr' c' := fun c' hc' => h m' wr' c' hM' hc'
  unfold tk at h4 h5 h3
  generalize nsp (pwN S) (lmN S) ws Z.2.1 Z.2.2.1 = v at hvr h4 h5 h3
  have h0 : (0 : Int32).toInt = 0 := by decide
  have h5' : (m' 5).toInt = v := h5
  refine ⟨fun c => ?_, fun c => ?_⟩ <;> rw [i_le h0 h5'] at c
  · by_cases zz : v = 0
    · subst zz
      exact tM_markJ (pos := true) (N := 0) (j := j + 1) (P := Z.2.2.2) ksec z1 (by omega) (by omega) h4 h8 hc h3
    · have e : tkp v = true := decide_eq_true (by omega)
      rw [e] at h3 h4
      exact tM_markJ (pos := true) (N := v.natAbs) (j := j + 1) (P := Z.2.2.2) ksec z1 (by omega) (by omega) h4 h8 hc h3
  · have e : tkp v = false := decide_eq_false (by omega)
    rw [e] at h3 h4
    exact tM_markJ (pos := false) (N := v.natAbs) (j := j + 1) (P := Z.2.2.2) ksec z1 (by omega) (by omega) h4 h8 hc h3
