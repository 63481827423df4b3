theorem mid_0 (S : AS) (ws v : Int) (t a L : Nat) (P : Nat → Nat) : s_stg (mid S ws v t a L P) 0 = ws := by
  show nu (s_stg S) 0 ws 0 = ws
  exact nu_s
theorem opp_ne {a : Nat} (h : a < 720) : opp a ≠ a := by unfold opp; omega
/-- the places behind one step more -/
theorem step_places {S : AS} {P : Nat → Nat} {a j : Nat} (ha : a < 720) (hj : 1 ≤ j) (hP : ∀ q, P q ≤ j) {wr wr1 wr2 : Nat → Int32} (h0 : ∀ a l, a < 720 → l < 12 → wr (12 * a + l) = nI (wN (wiP S P a l) (wcP S P a l)))
    (h1 : ∀ l, l < 12 → wr1 (12 * a + l) = if s_wk S 0 l = 1 then nI (8 * (s_tck S + j) + wantS S a l) else wr (12 * a + l)) (h1' : ∀ q, q < 12 * a ∨ 12 * a + 12 ≤ q → wr1 q = wr q)
    (h2 : s_sec S = 1 → (∀ l, l < 12 → wr2 (12 * opp a + l) = if s_wk S 1 l = 1 then nI (8 * (s_tck S + j) + wantS S (opp a) l) else wr1 (12 * opp a + l)) ∧ ∀ q, q < 12 * opp a ∨ 12 * opp a + 12 ≤ q → wr2 q = wr1 q) (h3 : s_sec S ≠ 1 → wr2 = wr1) :
    ∀ b l, b < 720 → l < 12 → wr2 (12 * b + l) = nI (wN (wiP S (nu P a j) b l) (wcP S (nu P a j) b l)) := by
  intro b l hb hl
  have ho := opp_lt a
  have hne := opp_ne ha
  have same : hit (s_wk S) (s_sec S) (nu P a j) b l = hit (s_wk S) (s_sec S) P b l → wN (wiP S (nu P a j) b l) (wcP S (nu P a j) b l) = wN (wiP S P b l) (wcP S P b l) := fun e => by unfold wiP wcP; rw [e]
  have new : hit (s_wk S) (s_sec S) (nu P a j) b l = j → wN (wiP S (nu P a j) b l) (wcP S (nu P a j) b l) = 8 * (s_tck S + j) + wantS S b l := fun e => by
    unfold wiP wcP
    rw [e, if_neg (by omega), if_neg (by omega)]
    unfold wN
    rw [if_neg (by omega)]
  by_cases z : b = a
  · subst z
    have e2 : wr2 (12 * b + l) = wr1 (12 * b + l) := by
      by_cases y : s_sec S = 1
      · exact (h2 y).2 _ (by omega)
      · rw [h3 y]
    rw [e2, h1 l hl]
    by_cases y : s_wk S 0 l = 1
    · rw [if_pos y, new ?_]
      unfold hit
      rw [if_pos y, nu_s, nu_n hne]
      have := hP (opp b)
      split <;> omega
    · rw [if_neg y, h0 b l hb hl, same ?_]
      unfold hit
      rw [if_neg y, if_neg y, nu_n hne]
  · have e1 : wr1 (12 * b + l) = wr (12 * b + l) := h1' _ (by omega)
    by_cases y : s_sec S = 1
    · by_cases x : b = opp a
      · subst x
        rw [(h2 y).1 l hl, e1]
        by_cases u : s_wk S 1 l = 1
        · rw [if_pos u, new ?_]
          unfold hit
          rw [if_pos (show s_sec S = 1 ∧ s_wk S 1 l = 1 from ⟨y, u⟩), opp_opp ha, nu_s, nu_n hne]
          have := hP (opp a)
          split <;> omega
        · rw [if_neg u, h0 _ l hb hl, same ?_]
          unfold hit
          rw [if_neg (show ¬ (s_sec S = 1 ∧ s_wk S 1 l = 1) from fun v => u v.2), if_neg (show ¬ (s_sec S = 1 ∧ s_wk S 1 l = 1) from fun v => u v.2), nu_n hne]
      · rw [(h2 y).2 _ (by omega), e1, h0 b l hb hl, same ?_]
        unfold hit
        have e : opp b ≠ a := fun q => x (by rw [← q, opp_opp hb])
        rw [nu_n z, nu_n e]
    · rw [h3 y, e1, h0 b l hb hl, same ?_]
      unfold hit
      rw [nu_n z, if_neg (show ¬ (s_sec S = 1 ∧ s_wk S 1 l = 1) from fun v => y v.1), if_neg (show ¬ (s_sec S = 1 ∧ s_wk S 1 l = 1) from fun v => y v.1)]
theorem tM_tickJ {T : Nat} {S : AS} {ws v : Int} {j a : Nat} {P : Nat → Nat} {m wr ww : Nat → Int32} {pos : Bool} {k : (Nat → Int32) → (Nat → Int32) → Prop} (hS : okS T S) (hT : T < 9000) (hj : 1 ≤ j) (hj2 : j < 1000) (ha : a < 720) (hv2 : -60 ≤ v ∧ v ≤ 60) (hP : ∀ q, P q ≤ j) (hM : repM (mid S ws v j a 0 P) m wr) (hw : ∀ a l, a < 720 → l < 12 → ww (12 * a + l) = nI (wantS S a l))
    (h : ∀ m' wr', repM (mid S ws v j (ang pos a v.natAbs) (lds (ldA S) pos a v.natAbs) (pas pos a j P v.natAbs)) m' wr' → k m' wr') : PX5_tick_J1 wr ww k m (dirI pos) := by
  unfold PX5_tick_J1 PX5_size
  have h0 : (0 : Int32).toInt = 0 := by decide
  have hv : (m 5).toInt = v := hM.2.2.1
  have hN : v.natAbs ≤ 60 := by omega
  have loop : ∃ n_2, PX5_tick_L2 ww (dirI pos) (fun v2_6 b_m_7 b_written_8 => (k b_m_7 b_written_8)) n_2 (nI v.natAbs) m wr := by
    generalize v.natAbs = N at h hN
    refine lp3 (PX5_tick_L2 ww (dirI pos) _) (fun n m wr => ∃ i, i ≤ N ∧ n = nI (N - i) ∧ repM (mid S ws v j (ang pos a i) (lds (ldA S) pos a i) (pas pos a j P i)) m wr) (fun n _ _ => n.toNatClampNeg) ?_ _ _ _ ⟨0, by omega, rfl, hM⟩
    rintro g n m wr ⟨i, hi, en, hJ⟩ ih
    subst en
    unfold PX5_tick_L2
    refine ⟨fun c => ?_, fun c => ?_⟩ <;> rw [show (0 : Int32) = nI 0 from rfl, nI_leI (by omega) (by omega)] at c
    · obtain rfl : i = N := by omega
      exact h _ _ hJ
    · have hai := ang_lt (pos := pos) ha i
      have hs := stp_lt pos (ang pos a i)
      have ho := opp_lt (stp pos (ang pos a i))
      have hPi := pas_le (pos := pos) (a := a) hP i
      obtain ⟨q1, q2, q3, q4, q5, q6, q7, qW, q10⟩ := id hJ
      have hsum : ((m 4) + dirI pos).toInt = (ang pos a i : Int) + (if pos then 1 else -1) := i_add (by rw [q2]; exact i_nI (by show ang pos a i < _; omega)) (dirI_toInt pos) (by split <;> omega) (by split <;> omega)
      refine pX5_around hsum (by split <;> omega) (by split <;> omega) ?_
      rw [stp_int pos _ hai]
      intro m1 em1
      have g4 : m1 4 = nI (stp pos (ang pos a i)) := by rw [em1, pk_us]
      have g6 : m1 6 = nI (s_tck S + j) := by rw [em1, pk_un (by decide)]; exact q4
      have g7 : m1 7 = nI (lds (ldA S) pos a i) := by rw [em1, pk_un (by decide)]; exact q5
      have hW1 : rmW (s_wk S) (wcP S (pas pos a j P i)) (wiP S (pas pos a j P i)) m1 wr := by
        rw [em1]
        exact rmW_upd (by omega) qW
      rw [g4]
      have hlds := lds_le (pos := pos) (a := a) (ldA_le S) i
      refine tM_writes (b := 0) hS hW1 g6 (by omega) hs hw fun wr1 r1 r2 => ?_
      intro m2 em2
      rw [g7, nI_add] at em2
      have k4 : m2 4 = nI (stp pos (ang pos a i)) := by rw [em2, pk_un (by decide)]; exact g4
      have k6 : m2 6 = nI (s_tck S + j) := by rw [em2, pk_un (by decide)]; exact g6
      have k7 : m2 7 = nI (lds (ldA S) pos a i + sm 12 (fun l => dk (wantS S (stp pos (ang pos a i))) l &&& s_wk S 0 l)) := by rw [em2, pk_us]
      have k8 : m2 8 = nI (s_sec S) := by rw [em2, pk_un (by decide), em1, pk_un (by decide)]; exact q6
      have kr : ∀ q, q ≠ 4 → q ≠ 7 → m2 q = m q := fun q h4 h7 => by rw [em2, pk_un h7, em1, pk_un h4]
      have hW2 : rmW (s_wk S) (wcP S (pas pos a j P i)) (wiP S (pas pos a j P i)) m2 wr := by
        rw [em2]
        exact rmW_upd (by omega) hW1
      have fin : ∀ (x : Nat) (m3 wr3 : Nat → Int32), m3 = upd m2 7 (nI (lds (ldA S) pos a i + sm 12 (fun l => dk (wantS S (stp pos (ang pos a i))) l &&& s_wk S 0 l) + x)) → x = (if s_sec S = 1 then sm 12 (fun l => dk (wantS S (opp (stp pos (ang pos a i)))) l &&& s_wk S 1 l) else 0) → (s_sec S = 1 → (∀ l, l < 12 → wr3 (12 * opp (stp pos (ang pos a i)) + l) = if s_wk S 1 l = 1 then nI (8 * (s_tck S + j) + wantS S (opp (stp pos (ang pos a i))) l) else wr1 (12 * opp (stp pos (ang pos a i)) + l)) ∧ ∀ q, q < 12 * opp (stp pos (ang pos a i)) ∨ 12 * opp (stp pos (ang pos a i)) + 12 ≤ q → wr3 q = wr1 q) → (s_sec S ≠ 1 → wr3 = wr1) → ∀ v2 : Int32, v2 = nI (N - i) + (-1 : Int32) → PX5_tick_L2 ww (dirI pos) (fun v2_6 b_m_7 b_written_8 => (k b_m_7 b_written_8)) g v2 m3 wr3 := by
        intro x m3 wr3 em3 ex hA hB v2 ev2
        have g2 : v2 = nI (N - (i + 1)) := by
          rw [ev2, show N - i = N - (i + 1) + 1 by omega]
          exact pk_m1 _
        refine ih _ _ _ ⟨i + 1, by omega, g2, ?_⟩ (by rw [g2, nI_clamp (by omega), nI_clamp (by omega)]; omega)
        have kr3 : ∀ q, q ≠ 4 → q ≠ 7 → m3 q = m q := fun q h4 h7 => by rw [em3, pk_un h7]; exact kr q h4 h7
        refine mid_M hJ (by rw [kr3 0 (by decide) (by decide)]; exact (q7 0 (by omega)).trans (mid_0 S ws v j _ _ _)) (by rw [em3, pk_un (by decide)]; exact k4) (by rw [kr3 5 (by decide) (by decide)]; exact q3) (by rw [em3, pk_un (by decide)]; exact k6) ?_ (fun q _ h4 _ _ h7 => kr3 q h4 h7) ?_
        · rw [em3, pk_us, ex]
          refine congrArg nI ?_
          show _ = lds (ldA S) pos a i + ldA S (ang pos a (i + 1))
          unfold ldA
          rw [Nat.add_assoc]
          rfl
        · exact step_places hs hj hPi qW.2 r1 r2 hA hB
      rw [k8]
      refine ⟨fun c2 => ?_, fun c2 m3 em3 v2 ev2 => ?_⟩
      · have ksec := hS.2.2.2.2.1
        have z : s_sec S = 1 := by
          have : ¬ s_sec S = 0 := fun z => c2 (by rw [z]; rfl)
          omega
        rw [k4, opp_I _ hs]
        refine tM_writes (b := 1) hS hW2 k6 (by omega) ho hw fun wr3 r3 r4 => ?_
        intro m3 em3 v2 ev2
        rw [k7, nI_add] at em3
        exact fin _ m3 wr3 em3 (by rw [if_pos z]) (fun _ => ⟨r3, r4⟩) (fun y => absurd z y) v2 ev2
      · have ksec := hS.2.2.2.2.1
        have z : s_sec S = 0 := (nI_eq (b := 0) (by omega) (by omega)).mp c2
        rw [k7, show (0 : Int32) = nI 0 from rfl, nI_add] at em3
        exact fin 0 m3 wr1 em3 (by rw [if_neg (by omega)]) (fun y => by omega) (fun _ => rfl) v2 ev2
  refine ⟨fun c => ?_, fun c => ?_⟩ <;> rw [i_le h0 hv] at c
  · have e : m 5 = nI v.natAbs := i_of (by rw [hv]; omega)
    rw [e]
    exact loop
  · have e : -(m 5) = nI v.natAbs := i_of (by rw [i_neg hv (by omega) (by omega)]; omega)
    rw [e]
    exact loop
theorem tM_tick {T : Nat} {S : AS} {ws : Int} {j : Nat} {Z : ZS} {m wr ww : Nat → Int32} {k : (Nat → Int32) → (Nat → Int32) → Prop} (hS : okS T S) (hT : T < 9000) (hj2 : j < 900) (hZ : okZ j Z) (hws : -60 ≤ ws ∧ ws ≤ 60) (hM : repM (runS S ws j Z) m wr) (hw : ∀ a l, a < 720 → l < 12 → ww (12 * a + l) = nI (wantS S a l))
    (h : ∀ m' wr', repM (runS S ws (j + 1) (tk (ldA S) (pwN S) (lmN S) ws (j + 1) Z)) m' wr' → k m' wr') : PX5_tick m wr ww k := by
  obtain ⟨z1, z2, z3, z4⟩ := hZ
  have kG := hS.2.2.2.2.2.1
  obtain ⟨q1, q2, q3, q4, q5, q6, q7, qW, q10⟩ := id hM
  have e1 : m 1 = nI (pwN S) := i_of (by rw [q7 1 (by omega)]; show nu (s_stg S) 0 ws 1 = _; rw [nu_n (by decide)]; have := kG.2.1; unfold pwN; omega)
  have e2 : m 2 = nI (lmN S) := i_of (by rw [q7 2 (by omega)]; show nu (s_stg S) 0 ws 2 = _; rw [nu_n (by decide)]; have := kG.2.2.1; unfold lmN; omega)
  have hpw : pwN S ≤ 20 := by have := kG.2.1; unfold pwN; omega
  have hlm : lmN S ≤ 9999 := by have := kG.2.2.1; unfold lmN; omega
  unfold PX5_tick
  refine tM_newSpeed (ws := ws) (v := Z.2.1) hpw hlm z3 e1 e2 q5 ((q7 0 (by omega)).trans (mid_0 S ws Z.2.1 j _ _ _)) q3 hws z2 fun s hs => ?_
  intro m2 em2 m3 em3
  have hv := nsp_in (pw := pwN S) (lm := lmN S) (L := Z.2.2.1) hws z2
  unfold tk at h
  generalize nsp (pwN S) (lmN S) ws Z.2.1 Z.2.2.1 = v at hs hv h
  have g5 : (m3 5).toInt = v := by rw [em3, pk_un (by decide), em2, pk_un (by decide), pk_us]; exact hs
  have hM3 : repM (mid S ws v (j + 1) Z.1 0 Z.2.2.2) m3 wr := by
    refine mid_M hM ?_ ?_ g5 ?_ ?_ (fun q _ h4 h5 h6 h7 => by rw [em3, pk_un h7, em2, pk_un h6, pk_un h5]) qW.2
    · rw [em3, pk_un (by decide), em2, pk_un (by decide), pk_un (by decide)]; exact (q7 0 (by omega)).trans (mid_0 S ws Z.2.1 j _ _ _)
    · rw [em3, pk_un (by decide), em2, pk_un (by decide), pk_un (by decide)]; exact q2
    · rw [em3, pk_un (by decide), em2, pk_us, pk_un (by decide), q4]; exact nI_1 _
    · rw [em3, pk_us]; rfl
  have h0 : (0 : Int32).toInt = 0 := by decide
  refine ⟨fun c => ?_, fun c => ?_⟩ <;> rw [i_le h0 g5] at c
  · by_cases zz : v = 0
    · subst zz
      exact tM_tickJ (pos := true) hS hT (by omega) (by omega) z1 hv (fun q => Nat.le_succ_of_le (z4 q)) hM3 hw h
    · have e : tkp v = true := decide_eq_true (by omega)
      rw [e] at h
      exact tM_tickJ (pos := true) hS hT (by omega) (by omega) z1 hv (fun q => Nat.le_succ_of_le (z4 q)) hM3 hw h
  · have e : tkp v = false := decide_eq_false (by omega)
    rw [e] at h
    exact tM_tickJ (pos := false) hS hT (by omega) (by omega) z1 hv (fun q => Nat.le_succ_of_le (z4 q)) hM3 hw h
theorem tM_goOn {T : Nat} {S : AS} {ws : Int} {n : Nat} {Z0 : ZS} {m wr ww : Nat → Int32} {k : (Nat → Int32) → (Nat → Int32) → Prop} (hS : okS T S) (hT : T < 9000) (hn : n ≤ 800) (hZ : okZ 0 Z0) (hws : -60 ≤ ws ∧ ws ≤ 60) (hM : repM (runS S ws 0 Z0) m wr) (hw : ∀ a l, a < 720 → l < 12 → ww (12 * a + l) = nI (wantS S a l))
    (h : ∀ m' wr', repM (runS S ws n (zs (ldA S) (pwN S) (lmN S) ws Z0 n)) m' wr' → k m' wr') : PX5_goOn m wr ww (nI n) k := by
  unfold PX5_goOn
  refine lp3 (PX5_goOn_L1 ww (nI n) _) (fun v m wr => ∃ i, i ≤ n ∧ v = nI i ∧ repM (runS S ws i (zs (ldA S) (pwN S) (lmN S) ws Z0 i)) m wr) (fun v _ _ => n - v.toNatClampNeg) ?_ _ _ _ ⟨0, by omega, rfl, hM⟩
  rintro g v m wr ⟨i, hi, ev, hJ⟩ ih
  subst ev
  unfold PX5_goOn_L1
  refine ⟨fun c => ?_, fun c => ?_⟩ <;> rw [nI_leI (by omega) (by omega)] at c
  · obtain rfl : i = n := by omega
    exact h _ _ hJ
  · refine tM_tick hS hT (by omega) (zs_ok (ldA_le S) hws hZ i) hws hJ hw fun m' wr' hM' v1 e1 => ?_
    rw [nI_1] at e1
    exact ih _ _ _ ⟨i + 1, by omega, e1, hM'⟩ (by rw [e1, nI_clamp (by omega), nI_clamp (by omega)]; omega)
