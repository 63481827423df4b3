/-! some ticks -/
def sv (S : AS) : Nat → Int
  | 0 => 0
  | i + 1 => sv S i + (zS S (s_stg S 0) (i + 1)).2.1
theorem sv_in {T : Nat} {S : AS} (hS : okS T S) : ∀ i : Nat, -(60 * (i : Int)) ≤ sv S i ∧ sv S i ≤ 60 * (i : Int)
  | 0 => by
    show -(60 * ((0 : Nat) : Int)) ≤ 0 ∧ (0 : Int) ≤ 60 * ((0 : Nat) : Int)
    omega
  | i + 1 => by
    have h1 := sv_in hS i
    have h2 := (zS_ok hS hS.2.2.2.2.2.1.1 (i + 1)).2.1
    show -(60 * ((i + 1 : Nat) : Int)) ≤ sv S i + _ ∧ sv S i + _ ≤ 60 * ((i + 1 : Nat) : Int)
    omega
theorem ang_sv {T : Nat} {S : AS} (hS : okS T S) : ∀ i, ((zS S (s_stg S 0) i).1 : Int) = ((s_ang S : Int) + sv S i) % 720
  | 0 => by
    have ha := hS.2.1
    show (s_ang S : Int) = ((s_ang S : Int) + 0) % 720
    omega
  | i + 1 => by
    have h1 := ang_sv hS i
    have hz := zS_ok hS hS.2.2.2.2.2.1.1 i
    have hz1 := zS_ok hS hS.2.2.2.2.2.1.1 (i + 1)
    have e := ang_tk (a := (zS S (s_stg S 0) i).1) (v := (zS S (s_stg S 0) (i + 1)).2.1) hz.1 hz1.2.1
    have e2 : ((zS S (s_stg S 0) (i + 1)).1 : Int) = (((zS S (s_stg S 0) i).1 : Int) + (zS S (s_stg S 0) (i + 1)).2.1) % 720 := e
    rw [e2, h1]
    show _ = ((s_ang S : Int) + (sv S i + (zS S (s_stg S 0) (i + 1)).2.1)) % 720
    omega
theorem far_mono (S : AS) (t : Nat) : ∀ d, far S t ≤ far S (t + d)
  | 0 => Nat.le_refl _
  | d + 1 => Nat.le_trans (far_mono S t d) (Nat.le_add_right _ _)
theorem rem_all {x : Int32} {X : Int} (hx : x.toInt = X) (h : -100000 ≤ X ∧ X ≤ 100000) : ∃ R : Int, (x - x / (720 : Int32) * (720 : Int32)).toInt = R ∧ -720 < R ∧ R < 720 ∧ ∃ q : Int, X = 720 * q + R := by
  refine ⟨X.tmod 720, i_rem hx (show (720 : Int32).toInt = 720 by decide) (by omega), ?_⟩
  by_cases c : 0 ≤ X
  · rw [Int.tmod_eq_emod_of_nonneg c]
    exact ⟨by omega, by omega, X / 720, by omega⟩
  · have e : X.tmod 720 = -((-X) % 720) := by
      rw [← Int.tmod_eq_emod_of_nonneg (show 0 ≤ -X by omega), Int.neg_tmod, Int.neg_neg]
    rw [e]
    exact ⟨by omega, by omega, -((-X) / 720), by omega⟩
theorem run_angle {T : Nat} {S : AS} (hS : okS T S) {i : Nat} (hi : i ≤ 1000) {x : Int32} (hx : x.toInt = sv S i) : nI (zS S (s_stg S 0) i).1 = (((nI (s_ang S) + (x - x / (720 : Int32) * (720 : Int32))) + (720 : Int32)) - ((nI (s_ang S) + (x - x / (720 : Int32) * (720 : Int32))) + (720 : Int32)) / (720 : Int32) * (720 : Int32)) := by
  have h1 := sv_in hS i
  have ha := hS.2.1
  obtain ⟨R, hR, r1, r2, q, hq⟩ := rem_all hx (by omega)
  have e := ang_sv hS i
  have hz := (zS_ok hS hS.2.2.2.2.2.1.1 i).1
  generalize (x - x / (720 : Int32) * (720 : Int32)) = y at hR ⊢
  have e2 : ((nI (s_ang S) + y) + (720 : Int32)) = nI ((s_ang S : Int) + R + 720).toNat := by
    refine i_of ?_
    rw [i_add (i_add (i_nI (by omega)) hR (by omega) (by omega)) (show (720 : Int32).toInt = 720 by decide) (by omega) (by omega)]
    omega
  rw [e2, show (720 : Int32) = nI 720 from rfl, pk_rem (by omega) (by decide) (by decide)]
  refine congrArg nI ?_
  omega
theorem tL_ru1 {S0 : AS} {n0 : Nat} {h0 : Nat → AS} (hS : okS 5000 S0) {T : Nat} (hT : T ≤ 60) (ht : s_tck S0 + T ≤ 5000) {r19 : Int32} (hr : TA S0 r19) {k : Int32 → VS → Prop} {kx : Int32 → Int32 → Int32 → Int32 → VS → Prop} (hk : ∀ (v4 v5 v7 v8 : Int32) (S : AS) (n : Nat) (h : Nat → AS), okS 5000 S → s_cnt S = s_cnt S0 → s_tck S = s_tck S0 + T → s_ang S = (zS S0 (s_stg S0 0) T).1 → v5.toInt = sv S0 T → kx v4 v5 v7 v8 (S, n, h)) : ∃ f, PL_runs_L1 (nI T) k (nI (s_tck S0)) r19 kx f (0 : Int32) (0 : Int32) (0 : Int32) (0 : Int32) (S0, n0, h0) := by
  have kG := hS.2.2.2.2.2.1
  have hpw := pwN_le hS
  have hlm := lmN_le hS
  have epw : s_stg S0 1 = (pwN S0 : Int) := by have := kG.2.1; unfold pwN; omega
  have elm : s_stg S0 2 = (lmN S0 : Int) := by have := kG.2.2.1; unfold lmN; omega
  refine lp5 (PL_runs_L1 (nI T) k (nI (s_tck S0)) r19 kx) (fun v4 v5 v7 v8 V => ∃ (i : Nat) (S : AS) (n : Nat) (h : Nat → AS), i ≤ T ∧ V = (S, n, h) ∧ okS 5000 S ∧ behind S0 i S ∧ v8 = nI i ∧ v5.toInt = sv S0 i ∧ v7 = nI (far S0 i)) (fun _ _ _ v8 _ => T - v8.toNatClampNeg) ?_ _ _ _ _ _ ⟨0, S0, n0, h0, by omega, rfl, hS, behind_0 S0, rfl, (show (0 : Int32).toInt = 0 by decide), rfl⟩
  rintro f v4 v5 v7 v8 V ⟨i, S, n, h, hi, eV, hok, hbh, e8, e5, e7⟩ ih
  subst eV e8 e7
  obtain ⟨wc, wi, eS⟩ := id hbh
  have hz := zS_ok hS kG.1 i
  have hz1 := zS_ok hS kG.1 (i + 1)
  have fAng : s_ang S = (zS S0 (s_stg S0 0) i).1 := by rw [eS]; rfl
  have fSpd : s_spd S = (zS S0 (s_stg S0 0) i).2.1 := by rw [eS]; rfl
  have fLd : s_ld S = (zS S0 (s_stg S0 0) i).2.2.1 := by rw [eS]; rfl
  have fTck : s_tck S = s_tck S0 + i := by rw [eS]; rfl
  have fStg : s_stg S = s_stg S0 := by rw [eS]; rfl
  have fCnt : s_cnt S = s_cnt S0 := by rw [eS]; rfl
  have hfar := far_le hS i
  have hfar1 := far_le hS (i + 1)
  have hsv := sv_in hS i
  unfold PL_runs_L1
  refine ⟨fun c => ?_, fun c => ?_⟩ <;> rw [nI_leI (by omega) (by omega)] at c
  · obtain rfl : i = T := by omega
    exact hk _ _ _ _ S n h hok fCnt fTck fAng e5
  · have hiT : i < T := by omega
    have hbh1 := behind_1 hbh
    obtain ⟨wc2, wi2, eS2⟩ := id hbh1
    have gSpd : s_spd (ruS S 1) = (zS S0 (s_stg S0 0) (i + 1)).2.1 := by rw [eS2]; rfl
    have gLd : s_ld (ruS S 1) = (zS S0 (s_stg S0 0) (i + 1)).2.2.1 := by rw [eS2]; rfl
    have gTck : s_tck (ruS S 1) = s_tck S0 + (i + 1) := by rw [eS2]; rfl
    have gStg : s_stg (ruS S 1) = s_stg S0 := by rw [eS2]; rfl
    have hlit := lit_run hok
    have hl0 := litC_le S
    have hl1 := litC_le (ruS S 1)
    have hld : (zS S0 (s_stg S0 0) (i + 1)).2.2.1 ≤ 24 * (zS S0 (s_stg S0 0) (i + 1)).2.1.natAbs := lds_le (ldA_le S0) _
    have hld2 := hz1.2.2.1
    have hldS : s_ld S ≤ 1440 := hok.2.2.2.1
    refine tA_count2 fun r38 h38 => tA_count5 (tA_count4 (tA_setting (x := 2) (by omega) fun r61 h61 => ?_))
    have hle : nI (s_ld S) ≤ r61 ↔ s_ld S ≤ lmN S0 := by
      rw [i_le (i_nI (by omega)) h61, fStg, elm]
      omega
    have hnsp : (zS S0 (s_stg S0 0) (i + 1)).2.1 = nsp (pwN S0) (lmN S0) (s_stg S0 0) (zS S0 (s_stg S0 0) i).2.1 (zS S0 (s_stg S0 0) i).2.2.1 := rfl
    rw [nsp_le] at hnsp
    rw [← fSpd, ← fLd] at hnsp
    have hvS : -60 ≤ s_spd S ∧ s_spd S ≤ 60 := hok.2.2.1
    -- the tick
    have j2 : ∀ (M : Nat) (t : Int32), M ≤ 20 → t = nI M → ((M : Nat) : Int) = (if s_ld S ≤ lmN S0 then (pwN S0 : Int) else ((pwN S0 / 2 : Nat) : Int)) → PL_runs_J2 k (nI (s_tck S0)) r19 (PL_runs_L1 (nI T) k (nI (s_tck S0)) r19 kx f) v5 (nI (far S0 i)) (nI i) (S, n, h) r38 (nI (litC S)) t := by
      intro M t hM et eM
      subst et
      rw [← eM] at hnsp
      have hMI : (nI M).toInt = (M : Int) := i_nI (by omega)
      have h38' : r38.toInt = s_spd S := h38
      unfold PL_runs_J2
      refine tA_run (x := 1) (by omega) (by omega) (by omega) fun hok' => tA_count2 fun r93 h93 => ?_
      rw [gSpd] at h93
      have j3 : ∀ due : Int32, due.toInt = (zS S0 (s_stg S0 0) (i + 1)).2.1 → PL_runs_J3 k (nI (s_tck S0)) r19 (PL_runs_L1 (nI T) k (nI (s_tck S0)) r19 kx f) v5 (nI (far S0 i)) (nI i) (nI (litC S)) (nI (s_ld (ruS S 1))) (act S n h (ruS S 1)) r93 due := by
        intro due hdue
        have hb := hz1.2.1
        unfold PL_runs_J3
        intro v5' f5
        have f5' : v5'.toInt = sv S0 (i + 1) := by
          rw [f5, i_add e5 h93 (by omega) (by omega)]
          rfl
        refine tL_size h93 hb fun v7' f7 => ?_
        have f7' : v7' = nI (far S0 (i + 1)) := by rw [f7, nI_add]; rfl
        subst f7'
        have nx : ∀ v8 : Int32, v8 = nI i + (1 : Int32) → PL_runs_L1 (nI T) k (nI (s_tck S0)) r19 kx f (nI (s_ld (ruS S 1))) v5' (nI (far S0 (i + 1))) v8 (act S n h (ruS S 1)) := by
          intro v8 e8
          rw [nI_1] at e8
          exact ih _ _ _ _ _ ⟨i + 1, ruS S 1, _, _, by omega, rfl, hok', hbh1, e8, f5', rfl⟩ (by rw [e8, nI_clamp (by omega), nI_clamp (by omega)]; omega)
        have h60 : (60 : Int32).toInt = 60 := by decide
        have hm60 : (-60 : Int32).toInt = -60 := by decide
        refine ⟨fun c2 => absurd (Int32.toInt_inj.mp (h93.trans hdue.symm)) c2, fun _ => ⟨fun c2 => ?_, fun _ => ⟨fun c2 => ?_, fun _ => ⟨fun c2 => absurd c2 (nI_nlt (b := 0) (by omega) (by omega)), fun _ => tA_count4 ⟨fun c2 => absurd rfl c2, fun _ => tL_size h93 hb ⟨fun c2 => ?_, fun _ => tA_count5 ?_⟩⟩⟩⟩⟩⟩
        · rw [i_lt h60 h93] at c2; omega
        · rw [i_lt h93 hm60] at c2; omega
        · rw [show (24 : Int32) = nI 24 from rfl, pk_mul] at c2
          exact absurd c2 (nI_nlt (by omega) (by omega))
        · show (((nI (litC S) + nI (s_ld (ruS S 1))) < nI (litC (ruS S 1)) → _) ∧ (¬ (nI (litC S) + nI (s_ld (ruS S 1))) < nI (litC (ruS S 1)) → _))
          rw [nI_add]
          refine ⟨fun c2 => absurd c2 (nI_nlt (by omega) (by omega)), fun _ => tA_count3 ?_⟩
          rw [gTck]
          refine ⟨fun c2 => absurd ?_ c2, fun _ => ⟨fun _ => nx, fun c3 => ?_⟩⟩
          · rw [nI_add, nI_1]; rfl
          · rcases hr with ⟨t, t1, t2, t3, t4, et⟩ | ⟨-, et⟩
            · subst et
              have hm := far_mono S0
              have fd : (720 ≤ far S0 (i + 1)) ↔ t ≤ i + 1 := by
                constructor
                · intro w
                  by_cases y : t ≤ i + 1
                  · exact y
                  · have := t3 (i + 1) (by omega); omega
                · intro w
                  have := hm t (i + 1 - t)
                  rw [show t + (i + 1 - t) = i + 1 by omega] at this
                  omega
              unfold PL_runs_J4 PL_runs_J5
              rw [nI_1]
              have hl : nI (i + 1) < nI t ↔ i + 1 < t := nI_ltI (by omega) (by omega)
              have hl7 : nI (far S0 (i + 1)) < (720 : Int32) ↔ far S0 (i + 1) < 720 := nI_ltI (b := 720) (by omega) (by omega)
              rw [hl7, hl]
              have nx' := fun (v8 : Int32) (e : v8 = nI (i + 1)) => nx v8 (by rw [e]; exact (nI_1 i).symm)
              refine ⟨fun c4 => ⟨fun c5 => ⟨fun _ => nx', fun c6 => absurd rfl c6⟩, fun c5 => absurd (fd.mpr (by omega)) (by omega)⟩, fun c4 => ⟨fun c5 => absurd (fd.mp (by omega)) (by omega), fun c5 => ⟨fun _ => nx', fun c6 => absurd rfl c6⟩⟩⟩
            · exact absurd et c3
      have hS0' : ∀ r : Int32, r.toInt = s_stg (ruS S 1) 0 → r.toInt = s_stg S0 0 := fun r hr => by rw [hr, gStg]
      have hadd : (r38 + nI M).toInt = s_spd S + (M : Int) := i_add h38' hMI (by omega) (by omega)
      have hsub : (r38 - nI M).toInt = s_spd S - (M : Int) := i_sub h38' hMI (by omega) (by omega)
      refine tA_setting (x := 0) (by omega) fun r100 h100 => ⟨fun c2 => tA_setting (x := 0) (by omega) fun r121 h121 => ⟨fun c3 => tA_setting (x := 0) (by omega) fun r142 h142 => j3 _ ?_, fun c3 => j3 _ ?_⟩, fun c2 => j3 _ ?_⟩
      · rw [i_le (hS0' _ h100) hadd] at c2
        rw [i_le hsub (hS0' _ h121)] at c3
        rw [hS0' _ h142, hnsp, if_neg (by omega), if_neg (by omega)]
      · rw [i_le (hS0' _ h100) hadd] at c2
        rw [i_le hsub (hS0' _ h121)] at c3
        rw [hsub, hnsp, if_neg (by omega), if_pos (by omega)]
      · rw [i_le (hS0' _ h100) hadd] at c2
        rw [hadd, hnsp, if_pos (by omega)]
    have hpI : ∀ r : Int32, r.toInt = s_stg S 1 → r = nI (pwN S0) := fun r hr => i_of (by rw [hr, fStg, epw])
    refine ⟨fun c2 => tA_setting (x := 1) (by omega) fun r79 h79 => ?_, fun c2 => tA_setting (x := 1) (by omega) fun r69 h69 => ?_⟩ <;> rw [hle] at c2
    · exact j2 (pwN S0) _ hpw (hpI _ h79) (by rw [if_pos c2])
    · refine j2 (pwN S0 / 2) _ (by omega) ?_ (by rw [if_neg c2])
      rw [hpI _ h69]
      exact pk_div (d := 2) (by omega) (by decide) (by decide)
theorem tL_runs {S0 : AS} {n0 : Nat} {h0 : Nat → AS} (hS : okS 5000 S0) {T : Nat} (hT : T ≤ 60) (ht : s_tck S0 + T ≤ 5000) {k : Int32 → VS → Prop} (hk : ∀ (S : AS) (n : Nat) (h : Nat → AS), okS 5000 S → s_cnt S = s_cnt S0 → s_tck S = s_tck S0 + T → k 1 (S, n, h)) : PL_runs (S0, n0, h0) (nI T) k := by
  have kG := hS.2.2.2.2.2.1
  unfold PL_runs
  refine tA_count1 (tA_count3 (tA_ticksAround fun r19 hr => ?_))
  refine tL_ru1 hS hT ht hr fun v4 v5 v7 v8 S n h hok fCnt fTck fAng e5 => ?_
  refine tA_count1 ⟨fun c2 => absurd ?_ c2, fun _ => ⟨fun _ => ?_, fun c3 => ?_⟩⟩
  · rw [fAng]; exact run_angle hS (by omega) e5
  · unfold PL_runs_J6
    exact hk S n h hok fCnt fTck
  · rcases hr with ⟨t, t1, t2, t3, t4, et⟩ | ⟨-, et⟩
    · subst et
      have hft := far_le hS t
      unfold PL_runs_J6
      refine ⟨fun c4 => ?_, fun _ => ⟨fun c4 => ?_, fun _ => hk S n h hok fCnt fTck⟩⟩
      · rw [show (11 : Int32) = nI 11 from rfl, nI_leI (by omega) (by omega)] at c4
        omega
      · rw [show (501 : Int32) = nI 501 from rfl, nI_leI (by omega) (by omega)] at c4
        omega
    · exact absurd et c3
