/-! the small actions and lookups -/
theorem pick4 {lo hi a : Int32} {L H : Nat} {k : Int32 → Prop} (hlo : lo.toInt = (L : Int)) (hhi : hi.toInt = (H : Int)) (h1 : ∀ x, L ≤ x → x ≤ H → a = nI x → k 1) (h0 : ¬ ((L : Int) ≤ a.toInt ∧ a.toInt ≤ (H : Int)) → k 0) : PX4_within a lo hi k :=
  pX4_within hlo hhi (fun c1 c2 => h1 a.toInt.toNat (by omega) (by omega) (i_of (by omega))) h0
theorem yes5 {lo hi : Int32} {x L H : Nat} {k : Int32 → Prop} (hlo : lo.toInt = (L : Int)) (hhi : hi.toInt = (H : Int)) (h1 : L ≤ x) (h2 : x ≤ H) (h : k 1) : PX5_in (nI x) lo hi k := by
  have hH := Int32.toInt_lt hi
  refine pX5_in hlo hhi (fun _ _ => h) (fun c => absurd ?_ c)
  rw [i_nI (show x < 2 ^ 31 by omega)]
  omega
theorem no5 {lo hi a : Int32} {A B : Int} {k : Int32 → Prop} (hlo : lo.toInt = A) (hhi : hi.toInt = B) (h : ¬ (A ≤ a.toInt ∧ a.toInt ≤ B)) (hk : k 0) : PX5_in a lo hi k :=
  pX5_in hlo hhi (fun c1 c2 => absurd ⟨c1, c2⟩ h) (fun _ => hk)
theorem yes5l {x : Nat} {k : Int32 → Prop} (h1 : x ≤ 11) (h : k 1) : PX5_isLight (nI x) k := by
  unfold PX5_isLight
  exact yes5 (L := 0) (H := 11) (by decide) (by decide) (by omega) h1 ⟨Or.inr rfl, h⟩
theorem no5l {a : Int32} {k : Int32 → Prop} (h1 : ¬ (((0 : Nat) : Int) ≤ a.toInt ∧ a.toInt ≤ ((11 : Nat) : Int))) (h : k 0) : PX5_isLight a k := by
  unfold PX5_isLight
  exact no5 (A := 0) (B := 11) (by decide) (by decide) h1 ⟨Or.inl rfl, h⟩
theorem top_of {cnt : Nat} (hc : cnt ≤ 4) : ((nI cnt) - (1 : Int32)).toInt = (cnt : Int) - 1 := i_sub (i_nI (by omega)) (show (1 : Int32).toInt = 1 by decide) (by omega) (by omega)
theorem pick4p {cnt : Nat} {a : Int32} {k : Option Nat → Prop} (hc : cnt ≤ 4) (h1 : ∀ p, p < cnt → a = nI p → k (some p)) (h0 : ¬ (0 ≤ a.toInt ∧ a.toInt ≤ (cnt : Int) - 1) → k none) : PX2_pictureNumbered (nI cnt) a k := by
  unfold PX2_pictureNumbered
  refine pX4_within (show (0 : Int32).toInt = 0 by decide) (top_of hc) (fun c1 c2 => ⟨fun c => absurd c (by decide), fun _ => ?_⟩) (fun c => ⟨fun _ => h0 c, fun q => absurd rfl q⟩)
  have e : a = nI a.toInt.toNat := i_of (by omega)
  refine ⟨?_, fun j hj ej => ?_⟩
  · rw [e]; exact vp_in_nI (by omega) (by decide)
  · rw [e, nI_clamp (by omega)] at ej
    subst ej
    exact h1 _ (by omega) e
theorem yes5p {m : Nat → Int32} {cnt p : Nat} {k : Int32 → Prop} (hm : m 11 = nI cnt) (hc : cnt ≤ 4) (hp : p < cnt) (h : k 1) : PX5_isPicture m (nI p) k := by
  unfold PX5_isPicture
  rw [hm]
  refine pX5_in (show (0 : Int32).toInt = 0 by decide) (top_of hc) (fun _ _ => ⟨Or.inr rfl, h⟩) (fun c => absurd ?_ c)
  rw [i_nI (show p < 2 ^ 31 by omega)]
  omega
theorem no5p {m : Nat → Int32} {cnt : Nat} {a : Int32} {k : Int32 → Prop} (hm : m 11 = nI cnt) (hc : cnt ≤ 4) (h0 : ¬ (0 ≤ a.toInt ∧ a.toInt ≤ (cnt : Int) - 1)) (h : k 0) : PX5_isPicture m a k := by
  unfold PX5_isPicture
  rw [hm]
  exact pX5_in (show (0 : Int32).toInt = 0 by decide) (top_of hc) (fun c1 c2 => absurd ⟨c1, c2⟩ h0) (fun _ => ⟨Or.inl rfl, h⟩)
theorem cellN (p j : Nat) : (((12 : Int32) + ((4 : Int32) * nI p)) + nI j) = nI (12 + 4 * p + j) := by
  rw [show (12 : Int32) = nI 12 from rfl, show (4 : Int32) = nI 4 from rfl, pk_mul, nI_add, nI_add]
theorem tM_of {m : Nat → Int32} {p j : Nat} {k : Int32 → Prop} (hp : p < 4) (hj : j < 4) (h : k (m (12 + 4 * p + j))) : PX5_of m (nI p) (nI j) k := by
  unfold PX5_of
  rw [cellN, nI_clamp (by omega)]
  exact ⟨vp_in_nI (by omega) (by decide), h⟩
/-- a row with one entry changed -/
def nu {α : Type} (f : Nat → α) (p : Nat) (v : α) : Nat → α := fun q => if q = p then v else f q
theorem nu_s {α : Type} {f : Nat → α} {p : Nat} {v : α} : nu f p v p = v := if_pos rfl
theorem nu_n {α : Type} {f : Nat → α} {p q : Nat} {v : α} (h : q ≠ p) : nu f p v q = f q := if_neg h
theorem rmW_upd {wk wc wi : Nat → Nat → Nat} {m wr : Nat → Int32} {j : Nat} {v : Int32} (hj : j ≠ 9 ∧ j ≠ 10) (h : rmW wk wc wi m wr) : rmW wk wc wi (upd m j v) wr := by
  refine ⟨fun a ha => ?_, h.2⟩
  rw [pk_un (by omega)]
  exact h.1 a ha
theorem rmP_upd {cnt : Nat} {wd fs sp kd : Nat → Nat} {co : Nat → Nat → Nat → Nat} {m : Nat → Int32} {j : Nat} {v : Int32} (hj : j < 12) (h : rmP cnt wd fs sp kd co m) : rmP cnt wd fs sp kd co (upd m j v) := by
  intro p hp
  obtain ⟨b1, b2, b3, b4, b5⟩ := h p hp
  exact ⟨by rw [pk_un (by omega)]; exact b1, by rw [pk_un (by omega)]; exact b2, by rw [pk_un (by omega)]; exact b3, by rw [pk_un (by omega)]; exact b4, fun c h hc hh => by rw [pk_un (by omega)]; exact b5 c h hc hh⟩
/-- the eight first facts, when a cell beyond them is changed -/
theorem repM_top {S S' : AS} {m wr : Nat → Int32} {j : Nat} {v : Int32} (hj : 11 < j) (h : repM S m wr) (e : (s_cnt S', s_ang S', s_spd S', s_tck S', s_ld S', s_sec S', s_stg S', s_wk S', s_wc S', s_wi S') = (s_cnt S, s_ang S, s_spd S, s_tck S, s_ld S, s_sec S, s_stg S, s_wk S, s_wc S, s_wi S)) (hp : rmP (s_cnt S') (s_wd S') (s_fs S') (s_sp S') (s_kd S') (s_co S') (upd m j v)) : repM S' (upd m j v) wr := by
  simp only [Prod.mk.injEq] at e
  obtain ⟨q1, q2, q3, q4, q5, q6, q7, q8, q9, q10⟩ := e
  obtain ⟨a1, a2, a3, a4, a5, a6, a7, a8, a9⟩ := h
  refine ⟨by rw [pk_un (by omega), q1]; exact a1, by rw [pk_un (by omega), q2]; exact a2, by rw [pk_un (by omega), q3]; exact a3, by rw [pk_un (by omega), q4]; exact a4, by rw [pk_un (by omega), q5]; exact a5, by rw [pk_un (by omega), q6]; exact a6, fun i hi => by rw [pk_un (by omega), q7]; exact a7 i hi, by rw [q8, q9, q10]; exact rmW_upd (by omega) a8, hp⟩
/-- the state with other pictures -/
def sP (S : AS) (cnt : Nat) (wd fs sp kd : Nat → Nat) (co : Nat → Nat → Nat → Nat) : AS := (cnt, s_ang S, s_spd S, s_tck S, s_ld S, s_sec S, s_stg S, s_wk S, s_wc S, s_wi S, wd, fs, sp, kd, co)
theorem sP_ok {S : AS} {T cnt : Nat} {wd fs sp kd : Nat → Nat} {co : Nat → Nat → Nat → Nat} (h : okS T S) (hc : cnt ≤ 4) (hp : okP cnt wd fs sp kd co) : okS T (sP S cnt wd fs sp kd co) := by
  obtain ⟨a1, a2, a3, a4, a5, a6, a7, a8⟩ := h
  exact ⟨hc, a2, a3, a4, a5, a6, hp, a8⟩
theorem sP_C {S : AS} {cnt : Nat} {wd fs sp kd : Nat → Nat} {co : Nat → Nat → Nat → Nat} {n_pictureCount n_angle n_speed n_ticks n_load n_secondArm : Int32} {n_settings : Nat → Int32} {n_working n_written : Nat → Int64} {n_writtenIn n_width n_first n_step n_kind : Nat → Int32} {n_columns : Nat → Nat → Int64} {z1 : Int32} {z2 z3 z4 z5 : Nat → Int32} {z6 : Nat → Nat → Int64}
    (hC : repC S n_pictureCount n_angle n_speed n_ticks n_load n_secondArm n_settings n_working n_written n_writtenIn n_width n_first n_step n_kind n_columns) (h1 : z1 = nI cnt) (h2 : rcP cnt wd fs sp kd co z2 z3 z4 z5 z6) : repC (sP S cnt wd fs sp kd co) z1 n_angle n_speed n_ticks n_load n_secondArm n_settings n_working n_written n_writtenIn z2 z3 z4 z5 z6 := by
  obtain ⟨a1, a2, a3, a4, a5, a6, a7, a8, a9⟩ := hC
  exact ⟨h1, a2, a3, a4, a5, a6, a7, a8, h2⟩
theorem sim_setKind : SIM_setKind RR := by
  intro l_oldest l_historySize l_text l_textLength n_pictureCount n_angle n_speed n_ticks n_load n_secondArm n_settings n_working n_written n_writtenIn n_width n_first n_step n_kind n_columns hist b_m b_written b_states b_fifth b_oldest b_stateCount b_text b_textLength a_1 a_2 hR
  obtain ⟨S, o, n, h, tl, tx, hS, hC, hM, hO, hHC, hHM, e1, e2, e3, e4, hT⟩ := id hR
  have hcnt := hS.1
  have hpc := hC.1
  subst hpc
  unfold PX4_setKind
  refine pick4p hcnt (fun p hp ep => ⟨fun c => absurd c (by simp), fun j hj ej => ?_⟩) (fun c => ⟨fun _ => ?_, fun j _ ej => absurd ej (by simp)⟩)
  · obtain rfl : p = j := by simpa using ej
    subst ep
    refine pick4 (L := 0) (H := 2) (by decide) (by decide) (fun x _ hx ex => ⟨fun _ => ?_, fun c => absurd c (by decide)⟩) (fun c => ⟨fun q => absurd rfl q, fun _ => ?_⟩)
    · subst ex
      refine tC_record hS hC hO hHC e1 e3 fun hist' hH' => ?_
      intro v ev nk ek
      unfold PX5_setKind
      refine yes5p hM.1 hcnt hp ⟨fun c => absurd c (by decide), fun _ => ?_⟩
      refine yes5 (L := 0) (H := 2) (by decide) (by decide) (by omega) hx ⟨fun c => absurd c (by decide), fun _ => ?_⟩
      unfold PX5_put
      refine tM_record hM hO hHM e2 e4 fun st' fi' hM' => ?_
      have e15 : (((12 : Int32) + ((4 : Int32) * nI p)) + (3 : Int32)) = nI (12 + 4 * p + 3) := cellN p 3
      rw [e15, nI_clamp (by omega)]
      refine ⟨vp_in_nI (by omega) (by decide), fun v2 ev2 => ⟨vp_in_nI (by omega) (by decide), fun m2 em2 => ?_⟩⟩
      obtain ⟨-, -, -, -, -, -, -, -, rP⟩ := id hM
      obtain ⟨-, -, -, -, -, -, -, -, cP⟩ := id hC
      have hb := rP p hp
      refine ⟨by rw [ev, ev2, ((cP.2.1 p (by omega)).2.2), show 12 + 4 * p + 3 = 15 + 4 * p by omega, hb.2.2.2.1], sP S (s_cnt S) (s_wd S) (s_fs S) (s_sp S) (nu (s_kd S) p x) (s_co S), po o n, pn n, ph n h S, tl, tx, sP_ok hS hcnt ?_, sP_C hC rfl ?_, ?_, HO_push hO hS, hH', hM', rfl, rfl, rfl, rfl, hT⟩
      · obtain ⟨-, -, -, -, -, -, ⟨k1, k2, k3, k4⟩, -⟩ := hS
        refine ⟨k1, fun q hq => ⟨(k2 q hq).1, (k2 q hq).2.1, (k2 q hq).2.2.1, ?_⟩, k3, fun q h1 h2 => ?_⟩
        · by_cases z : q = p
          · rw [z, nu_s]; exact hx
          · rw [nu_n z]; exact (k2 q hq).2.2.2
        · rw [nu_n (by omega)]; exact k4 q h1 h2
      · refine ⟨cP.1, fun q hq => ⟨(cP.2.1 q hq).1, (cP.2.1 q hq).2.1, ?_⟩, cP.2.2⟩
        rw [ek]
        by_cases z : q = p
        · rw [z, nu_s, pk_us]
        · rw [nu_n z, pk_un z]; exact (cP.2.1 q hq).2.2
      · rw [em2]
        refine repM_top (by omega) hM rfl ?_
        intro q hq
        obtain ⟨b1, b2, b3, b4, b5⟩ := rP q hq
        refine ⟨by rw [pk_un (by omega)]; exact b1, by rw [pk_un (by omega)]; exact b2, by rw [pk_un (by omega)]; exact b3, ?_, fun c h hc hh => by rw [pk_un (by omega)]; exact b5 c h hc hh⟩
        by_cases z : q = p
        · subst z
          rw [show 15 + 4 * q = 12 + 4 * q + 3 by omega, pk_us]
          exact congrArg nI nu_s.symm
        · rw [pk_un (by omega), b4]
          exact congrArg nI (nu_n z).symm
    · unfold PX5_setKind
      refine yes5p hM.1 hcnt hp ⟨fun c => absurd c (by decide), fun _ => ?_⟩
      exact no5 (A := 0) (B := 2) (by decide) (by decide) c ⟨fun _ => ⟨rfl, hR⟩, fun q => absurd rfl q⟩
  · unfold PX5_setKind
    exact no5p hM.1 hcnt c ⟨fun _ => ⟨rfl, hR⟩, fun q => absurd rfl q⟩
