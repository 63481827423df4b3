/-! the small actions and lookups -/
theorem pick4 {lo hi a : Int32} {L H : Nat} {k : Int32 → Prop} (hlo : lo.toInt = (L : Int)) (hhi : hi.toInt = (H : Int)) (h1 : ∀ x, L ≤ x → x ≤ H → a = nI x → k 1) (h0 : ¬ ((L : Int) ≤ a.toInt ∧ a.toInt ≤ (H : Int)) → k 0) : PX4_within a lo hi k :=
  pX4_within hlo hhi (fun c1 c2 => h1 a.toInt.toNat (by omega) (by omega) (i_of (by omega))) h0
theorem top_of {cnt : Nat} (hc : cnt ≤ 4) : ((nI cnt) - (1 : Int32)).toInt = (cnt : Int) - 1 := i_sub (i_nI (by omega)) (show (1 : Int32).toInt = 1 by decide) (by omega) (by omega)
theorem pick4p {cnt : Nat} {a : Int32} {k : Option Nat → Prop} (hc : cnt ≤ 4) (h1 : ∀ p, p < cnt → a = nI p → k (some p)) (h0 : ¬ (0 ≤ a.toInt ∧ a.toInt ≤ (cnt : Int) - 1) → k none) : PX2_pictureNumbered (nI cnt) a k := by
  unfold PX2_pictureNumbered
  refine pX4_within (show (0 : Int32).toInt = 0 by decide) (top_of hc) (fun c1 c2 => ⟨fun c => absurd c (by decide), fun _ => ?_⟩) (fun c => ⟨fun _ => h0 c, fun q => absurd rfl q⟩)
  have e : a = nI a.toInt.toNat := i_of (by omega)
  refine ⟨?_, fun j hj ej => ?_⟩
  · rw [e]; exact vp_in_nI (by omega) (by decide)
  · rw [e, nI_clamp (by omega)] at ej
    subst ej
    exact h1 _ (by omega) e
theorem cellN (p j : Nat) : (((12 : Int32) + ((4 : Int32) * nI p)) + nI j) = nI (12 + 4 * p + j) := by
  rw [show (12 : Int32) = nI 12 from rfl, show (4 : Int32) = nI 4 from rfl, pk_mul, nI_add, nI_add]
/-- a row with one entry changed -/
def nu {α : Type} (f : Nat → α) (p : Nat) (v : α) : Nat → α := fun q => if q = p then v else f q
theorem nu_s {α : Type} {f : Nat → α} {p : Nat} {v : α} : nu f p v p = v := if_pos rfl
theorem nu_n {α : Type} {f : Nat → α} {p q : Nat} {v : α} (h : q ≠ p) : nu f p v q = f q := if_neg h
theorem rmW_upd {wk wc wi : Nat → Nat → Nat} {m wr : Nat → Int32} {j : Nat} {v : Int32} (hj : j ≠ 9 ∧ j ≠ 10) (h : rmW wk wc wi m wr) : rmW wk wc wi (upd m j v) wr := by
  refine ⟨fun a ha => ?_, h.2⟩
  rw [pk_un (by omega)]
  exact h.1 a ha
theorem rmP_upd {cnt : Nat} {wd fs sp kd : Nat → Nat} {co : Nat → Nat → Nat → Nat} {m : Nat → Int32} {j : Nat} {v : Int32} (hj : j < 12) (h : rmP cnt wd fs sp kd co m) : rmP cnt wd fs sp kd co (upd m j v) := by
  intro p hp
  obtain ⟨b1, b2, b3, b4, b5⟩ := h p hp
  exact ⟨by rw [pk_un (by omega)]; exact b1, by rw [pk_un (by omega)]; exact b2, by rw [pk_un (by omega)]; exact b3, by rw [pk_un (by omega)]; exact b4, fun c h hc hh => by rw [pk_un (by omega)]; exact b5 c h hc hh⟩
/-- the eight first facts, when a cell beyond them is changed -/
theorem repM_top {S S' : AS} {m wr : Nat → Int32} {j : Nat} {v : Int32} (hj : 11 < j) (h : repM S m wr) (e : (s_cnt S', s_ang S', s_spd S', s_tck S', s_ld S', s_sec S', s_stg S', s_wk S', s_wc S', s_wi S') = (s_cnt S, s_ang S, s_spd S, s_tck S, s_ld S, s_sec S, s_stg S, s_wk S, s_wc S, s_wi S)) (hp : rmP (s_cnt S') (s_wd S') (s_fs S') (s_sp S') (s_kd S') (s_co S') (upd m j v)) : repM S' (upd m j v) wr := by
  simp only [Prod.mk.injEq] at e
  obtain ⟨q1, q2, q3, q4, q5, q6, q7, q8, q9, q10⟩ := e
  obtain ⟨a1, a2, a3, a4, a5, a6, a7, a8, a9⟩ := h
  refine ⟨by rw [pk_un (by omega), q1]; exact a1, by rw [pk_un (by omega), q2]; exact a2, by rw [pk_un (by omega), q3]; exact a3, by rw [pk_un (by omega), q4]; exact a4, by rw [pk_un (by omega), q5]; exact a5, by rw [pk_un (by omega), q6]; exact a6, fun i hi => by rw [pk_un (by omega), q7]; exact a7 i hi, by rw [q8, q9, q10]; exact rmW_upd (by omega) a8, hp⟩
/-- the state with other pictures -/
def sP (S : AS) (cnt : Nat) (wd fs sp kd : Nat → Nat) (co : Nat → Nat → Nat → Nat) : AS := (cnt, s_ang S, s_spd S, s_tck S, s_ld S, s_sec S, s_stg S, s_wk S, s_wc S, s_wi S, wd, fs, sp, kd, co)
theorem sP_ok {S : AS} {T cnt : Nat} {wd fs sp kd : Nat → Nat} {co : Nat → Nat → Nat → Nat} (h : okS T S) (hc : cnt ≤ 4) (hp : okP cnt wd fs sp kd co) : okS T (sP S cnt wd fs sp kd co) := by
  obtain ⟨a1, a2, a3, a4, a5, a6, a7, a8⟩ := h
  exact ⟨hc, a2, a3, a4, a5, a6, hp, a8⟩
theorem sP_C {S : AS} {cnt : Nat} {wd fs sp kd : Nat → Nat} {co : Nat → Nat → Nat → Nat} {n_pictureCount n_angle n_speed n_ticks n_load n_secondArm : Int32} {n_settings : Nat → Int32} {n_working n_written : Nat → Int64} {n_writtenIn n_width n_first n_step n_kind : Nat → Int32} {n_columns : Nat → Nat → Int64} {z1 : Int32} {z2 z3 z4 z5 : Nat → Int32} {z6 : Nat → Nat → Int64}
    (hC : repC S n_pictureCount n_angle n_speed n_ticks n_load n_secondArm n_settings n_working n_written n_writtenIn n_width n_first n_step n_kind n_columns) (h1 : z1 = nI cnt) (h2 : rcP cnt wd fs sp kd co z2 z3 z4 z5 z6) : repC (sP S cnt wd fs sp kd co) z1 n_angle n_speed n_ticks n_load n_secondArm n_settings n_working n_written n_writtenIn z2 z3 z4 z5 z6 := by
  obtain ⟨a1, a2, a3, a4, a5, a6, a7, a8, a9⟩ := hC
  exact ⟨h1, a2, a3, a4, a5, a6, a7, a8, h2⟩
