theorem mP_of {S : AS} {m wr : Nat → Int32} {p : Nat} (h : repM S m wr) (hp : p < s_cnt S) : mP m p (s_wd S p) (s_fs S p) (s_sp S p) (s_kd S p) (s_co S p) := by
  obtain ⟨-, -, -, -, -, -, -, -, rP⟩ := h
  exact rP p hp
/-- what is known of one picture -/
def okQ (wd fs sp kd : Nat) (co : Nat → Nat → Nat) : Prop := 1 ≤ wd ∧ wd ≤ 40 ∧ 1 ≤ sp ∧ sp ≤ 18 ∧ fs < 720 ∧ kd ≤ 2 ∧ ∀ c l, c < 40 → l < 12 → co c l < 8
theorem okQ_of {T : Nat} {S : AS} {p : Nat} (h : okS T S) (hp : p < s_cnt S) : okQ (s_wd S p) (s_fs S p) (s_sp S p) (s_kd S p) (s_co S p) := by
  obtain ⟨k0, -, -, -, -, -, ⟨k1, k2, k3, k4⟩, -⟩ := h
  have hp4 : p < 4 := by omega
  exact ⟨(k1 p hp).1, (k1 p hp).2, (k2 p hp4).2.1, (k2 p hp4).2.2.1, (k2 p hp4).1, (k2 p hp4).2.2.2, fun c l => k3 p c l hp4⟩
theorem cP_of {S : AS} {n_pictureCount n_angle n_speed n_ticks n_load n_secondArm : Int32} {n_settings : Nat → Int32} {n_working n_written : Nat → Int64} {n_writtenIn n_width n_first n_step n_kind : Nat → Int32} {n_columns : Nat → Nat → Int64} {p : Nat} (hC : repC S n_pictureCount n_angle n_speed n_ticks n_load n_secondArm n_settings n_working n_written n_writtenIn n_width n_first n_step n_kind n_columns) (hc : s_cnt S ≤ 4) (hp : p < s_cnt S) :
    n_width p = nI (s_wd S p) ∧ n_first p = nI (s_fs S p) ∧ n_step p = nI (s_sp S p) ∧ n_kind p = nI (s_kd S p) ∧ ∀ c, c < 40 → n_columns p c = lN (dg 8 12 (s_co S p c)) := by
  obtain ⟨-, -, -, -, -, -, -, -, ⟨c1, c2, c3⟩⟩ := hC
  have hp4 : p < 4 := by omega
  exact ⟨c1 p hp, (c2 p hp4).1, (c2 p hp4).2.1, (c2 p hp4).2.2, fun c hc => c3 p c hp4 hc⟩
