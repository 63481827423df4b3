theorem cpy0 {α : Type} {f g : Nat → α} {n j : Nat} (h : j < n) : va_cpy f g 0 0 n j = f j := by
  unfold va_cpy
  rw [if_pos ⟨by omega, by omega⟩]
  congr 1
  omega
/-- a copied state says the same -/
theorem tC_copy {n_pictureCount n_angle n_speed n_ticks n_load n_secondArm : Int32} {n_settings : Nat → Int32} {n_working n_written : Nat → Int64} {n_writtenIn n_width n_first n_step n_kind : Nat → Int32} {n_columns : Nat → Nat → Int64} {o_pictureCount o_angle o_speed o_ticks o_load o_secondArm : Int32} {o_settings : Nat → Int32} {o_working o_written : Nat → Int64} {o_writtenIn o_width o_first o_step o_kind : Nat → Int32} {o_columns : Nat → Nat → Int64} {k} (S : AS) (hcnt : s_cnt S ≤ 4)
    (hC : repC S o_pictureCount o_angle o_speed o_ticks o_load o_secondArm o_settings o_working o_written o_writtenIn o_width o_first o_step o_kind o_columns)
    (hk : ∀ z1 z2 z3 z4 z5 z6 z7 z8 z9 z10 z11 z12 z13 z14 z15, repC S z1 z2 z3 z4 z5 z6 z7 z8 z9 z10 z11 z12 z13 z14 z15 → k z1 z2 z3 z4 z5 z6 z7 z8 z9 z10 z11 z12 z13 z14 z15) :
    PX2_copyFrom n_pictureCount n_angle n_speed n_ticks n_load n_secondArm n_settings n_working n_written n_writtenIn n_width n_first n_step n_kind n_columns o_pictureCount o_angle o_speed o_ticks o_load o_secondArm o_settings o_working o_written o_writtenIn o_width o_first o_step o_kind o_columns k := by
  obtain ⟨c1, c2, c3, c4, c5, c6, cG, ⟨w1, w2, w3⟩, ⟨p1, p2, p3⟩⟩ := hC
  simp only [PX2_copyFrom, PX0_copyFrom, forall_eq]
  refine hk _ _ _ _ _ _ _ _ _ _ _ _ _ _ _ ⟨c1, c2, c3, c4, c5, c6, fun j hj => ?_, ⟨fun a ha => ?_, fun a ha => ?_, fun a l ha hl => ?_⟩, ⟨fun p hp => ?_, fun p hp => ?_, fun p c hp hc => ?_⟩⟩
  · rw [cpy0 hj]; exact cG j hj
  · rw [cpy0 ha]; exact w1 a ha
  · rw [cpy0 ha]; exact w2 a ha
  · rw [cpy0 (by omega)]; exact w3 a l ha hl
  · have hp4 : p < 4 := by omega
    rw [← p1 p hp]
    rcases pk4 hp4 with rfl | rfl | rfl | rfl <;> rfl
  · rw [← (p2 p hp).1, ← (p2 p hp).2.1, ← (p2 p hp).2.2]
    rcases pk4 hp with rfl | rfl | rfl | rfl <;> exact ⟨rfl, rfl, rfl⟩
  · rw [← p3 p c hp hc]
    rcases pk4 hp with rfl | rfl | rfl | rfl
    · show va_cpy (o_columns 0) (n_columns 0) 0 0 40 c = _
      exact cpy0 hc
    · show va_cpy (o_columns 1) _ 0 0 40 c = _
      exact cpy0 hc
    · show va_cpy (o_columns 2) _ 0 0 40 c = _
      exact cpy0 hc
    · show va_cpy (o_columns 3) _ 0 0 40 c = _
      exact cpy0 hc
/-- the history, when a state has been recorded -/
def po (o n : Nat) : Nat := if n = 5 then (o + 1) % 5 else o
def pn (n : Nat) : Nat := if n = 5 then 5 else n + 1
def ph (n : Nat) (h : Nat → AS) (S : AS) : Nat → AS := if n = 5 then fun i => if i = 4 then S else h (i + 1) else fun i => if i = n then S else h i
theorem HO_push {o n : Nat} {h : Nat → AS} {S : AS} (hO : HO o n h) (hS : okS 5000 S) : HO (po o n) (pn n) (ph n h S) := by
  obtain ⟨h1, h2, h3⟩ := hO
  unfold po pn ph
  by_cases e : n = 5
  · rw [if_pos e, if_pos e, if_pos e]
    refine ⟨Nat.mod_lt _ (by decide), by omega, fun i hi => ?_⟩
    show okS 5000 (if i = 4 then S else h (i + 1))
    by_cases z : i = 4
    · rw [if_pos z]; exact hS
    · rw [if_neg z]; exact h3 _ (by omega)
  · rw [if_neg e, if_neg e, if_neg e]
    refine ⟨h1, by omega, fun i hi => ?_⟩
    show okS 5000 (if i = n then S else h i)
    by_cases z : i = n
    · rw [if_pos z]; exact hS
    · rw [if_neg z]; exact h3 _ (by omega)
theorem rem5 (a b : Nat) (ha : a < 1000) (hb : b < 1000) : (nI a + nI b) - (nI a + nI b) / (5 : Int32) * (5 : Int32) = nI ((a + b) % 5) := by
  rw [nI_add]
  exact pk_rem (d := 5) (by omega) (by decide) (by decide)
theorem tC_record {l_oldest l_historySize n_pictureCount n_angle n_speed n_ticks n_load n_secondArm : Int32} {n_settings : Nat → Int32} {n_working n_written : Nat → Int64} {n_writtenIn n_width n_first n_step n_kind : Nat → Int32} {n_columns : Nat → Nat → Int64} {hist : Nat → StC} {k} {S : AS} {o n : Nat} {h : Nat → AS} (hS : okS 5000 S)
    (hC : repC S n_pictureCount n_angle n_speed n_ticks n_load n_secondArm n_settings n_working n_written n_writtenIn n_width n_first n_step n_kind n_columns) (hO : HO o n h) (hH : HC o n h hist) (e1 : l_oldest = nI o) (e3 : l_historySize = nI n)
    (hk : ∀ hist', HC (po o n) (pn n) (ph n h S) hist' → k (nI (po o n)) (nI (pn n)) hist') :
    PX4_record l_oldest l_historySize n_pictureCount n_angle n_speed n_ticks n_load n_secondArm n_settings n_working n_written n_writtenIn n_width n_first n_step n_kind n_columns hist k := by
  obtain ⟨h1, h2, h3⟩ := hO
  subst e1; subst e3
  unfold PX4_record
  have h5 : (5 : Int32).toInt = 5 := by decide
  have hn : (nI n).toInt = (n : Int) := i_nI (by omega)
  refine ⟨fun c => ?_, fun c => ?_⟩
  · rw [i_eq hn h5] at c
    rw [rem5 o n (by omega) (by omega)]
    refine ⟨vp_in_nI (Nat.mod_lt _ (by decide)) (by decide), fun j hj ej => ?_⟩
    rw [nI_clamp (by omega)] at ej
    refine tC_copy S hS.1 hC fun z1 z2 z3 z4 z5 z6 z7 z8 z9 z10 z11 z12 z13 z14 z15 hz => ?_
    intro hist' eh s' es
    subst eh; subst es; subst ej
    have hk' := hk (va_up hist ((o + n) % 5) (z1, z2, z3, z4, z5, z6, z7, z8, z9, z10, z11, z12, z13, z14, z15)) ?_
    · unfold po pn at hk'
      rw [if_neg (by omega), if_neg (by omega)] at hk'
      rw [nI_1]
      exact hk'
    · unfold po pn ph
      rw [if_neg (by omega), if_neg (by omega), if_neg (by omega)]
      intro i hi
      show repU (if i = n then S else h i) _
      by_cases z : i = n
      · rw [if_pos z, z, va_up_self]; exact hz
      · rw [if_neg z, va_up_ne _ _ (by omega)]; exact hH i (by omega)
  · rw [i_eq hn h5] at c
    have en : n = 5 := by omega
    subst en
    intro o' eo s' es
    have eo' : o' = nI ((o + 1) % 5) := by rw [eo]; exact rem5 o 1 (by omega) (by omega)
    have es' : s' = nI 4 := by rw [es]; decide
    rw [eo', es', rem5 _ 4 (by omega) (by omega)]
    refine ⟨vp_in_nI (Nat.mod_lt _ (by decide)) (by decide), fun j hj ej => ?_⟩
    rw [nI_clamp (by omega)] at ej
    refine tC_copy S hS.1 hC fun z1 z2 z3 z4 z5 z6 z7 z8 z9 z10 z11 z12 z13 z14 z15 hz => ?_
    intro hist' eh s2 es2
    subst eh; subst es2; subst ej
    have hk' := hk (va_up hist (((o + 1) % 5 + 4) % 5) (z1, z2, z3, z4, z5, z6, z7, z8, z9, z10, z11, z12, z13, z14, z15)) ?_
    · unfold po pn at hk'
      rw [if_pos rfl, if_pos rfl] at hk'
      exact hk'
    · unfold po pn ph
      rw [if_pos rfl, if_pos rfl, if_pos rfl]
      intro i hi
      show repU (if i = 4 then S else h (i + 1)) _
      by_cases z : i = 4
      · rw [if_pos z, z, va_up_self]; exact hz
      · rw [if_neg z, va_up_ne _ _ (by omega), show ((o + 1) % 5 + i) % 5 = (o + (i + 1)) % 5 by omega]; exact hH (i + 1) (by omega)
