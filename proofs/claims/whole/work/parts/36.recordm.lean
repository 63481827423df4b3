theorem cc5 (s : Nat) (hs : s < 5) (k : Nat) (hk : k < 4668) : ((4668 : Int32) * nI s) + nI k = nI (4668 * s + k) := by
  show nI 4668 * nI s + nI k = _
  rw [pk_mul, nI_add]
theorem tM_lay {st fi : Nat → Int32} {s k0 : Nat} {v : Int32} {k : (Nat → Int32) → (Nat → Int32) → Prop} (hs : s < 5) (h0 : k0 < 4668) (hk : ∀ st' fi', (∀ s' k', s' < 5 → k' < 4668 → pst st' fi' s' k' = if s' = s ∧ k' = k0 then v else pst st fi s' k') → k st' fi') : PX5_lay st fi (nI s) (nI k0) v k := by
  have h4 : (4 : Int32).toInt = 4 := by decide
  have hsI : (nI s).toInt = (s : Int) := i_nI (by omega)
  unfold PX5_lay
  refine ⟨fun c => ?_, fun c => ?_⟩ <;> rw [i_le h4 hsI] at c
  · refine ⟨vp_in_nI h0 (by decide), fun fi' ef => hk _ _ fun s' k' hs' hk' => ?_⟩
    rw [nI_clamp (by omega)] at ef
    unfold pst
    by_cases z : s' < 4
    · rw [if_pos z, if_neg (by omega), if_pos z]
    · rw [if_neg z, if_neg z, ef]
      by_cases y : k' = k0
      · rw [y, pk_us, if_pos ⟨by omega, rfl⟩]
      · rw [pk_un y, if_neg (fun q => y q.2)]
  · rw [cc5 s hs k0 h0]
    refine ⟨vp_in_nI (by omega) (by decide), fun st' es => hk _ _ fun s' k' hs' hk' => ?_⟩
    rw [nI_clamp (by omega)] at es
    unfold pst
    by_cases z : s' < 4
    · rw [if_pos z, if_pos z, es]
      by_cases y : s' = s ∧ k' = k0
      · rw [y.1, y.2, pk_us, if_pos ⟨rfl, rfl⟩]
      · rw [pk_un (by omega), if_neg y]
    · rw [if_neg z, if_neg z, if_neg (by omega)]
/-- the slot s has its first i cells from f, all other slots are as they were -/
def layJ (st0 fi0 : Nat → Int32) (s : Nat) (f : Nat → Int32) (i : Nat) (st fi : Nat → Int32) : Prop := (∀ k, k < i → pst st fi s k = f k) ∧ ∀ s' k, s' < 5 → s' ≠ s → k < 4668 → pst st fi s' k = pst st0 fi0 s' k
theorem layJ_step {st0 fi0 st fi st' fi' f : Nat → Int32} {s i : Nat} (hs : s < 5) (hi : i < 4668) (hJ : layJ st0 fi0 s f i st fi) (h : ∀ s' k', s' < 5 → k' < 4668 → pst st' fi' s' k' = if s' = s ∧ k' = i then f i else pst st fi s' k') : layJ st0 fi0 s f (i + 1) st' fi' := by
  refine ⟨fun k hk => ?_, fun s' k h1 h2 h3 => ?_⟩
  · rw [h s k hs (by omega)]
    by_cases z : k = i
    · rw [if_pos ⟨rfl, z⟩, z]
    · rw [if_neg (fun q => z q.2)]; exact hJ.1 k (by omega)
  · rw [h s' k h1 h3, if_neg (fun q => h2 q.1)]; exact hJ.2 s' k h1 h2 h3
def slotF (m wr : Nat → Int32) (k : Nat) : Int32 := if k < 348 then m k else wr (2 * (k - 348)) ||| (wr (2 * (k - 348) + 1) <<< ((16 : Int32) &&& 31))
theorem slot_of {st fi m wr : Nat → Int32} {s : Nat} (h : ∀ k, k < 4668 → pst st fi s k = slotF m wr k) : slotIs st fi s m wr := by
  refine ⟨fun k hk => ?_, fun k hk => ?_⟩
  · rw [h k (by omega)]; unfold slotF; rw [if_pos hk]
  · rw [h (348 + k) (by omega)]; unfold slotF; rw [if_neg (by omega), show 348 + k - 348 = k by omega]
theorem tM_rec1 {m wr st fi : Nat → Int32} {s : Nat} {k : (Nat → Int32) → (Nat → Int32) → Int32 → Int32 → Prop} {o n : Nat} (hs : (o + n) % 5 = s) (ho : o < 5) (hn : n < 5) (hk : ∀ st' fi', layJ st fi s (slotF m wr) 4668 st' fi' → k st' fi' (nI o) (nI (n + 1))) : PX5_record_J1 m wr st fi k (nI o) (nI n) := by
  have hs5 : s < 5 := by omega
  have h348 : (348 : Int32).toInt = 348 := by decide
  have h8640 : (8640 : Int32).toInt = 8640 := by decide
  unfold PX5_record_J1
  intro v ev
  rw [rem5 o n (by omega) (by omega), hs] at ev
  subst ev
  refine lp3 (PX5_record_L2 m (nI s) _) (fun v st' fi' => ∃ i, i ≤ 348 ∧ v = nI i ∧ layJ st fi s (slotF m wr) i st' fi') (fun v _ _ => 348 - v.toNatClampNeg) ?_ _ _ _ ⟨0, by omega, rfl, fun k hk => by omega, fun _ _ _ _ _ => rfl⟩
  rintro f v st1 fi1 ⟨i, hi, ev, hJ⟩ ih
  subst ev
  have hiI : (nI i).toInt = (i : Int) := i_nI (by omega)
  unfold PX5_record_L2
  refine ⟨fun c => ?_, fun c => ?_⟩ <;> rw [i_le h348 hiI] at c
  · have e348 : i = 348 := by omega
    subst e348
    refine lp3 (PX5_record_L3 wr (nI s) _) (fun v st' fi' => ∃ j, j ≤ 4320 ∧ v = nI (2 * j) ∧ layJ st fi s (slotF m wr) (348 + j) st' fi') (fun v _ _ => 8640 - v.toNatClampNeg) ?_ _ _ _ ⟨0, by omega, rfl, hJ⟩
    rintro f2 v2 st2 fi2 ⟨j, hj, ev2, hJ2⟩ ih2
    subst ev2
    have hjI : (nI (2 * j)).toInt = ((2 * j : Nat) : Int) := i_nI (by omega)
    unfold PX5_record_L3
    refine ⟨fun c2 => ?_, fun c2 => ?_⟩ <;> rw [i_le h8640 hjI] at c2
    · have ej : j = 4320 := by omega
      subst ej
      intro t et
      rw [et, nI_1]
      exact hk _ _ hJ2
    · rw [nI_1]
      refine ⟨vp_in_nI (by omega) (by decide), vp_in_nI (by omega) (by decide), ?_⟩
      rw [nI_clamp (by omega), nI_clamp (by omega)]
      have ed : (348 : Int32) + nI (2 * j) / (2 : Int32) = nI (348 + j) := by
        have e := pk_div (a := 2 * j) (d := 2) (by omega) (by decide) (by decide)
        rw [show (2 : Int32) = nI 2 from rfl, e, show 2 * j / 2 = j by omega]
        exact nI_add 348 j
      rw [ed]
      refine tM_lay hs5 (by omega) fun st3 fi3 h3 v3 e3 => ?_
      have e3' : v3 = nI (2 * (j + 1)) := by rw [e3]; exact nI_add (2 * j) 2
      refine ih2 _ _ _ ⟨j + 1, by omega, e3', ?_⟩ ?_
      · show layJ st fi s (slotF m wr) ((348 + j) + 1) _ _
        refine layJ_step (i := 348 + j) hs5 (by omega) hJ2 fun s' k' h1 h2 => ?_
        rw [h3 s' k' h1 h2]
        unfold slotF
        rw [if_neg (show ¬ (348 + j < 348) by omega), show 348 + j - 348 = j by omega]
      · rw [e3', nI_clamp (by omega), nI_clamp (by omega)]; omega
  · refine ⟨vp_in_nI (by omega) (by decide), ?_⟩
    rw [nI_clamp (by omega)]
    refine tM_lay hs5 (by omega) fun st3 fi3 h3 v3 e3 => ?_
    have e3' : v3 = nI (i + 1) := by rw [e3]; exact nI_1 i
    refine ih _ _ _ ⟨i + 1, by omega, e3', ?_⟩ ?_
    · refine layJ_step hs5 (by omega) hJ fun s' k' h1 h2 => ?_
      rw [h3 s' k' h1 h2]
      unfold slotF
      rw [if_pos (show i < 348 by omega)]
    · rw [e3', nI_clamp (by omega), nI_clamp (by omega)]; omega
theorem tM_record {m wr st fi : Nat → Int32} {b_oldest b_stateCount : Int32} {k : (Nat → Int32) → (Nat → Int32) → Int32 → Int32 → Prop} {S : AS} {o n : Nat} {h : Nat → AS} (hM : repM S m wr) (hO : HO o n h) (hH : HM o n h st fi) (e1 : b_oldest = nI o) (e3 : b_stateCount = nI n)
    (hk : ∀ st' fi', HM (po o n) (pn n) (ph n h S) st' fi' → k st' fi' (nI (po o n)) (nI (pn n))) : PX5_record m wr st fi b_oldest b_stateCount k := by
  obtain ⟨h1, h2, h3⟩ := hO
  subst e1; subst e3
  have h5 : (5 : Int32).toInt = 5 := by decide
  have hn : (nI n).toInt = (n : Int) := i_nI (by omega)
  have old : ∀ {st' fi' : Nat → Int32} {s : Nat}, layJ st fi s (slotF m wr) 4668 st' fi' → ∀ {s' : Nat} {m1 wr1 : Nat → Int32}, s' < 5 → s' ≠ s → slotIs st fi s' m1 wr1 → slotIs st' fi' s' m1 wr1 := by
    intro st' fi' s hJ s' m1 wr1 hs' hne hsl
    exact ⟨fun k hk => by rw [hJ.2 s' k hs' hne (by omega)]; exact hsl.1 k hk, fun k hk => by rw [hJ.2 s' (348 + k) hs' hne (by omega)]; exact hsl.2 k hk⟩
  unfold PX5_record
  refine ⟨fun c => ?_, fun c => ?_⟩ <;> rw [i_eq hn h5] at c
  · refine tM_rec1 rfl h1 (by omega) fun st' fi' hJ => ?_
    have hk' := hk st' fi' ?_
    · unfold po pn at hk'
      rw [if_neg (by omega), if_neg (by omega)] at hk'
      exact hk'
    · unfold po pn ph
      rw [if_neg (by omega), if_neg (by omega), if_neg (by omega)]
      intro i hi
      show ∃ m1 wr1 : Nat → Int32, repM (if i = n then S else h i) m1 wr1 ∧ _
      by_cases z : i = n
      · rw [if_pos z, z]; exact ⟨m, wr, hM, slot_of hJ.1⟩
      · rw [if_neg z]
        obtain ⟨m1, wr1, r1, r2⟩ := hH i (by omega)
        exact ⟨m1, wr1, r1, old hJ (Nat.mod_lt _ (by decide)) (by omega) r2⟩
  · have en : n = 5 := by omega
    subst en
    intro o' eo s' es
    have eo' : o' = nI ((o + 1) % 5) := by rw [eo]; exact rem5 o 1 (by omega) (by omega)
    have es' : s' = nI 4 := by rw [es]; decide
    rw [eo', es']
    refine tM_rec1 rfl (Nat.mod_lt _ (by decide)) (by omega) fun st' fi' hJ => ?_
    have hk' := hk st' fi' ?_
    · unfold po pn at hk'
      rw [if_pos rfl, if_pos rfl] at hk'
      exact hk'
    · unfold po pn ph
      rw [if_pos rfl, if_pos rfl, if_pos rfl]
      intro i hi
      show ∃ m1 wr1 : Nat → Int32, repM (if i = 4 then S else h (i + 1)) m1 wr1 ∧ _
      by_cases z : i = 4
      · rw [if_pos z, z]; exact ⟨m, wr, hM, slot_of hJ.1⟩
      · rw [if_neg z, show ((o + 1) % 5 + i) % 5 = (o + (i + 1)) % 5 by omega]
        obtain ⟨m1, wr1, r1, r2⟩ := hH (i + 1) (by omega)
        exact ⟨m1, wr1, r1, old hJ (Nat.mod_lt _ (by decide)) (by omega) r2⟩
