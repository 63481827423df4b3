theorem clampI {x p : Int32} {X M : Int} (hx : x.toInt = X) (hp : p.toInt = M) (h0 : 0 ≤ M) (h1 : M ≤ 100) : (if -p < (if x < p then x else p) then (if x < p then x else p) else -p).toInt = if X > M then M else if X < -M then -M else X := by
  have hn : (-p).toInt = -M := i_neg hp (by omega) (by omega)
  by_cases c : X < M
  · rw [if_pos ((i_lt hx hp).mpr c)]
    by_cases c2 : -M < X
    · rw [if_pos ((i_lt hn hx).mpr c2), hx, if_neg (by omega), if_neg (by omega)]
    · rw [if_neg (fun z => c2 ((i_lt hn hx).mp z)), hn, if_neg (by omega)]
      split <;> omega
  · rw [if_neg (fun z => c ((i_lt hx hp).mp z))]
    by_cases c2 : -M < M
    · rw [if_pos ((i_lt hn hp).mpr c2), hp]
      split
      · rfl
      · split <;> omega
    · rw [if_neg (fun z => c2 ((i_lt hn hp).mp z)), hn]
      split
      · omega
      · split <;> omega
theorem tC_changeSpeed {pw lm L : Nat} {ws v : Int} {w_ws w_speed : Int32} {k : Int32 → Prop} (h1 : pw ≤ 20) (h2 : lm ≤ 9999) (h3 : L ≤ 1440) (hw : w_ws.toInt = ws) (hv : w_speed.toInt = v) (hw2 : -60 ≤ ws ∧ ws ≤ 60) (hv2 : -60 ≤ v ∧ v ≤ 60) (h : ∀ s : Int32, s.toInt = nsp pw lm ws v L → k s) : PX3_changeSpeed (nI pw) (nI lm) w_ws w_speed (nI L) k := by
  have hx : (w_ws - w_speed).toInt = ws - v := i_sub hw hv (by omega) (by omega)
  unfold PX3_changeSpeed
  have fin : ∀ {P : Nat} (hP : P ≤ 20) (hM : ((P : Nat) : Int) = if L ≤ lm then (pw : Int) else ((pw / 2 : Nat) : Int)) (f : Int32), f = (w_speed + (if (-(nI P)) < (if (w_ws - w_speed) < nI P then (w_ws - w_speed) else nI P) then (if (w_ws - w_speed) < nI P then (w_ws - w_speed) else nI P) else (-(nI P)))) → k f := by
    intro P hP hM f ef
    refine h f ?_
    have hc := clampI hx (i_nI (n := P) (by omega)) (by omega) (by omega)
    have hn := nsp_in (pw := pw) (lm := lm) (L := L) hw2 hv2
    unfold nsp at hn ⊢
    rw [← hM] at hn ⊢
    dsimp only at hn ⊢
    rw [ef]
    exact i_add hv hc (by omega) (by omega)
  refine ⟨fun c => ?_, fun c v1 e1 => ?_⟩ <;> rw [nI_leI (by omega) (by omega)] at c
  · exact fin h1 (by rw [if_pos c])
  · rw [show (2 : Int32) = nI 2 from rfl, pk_div (by omega) (by omega) (by omega)] at e1
    subst e1
    exact fin (P := pw / 2) (by omega) (by rw [if_neg c])
theorem absI {x : Int32} {X : Int} (hx : x.toInt = X) (h : -60 ≤ X ∧ X ≤ 60) : (if 0 ≤ x then x else 0 - x) = nI X.natAbs := by
  have h0 : (0 : Int32).toInt = 0 := by decide
  by_cases c : 0 ≤ X
  · rw [if_pos ((i_le h0 hx).mpr c)]
    exact i_of (by rw [hx]; omega)
  · rw [if_neg (fun z => c ((i_le h0 hx).mp z))]
    exact i_of (by rw [i_sub h0 hx (by omega) (by omega)]; omega)
theorem stp_int (pos : Bool) (a : Nat) (h : a < 720) : (((a : Int) + (if pos then 1 else -1)) % 720).toNat = stp pos a := by
  unfold stp
  cases pos
  · simp only [Bool.false_eq_true, if_false]
    omega
  · simp only [if_true]
    omega
def dirI (pos : Bool) : Int32 := if pos then 1 else -1
theorem dirI_toInt (pos : Bool) : (dirI pos).toInt = if pos then 1 else -1 := by cases pos <;> decide
theorem tC_turnJ {f : Nat → Nat} {w_loadAt w_passedIn : Nat → Int32} {a j : Nat} {P : Nat → Nat} {v : Int} {w_speed : Int32} {pos : Bool} {k : (Nat → Int32) → Int32 → Int32 → Prop} (hf : ∀ q, f q ≤ 24) (hfl : ∀ q, q < 720 → w_loadAt q = nI (f q)) (ha : a < 720) (hv : w_speed.toInt = v) (hv2 : -60 ≤ v ∧ v ≤ 60) (hP : ∀ q, q < 720 → w_passedIn q = nI (P q))
    (h : ∀ wp, (∀ q, q < 720 → wp q = nI (pas pos a j P v.natAbs q)) → k wp (nI (ang pos a v.natAbs)) (nI (lds f pos a v.natAbs))) : PX3_turn_J1 w_loadAt w_passedIn (nI a) w_speed (nI j) k (dirI pos) := by
  unfold PX3_turn_J1
  intro n en
  rw [absI hv hv2] at en
  subst en
  have hN : v.natAbs ≤ 60 := by omega
  generalize v.natAbs = N at h hN
  refine lp4 (PX3_turn_L2 w_loadAt (nI j) (dirI pos) _) (fun n wp wa wl => ∃ i, i ≤ N ∧ n = nI (N - i) ∧ (∀ q, q < 720 → wp q = nI (pas pos a j P i q)) ∧ wa = nI (ang pos a i) ∧ wl = nI (lds f pos a i)) (fun n _ _ _ => n.toNatClampNeg) ?_ _ _ _ _ ⟨0, by omega, rfl, hP, rfl, rfl⟩
  rintro g n wp wa wl ⟨i, hi, en, hJ, ea, el⟩ ih
  subst en ea el
  unfold PX3_turn_L2
  refine ⟨fun c => ?_, fun c => ?_⟩ <;> rw [show (0 : Int32) = nI 0 from rfl, nI_leI (by omega) (by omega)] at c
  · obtain rfl : i = N := by omega
    exact h _ hJ
  · have hai := ang_lt (pos := pos) ha i
    have hs := stp_lt pos (ang pos a i)
    refine pJ9_floorMod (z := (ang pos a i : Int) + (if pos then 1 else -1)) (i_add (i_nI (by omega)) (dirI_toInt pos) (by split <;> omega) (by split <;> omega)) ?_
    rw [stp_int pos _ hai, nI_clamp (by omega)]
    refine ⟨vp_in_nI hs (by decide), fun wp1 e1 => ⟨vp_in_nI hs (by decide), fun wl1 f1 n1 g1 => ?_⟩⟩
    rw [hfl _ hs, nI_add] at f1
    have g2 : n1 = nI (N - (i + 1)) := by
      rw [g1, show N - i = N - (i + 1) + 1 by omega]
      exact pk_m1 _
    refine ih _ _ _ _ ⟨i + 1, by omega, g2, fun q hq => ?_, rfl, f1⟩ ?_
    · rw [e1]
      show _ = nI (nu (pas pos a j P i) (ang pos a (i + 1)) j q)
      by_cases z : q = stp pos (ang pos a i)
      · rw [z, pk_us]
        exact congrArg nI nu_s.symm
      · rw [pk_un z, hJ q hq]
        exact congrArg nI (nu_n z).symm
    · rw [g2, nI_clamp (by omega), nI_clamp (by omega)]; omega
theorem tC_turn {f : Nat → Nat} {w_loadAt w_passedIn : Nat → Int32} {a j : Nat} {P : Nat → Nat} {v : Int} {w_speed w_load : Int32} {k : (Nat → Int32) → Int32 → Int32 → Prop} (hf : ∀ q, f q ≤ 24) (hfl : ∀ q, q < 720 → w_loadAt q = nI (f q)) (ha : a < 720) (hv : w_speed.toInt = v) (hv2 : -60 ≤ v ∧ v ≤ 60) (hP : ∀ q, q < 720 → w_passedIn q = nI (P q))
    (h : ∀ wp, (∀ q, q < 720 → wp q = nI (pas (tkp v) a j P v.natAbs q)) → k wp (nI (ang (tkp v) a v.natAbs)) (nI (lds f (tkp v) a v.natAbs))) : PX3_turn w_loadAt w_passedIn (nI a) w_speed w_load (nI j) k := by
  unfold PX3_turn
  have h0 : (0 : Int32).toInt = 0 := by decide
  refine ⟨fun c => ?_, fun c => ?_⟩ <;> rw [i_le hv h0] at c
  · have e : tkp v = false := decide_eq_false (by omega)
    rw [e] at h
    exact tC_turnJ (pos := false) hf hfl ha hv hv2 hP h
  · have e : tkp v = true := decide_eq_true (by omega)
    rw [e] at h
    exact tC_turnJ (pos := true) hf hfl ha hv hv2 hP h
/-- the class's sweep stands where the mathematics does -/
def ZC (j : Nat) (Z : ZS) (wp : Nat → Int32) (wa wv wl wt : Int32) : Prop := (∀ q, q < 720 → wp q = nI (Z.2.2.2 q)) ∧ wa = nI Z.1 ∧ wv.toInt = Z.2.1 ∧ wl = nI Z.2.2.1 ∧ wt = nI j
theorem tC_goOn {f : Nat → Nat} {pw lm j0 n : Nat} {ws : Int} {Z0 : ZS} {w_loadAt wp : Nat → Int32} {w_ws wa wv wl wt : Int32} {k : (Nat → Int32) → Int32 → Int32 → Int32 → Int32 → Prop} (hf : ∀ q, f q ≤ 24) (hfl : ∀ q, q < 720 → w_loadAt q = nI (f q)) (h1 : pw ≤ 20) (h2 : lm ≤ 9999) (hw : w_ws.toInt = ws) (hw2 : -60 ≤ ws ∧ ws ≤ 60) (hn : n ≤ 1000) (hz : okZ 0 Z0) (hZ : ZC j0 (zs f pw lm ws Z0 j0) wp wa wv wl wt)
    (h : ∀ wp' wa' wv' wl' wt', ZC (j0 + n) (zs f pw lm ws Z0 (j0 + n)) wp' wa' wv' wl' wt' → k wp' wa' wv' wl' wt') : PX3_goOn w_loadAt wp (nI pw) (nI lm) w_ws wa wv wl wt (nI n) k := by
  unfold PX3_goOn
  refine lp6 (PX3_goOn_L1 w_loadAt (nI pw) (nI lm) w_ws (nI n) _) (fun v wp wa wv wl wt => ∃ i, i ≤ n ∧ v = nI i ∧ ZC (j0 + i) (zs f pw lm ws Z0 (j0 + i)) wp wa wv wl wt) (fun v _ _ _ _ _ => n - v.toNatClampNeg) ?_ _ _ _ _ _ _ ⟨0, by omega, rfl, hZ⟩
  rintro g v wp wa wv wl wt ⟨i, hi, ev, z1, z2, z3, z4, z5⟩ ih
  subst ev z2 z4 z5
  obtain ⟨o1, o2, o3, o4⟩ := zs_ok (pw := pw) (lm := lm) hf hw2 hz (j0 + i)
  unfold PX3_goOn_L1
  refine ⟨fun c => ?_, fun c => ?_⟩ <;> rw [nI_leI (by omega) (by omega)] at c
  · obtain rfl : i = n := by omega
    exact h _ _ _ _ _ ⟨z1, rfl, z3, rfl, rfl⟩
  · intro t1 et1
    rw [nI_1] at et1
    subst et1
    refine tC_changeSpeed h1 h2 o3 hw z3 hw2 o2 fun s hs => ?_
    have hv' := nsp_in (pw := pw) (lm := lm) (L := (zs f pw lm ws Z0 (j0 + i)).2.2.1) hw2 o2
    refine tC_turn hf hfl o1 hs hv' z1 fun wp' hwp' => ?_
    intro v1 e1
    rw [nI_1] at e1
    exact ih _ _ _ _ _ _ ⟨i + 1, by omega, e1, hwp', rfl, hs, rfl, rfl⟩ (by rw [e1, nI_clamp (by omega), nI_clamp (by omega)]; omega)
