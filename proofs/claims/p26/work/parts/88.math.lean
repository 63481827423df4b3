/-! sums of rows: what the property speaks of, as mathematics -/
theorem sg_mono : ∀ {n : Nat} {f g : Nat → Nat}, (∀ i, i < n → f i ≤ g i) → sg n f ≤ sg n g
  | 0, _, _, _ => Nat.le_refl 0
  | n + 1, f, g, h => by
    have h1 := sg_mono (n := n) (f := f) (g := g) (fun i hi => h i (by omega))
    have h2 := h n (by omega)
    show sg n f + f n ≤ sg n g + g n
    omega
theorem sg_addf (f g : Nat → Nat) : ∀ n, sg n (fun i => f i + g i) = sg n f + sg n g
  | 0 => rfl
  | n + 1 => by
    have h1 := sg_addf f g n
    show sg n (fun i => f i + g i) + (f n + g n) = (sg n f + f n) + (sg n g + g n)
    omega
theorem sg_mulc (c : Nat) (f : Nat → Nat) : ∀ n, sg n (fun i => c * f i) = c * sg n f
  | 0 => rfl
  | n + 1 => by
    have h1 := sg_mulc c f n
    show sg n (fun i => c * f i) + c * f n = c * (sg n f + f n)
    rw [h1, Nat.mul_add]
theorem sg_split (m : Nat) (f : Nat → Nat) : ∀ n, sg (m + n) f = sg m f + sg n (fun i => f (m + i))
  | 0 => rfl
  | n + 1 => by
    have h1 := sg_split m f n
    show sg (m + n) f + f (m + n) = sg m f + (sg n (fun i => f (m + i)) + f (m + n))
    omega
theorem sg_rot {fs : Nat} (h : fs ≤ 720) (f : Nat → Nat) : sg 720 (fun a => f (ofs a fs)) = sg 720 f := by
  have e1 := sg_split fs (fun a => f (ofs a fs)) (720 - fs)
  have e2 := sg_split (720 - fs) f fs
  rw [show fs + (720 - fs) = 720 by omega] at e1
  rw [show 720 - fs + fs = 720 by omega] at e2
  have c1 : sg fs (fun a => f (ofs a fs)) = sg fs (fun i => f (720 - fs + i)) := sg_congr fun i hi => by
    show f (ofs i fs) = f (720 - fs + i)
    congr 1
    unfold ofs
    omega
  have c2 : sg (720 - fs) (fun i => (fun a => f (ofs a fs)) (fs + i)) = sg (720 - fs) f := sg_congr fun i hi => by
    show f (ofs (fs + i) fs) = f i
    congr 1
    unfold ofs
    omega
  rw [e1, e2, c1, c2]
  omega
theorem sg_ind (c : Nat) : ∀ n, sg n (fun i => if i < c then 1 else 0) = if n < c then n else c
  | 0 => by
    show 0 = _
    split <;> omega
  | n + 1 => by
    have h1 := sg_ind c n
    show sg n (fun i => if i < c then 1 else 0) + (if n < c then 1 else 0) = _
    rw [h1]
    split <;> split <;> omega
theorem cov_sum {fs c : Nat} (hfs : fs ≤ 720) (hc : c ≤ 720) : sg 720 (fun a => if ofs a fs < c then 1 else 0) = c := by
  rw [sg_rot hfs (fun i => if i < c then 1 else 0), sg_ind]
  split <;> omega
theorem sg_opp (f : Nat → Nat) : sg 720 (fun a => f (opp a)) = sg 720 f := by
  rw [← sg_rot (fs := 360) (by omega) f]
  refine sg_congr fun i hi => ?_
  have e : opp i = ofs i 360 := by unfold opp ofs; omega
  show f (opp i) = f (ofs i 360)
  rw [e]
theorem sg_upd {f g : Nat → Nat} {x : Nat} (h : ∀ i, i ≠ x → g i = f i) : ∀ {n : Nat}, x < n → sg n g + f x = sg n f + g x
  | 0, hx => absurd hx (Nat.not_lt_zero _)
  | n + 1, hx => by
    show sg n g + g n + f x = sg n f + f n + g x
    by_cases z : x = n
    · have e : sg n g = sg n f := sg_congr fun i hi => h i (by omega)
      rw [e, z]
      omega
    · have h1 := sg_upd h (n := n) (by omega)
      have h2 := h n (fun q => z q.symm)
      omega
theorem cvN_le (wd sp : Nat) : cvN wd sp ≤ 720 := by unfold cvN; split <;> omega
/-- how many of a picture's colors are not dark -/
def bri (S : AS) (p : Nat) : Nat := sg (s_wd S p) (fun c => sm 12 (dk (s_co S p c)))
theorem bri_le (S : AS) (p : Nat) : bri S p ≤ 12 * s_wd S p := by
  have := sg_le (b := 12) (n := s_wd S p) (f := fun c => sm 12 (dk (s_co S p c))) (fun c _ => sm_dk_le _)
  unfold bri
  omega
theorem bri_paint {S : AS} {p x y z : Nat} (hx : x < s_wd S p) (hy : y < 12) : bri (cdS S p x y z) p + (if s_co S p x y = 0 then 0 else 1) = bri S p + (if z = 0 then 0 else 1) := by
  have hcol : sm 12 (dk (nu2 (s_co S) p x y z p x)) + dk (s_co S p x) y = sm 12 (dk (s_co S p x)) + dk (nu2 (s_co S) p x y z p x) y := by
    rw [← sg_sm, ← sg_sm]
    refine sg_upd (f := dk (s_co S p x)) (g := dk (nu2 (s_co S) p x y z p x)) (x := y) (fun i hi => ?_) hy
    unfold dk
    rw [nu2_at, if_neg (show ¬ (p = p ∧ x = x ∧ i = y) from fun t => hi t.2.2)]
  have hd : dk (nu2 (s_co S) p x y z p x) y = if z = 0 then 0 else 1 := by
    unfold dk
    rw [nu2_at, if_pos (show p = p ∧ x = x ∧ y = y from ⟨rfl, rfl, rfl⟩)]
  have hs := sg_upd (n := s_wd S p) (f := fun c => sm 12 (dk (s_co S p c))) (g := fun c => sm 12 (dk (nu2 (s_co S) p x y z p c))) (x := x) (fun i hi => by
    show sm 12 (dk (nu2 (s_co S) p x y z p i)) = sm 12 (dk (s_co S p i))
    refine sm_congr fun l hl => ?_
    unfold dk
    rw [nu2_at, if_neg (show ¬ (p = p ∧ i = x ∧ l = y) from fun t => hi t.2.1)]) hx
  rw [hd] at hcol
  have e1 : bri (cdS S p x y z) p = sg (s_wd S p) (fun c => sm 12 (dk (nu2 (s_co S) p x y z p c))) := rfl
  have e2 : bri S p = sg (s_wd S p) (fun c => sm 12 (dk (s_co S p c))) := rfl
  have e3 : dk (s_co S p x) y = if s_co S p x y = 0 then 0 else 1 := rfl
  rw [e3] at hcol
  rw [e1, e2]
  omega
/-! meetings -/
def met (S : AS) (p q : Nat) : Nat := sg 720 (fun a => sm 12 (mt S p q a))
theorem met_sym (S : AS) (p q : Nat) : met S p q = met S q p := by
  unfold met
  refine sg_congr fun a _ => sm_congr fun l _ => ?_
  unfold mt
  by_cases h1 : pwS S p a l = 0
  · by_cases h2 : pwS S q a l = 0
    · rw [if_pos h1, if_pos h2]
    · rw [if_pos h1, if_neg h2, if_pos h1]
  · by_cases h2 : pwS S q a l = 0
    · rw [if_neg h1, if_pos h2, if_pos h2]
    · rw [if_neg h1, if_neg h2, if_neg h2, if_neg h1]
theorem mt_le1 (S : AS) (p q a l : Nat) : mt S p q a l ≤ 1 := by
  unfold mt
  split
  · omega
  · split <;> omega
theorem mt_dark {S : AS} {p q a l : Nat} (h : pwS S p a l = 0) : mt S p q a l = 0 := by unfold mt; rw [if_pos h]
theorem met_le {S : AS} {p q : Nat} (hfs : s_fs S p ≤ 720) : met S p q ≤ 12 * cvN (s_wd S p) (s_sp S p) := by
  have e := cov_sum hfs (cvN_le (s_wd S p) (s_sp S p))
  rw [← e, ← sg_mulc]
  unfold met
  refine sg_mono fun a _ => ?_
  by_cases z : ofs a (s_fs S p) < cvN (s_wd S p) (s_sp S p)
  · have := sm_le (b := 1) (n := 12) (d := mt S p q a) (fun l _ => mt_le1 S p q a l)
    rw [if_pos z]
    omega
  · have : sm 12 (mt S p q a) ≤ 12 * 0 := sm_le fun l _ => by
      rw [mt_dark]
      · exact Nat.le_refl 0
      · unfold pwS pw
        by_cases k2 : s_kd S p = 2
        · rw [if_pos k2]
        · rw [if_neg k2, if_neg z]
    omega
theorem sg_zero_inv {f : Nat → Nat} : ∀ {n : Nat}, sg n f = 0 → ∀ i, i < n → f i = 0
  | 0, _, i, hi => absurd hi (Nat.not_lt_zero _)
  | n + 1, h, i, hi => by
    have h1 : sg n f + f n = 0 := h
    by_cases z : i = n
    · rw [z]; omega
    · exact sg_zero_inv (n := n) (by omega) i (by omega)
theorem met_zero {S : AS} {p q : Nat} (h : s_kd S p = 2 ∨ bri S p = 0) : met S p q = 0 := by
  have key : ∀ a l, l < 12 → pwS S p a l = 0 := by
    intro a l hl
    unfold pwS pw
    split
    · rfl
    · rename_i hk
      split
      · rename_i hc
        rcases h with h | h
        · exact absurd h hk
        · have h1 := sg_zero_inv h _ (clN_lt (kd := s_kd S p) hc).1
          rw [← sg_sm] at h1
          have h2 := sg_zero_inv h1 l hl
          unfold dk at h2
          split at h2
          · assumption
          · omega
      · rfl
  unfold met
  refine sg_zero fun a _ => ?_
  have : sm 12 (mt S p q a) ≤ 12 * 0 := sm_le fun l hl => by rw [mt_dark (key a l hl)]; exact Nat.le_refl 0
  omega
/-! gaps -/
theorem pas_keep {pos : Bool} {a j : Nat} {P : Nat → Nat} {q : Nat} (hj : j ≠ 0) (h : P q ≠ 0) : ∀ n, pas pos a j P n q ≠ 0
  | 0 => h
  | n + 1 => by
    show nu (pas pos a j P n) (ang pos a (n + 1)) j q ≠ 0
    unfold nu
    split
    · exact hj
    · exact pas_keep hj h n
theorem zs_keep {f : Nat → Nat} {pw lm : Nat} {ws : Int} {Z0 : ZS} {j q : Nat} (h : (zs f pw lm ws Z0 j).2.2.2 q ≠ 0) : ∀ d, (zs f pw lm ws Z0 (j + d)).2.2.2 q ≠ 0
  | 0 => h
  | d + 1 => pas_keep (by omega) (zs_keep h d) _
theorem gp_mono {S : AS} {P P' : Nat → Nat} (h : ∀ q, P q ≠ 0 → P' q ≠ 0) (q : Nat) : gp S P' q ≤ gp S P q := by
  unfold gp cm
  by_cases h1 : P q ≠ 0 ∨ (s_sec S = 1 ∧ P (opp q) ≠ 0)
  · have h2 : P' q ≠ 0 ∨ (s_sec S = 1 ∧ P' (opp q) ≠ 0) := h1.elim (fun z => Or.inl (h q z)) (fun z => Or.inr ⟨z.1, h _ z.2⟩)
    rw [if_pos h1, if_pos h2]
    exact Nat.le_refl _
  · rw [if_neg h1]
    by_cases h2 : P' q ≠ 0 ∨ (s_sec S = 1 ∧ P' (opp q) ≠ 0)
    · rw [if_pos h2, if_neg (fun z => absurd z.1 (by decide))]
      exact Nat.zero_le _
    · rw [if_neg h2]
      exact Nat.le_refl _
def gpN (S : AS) (t : Nat) : Nat := sg 720 (gp S (zS S (s_stg S 0) t).2.2.2)
theorem gpN_mono (S : AS) (t d : Nat) : gpN S (t + d) ≤ gpN S t := sg_mono fun q _ => gp_mono (fun r hr => zs_keep (j := t) hr d) q
theorem gpN_0 (S : AS) : gpN S 0 = sg 720 (fun a => cvc S a (s_cnt S)) := by
  unfold gpN
  refine sg_congr fun q _ => ?_
  show gp S (fun _ => 0) q = cvc S q (s_cnt S)
  unfold gp cm
  have h1 : ¬ ((fun _ : Nat => 0) q ≠ 0 ∨ (s_sec S = 1 ∧ (fun _ : Nat => 0) (opp q) ≠ 0)) := by
    rintro (h | ⟨-, h⟩) <;> exact h rfl
  rw [if_neg h1]
  have h2 := cvc_le S q (s_cnt S)
  by_cases z : cvc S q (s_cnt S) = 1
  · rw [if_pos ⟨rfl, z⟩, z]
  · rw [if_neg (fun w => z w.2)]
    omega
/-! the way of the bar, tick by tick -/
/-- the state S0 behind some ticks: what ticks don't change, and the rest -/
def mkS (S0 : AS) (a : Nat) (v : Int) (t L : Nat) (wc wi : Nat → Nat → Nat) : AS := (s_cnt S0, a, v, t, L, s_sec S0, s_stg S0, s_wk S0, wc, wi, s_wd S0, s_fs S0, s_sp S0, s_kd S0, s_co S0)
theorem nu_id {α : Type} (f : Nat → α) (p : Nat) : nu f p (f p) = f := by
  funext q
  unfold nu
  split
  · rename_i h; rw [h]
  · rfl
/-- the tick's angle, speed, load: of the three that go before -/
def tk3 (f : Nat → Nat) (pw lm : Nat) (ws : Int) (a : Nat) (v : Int) (L : Nat) : Nat × Int × Nat :=
  (ang (tkp (nsp pw lm ws v L)) a (nsp pw lm ws v L).natAbs, nsp pw lm ws v L, lds f (tkp (nsp pw lm ws v L)) a (nsp pw lm ws v L).natAbs)
theorem ruS_1 (S : AS) : ∃ wc wi, ruS S 1 = mkS S (tk3 (ldA S) (pwN S) (lmN S) (s_stg S 0) (s_ang S) (s_spd S) (s_ld S)).1 (tk3 (ldA S) (pwN S) (lmN S) (s_stg S 0) (s_ang S) (s_spd S) (s_ld S)).2.1 (s_tck S + 1) (tk3 (ldA S) (pwN S) (lmN S) (s_stg S 0) (s_ang S) (s_spd S) (s_ld S)).2.2 wc wi := by
  refine ⟨wcP S (zs (ldA S) (pwN S) (lmN S) (s_stg S 0) (Z0S S) 1).2.2.2, wiP S (zs (ldA S) (pwN S) (lmN S) (s_stg S 0) (Z0S S) 1).2.2.2, ?_⟩
  show runS S (s_stg S 0) 1 (zs (ldA S) (pwN S) (lmN S) (s_stg S 0) (Z0S S) 1) = _
  unfold runS mid mkS
  rw [nu_id]
  rfl
theorem zS_step (S : AS) (ws : Int) (i : Nat) : ((zS S ws (i + 1)).1, (zS S ws (i + 1)).2.1, (zS S ws (i + 1)).2.2.1) = tk3 (ldA S) (pwN S) (lmN S) ws (zS S ws i).1 (zS S ws i).2.1 (zS S ws i).2.2.1 := rfl
theorem mkS_mkS (S0 : AS) (a a' : Nat) (v v' : Int) (t t' L L' : Nat) (wc wi wc' wi' : Nat → Nat → Nat) : mkS (mkS S0 a v t L wc wi) a' v' t' L' wc' wi' = mkS S0 a' v' t' L' wc' wi' := rfl
theorem mkS_self (S : AS) : S = mkS S (s_ang S) (s_spd S) (s_tck S) (s_ld S) (s_wc S) (s_wi S) := rfl
/-- the state behind i ticks of one each -/
def behind (S0 : AS) (i : Nat) (S : AS) : Prop := ∃ wc wi, S = mkS S0 (zS S0 (s_stg S0 0) i).1 (zS S0 (s_stg S0 0) i).2.1 (s_tck S0 + i) (zS S0 (s_stg S0 0) i).2.2.1 wc wi
theorem behind_0 (S : AS) : behind S 0 S := ⟨s_wc S, s_wi S, rfl⟩
theorem behind_1 {S0 S : AS} {i : Nat} (h : behind S0 i S) : behind S0 (i + 1) (ruS S 1) := by
  obtain ⟨wc, wi, e⟩ := h
  obtain ⟨wc2, wi2, e2⟩ := ruS_1 S
  refine ⟨wc2, wi2, ?_⟩
  rw [e2, e]
  rfl
theorem nsp_le {pw lm : Nat} {ws v : Int} {L : Nat} : nsp pw lm ws v L = (if ws > v + (if L ≤ lm then (pw : Int) else ((pw / 2 : Nat) : Int)) then v + (if L ≤ lm then (pw : Int) else ((pw / 2 : Nat) : Int)) else if ws < v - (if L ≤ lm then (pw : Int) else ((pw / 2 : Nat) : Int)) then v - (if L ≤ lm then (pw : Int) else ((pw / 2 : Nat) : Int)) else ws) := by
  unfold nsp
  dsimp only
  generalize (if L ≤ lm then (pw : Int) else ((pw / 2 : Nat) : Int)) = M
  by_cases h1 : ws - v > M
  · rw [if_pos h1, if_pos (show ws > v + M by omega)]
  · rw [if_neg h1, if_neg (show ¬ ws > v + M by omega)]
    by_cases h2 : ws - v < -M
    · rw [if_pos h2, if_pos (show ws < v - M by omega)]; omega
    · rw [if_neg h2, if_neg (show ¬ ws < v - M by omega)]; omega
theorem ang_tk {a : Nat} {v : Int} (ha : a < 720) (hv : -60 ≤ v ∧ v ≤ 60) : ((ang (tkp v) a v.natAbs : Nat) : Int) = ((a : Int) + v) % 720 := by
  rw [ang_form ha]
  unfold tkp
  by_cases h : 0 < v
  · rw [if_pos (by simpa using h)]
    omega
  · rw [if_neg (by simpa using h)]
    omega
/-! the lit places: at most as many more as are written -/
def litC (S : AS) : Nat := sg 720 (fun a => sm 12 (dk (litS S 0 a)))
theorem litC_le (S : AS) : litC S ≤ 8640 := by
  have := sg_le (b := 12) (n := 720) (f := fun a => sm 12 (dk (litS S 0 a))) (fun c _ => sm_dk_le _)
  unfold litC
  omega
theorem pas_lds (f : Nat → Nat) (pos : Bool) (a : Nat) (ha : a < 720) : ∀ n, sg 720 (fun q => if pas pos a 1 (fun _ => 0) n q ≠ 0 then f q else 0) ≤ lds f pos a n
  | 0 => by
    rw [sg_zero (fun i _ => by
      show (if (0 : Nat) ≠ 0 then f i else 0) = 0
      rw [if_neg (fun z => z rfl)])]
    exact Nat.zero_le _
  | n + 1 => by
    have ih := pas_lds f pos a ha n
    have hx := ang_lt (pos := pos) ha (n + 1)
    have hu := sg_upd (n := 720) (f := fun q => if pas pos a 1 (fun _ => 0) n q ≠ 0 then f q else 0) (g := fun q => if pas pos a 1 (fun _ => 0) (n + 1) q ≠ 0 then f q else 0) (x := ang pos a (n + 1)) (fun i hi => by
      show (if nu (pas pos a 1 (fun _ => 0) n) (ang pos a (n + 1)) 1 i ≠ 0 then f i else 0) = _
      rw [nu_n hi]) hx
    have e : (if pas pos a 1 (fun _ => 0) (n + 1) (ang pos a (n + 1)) ≠ 0 then f (ang pos a (n + 1)) else 0) = f (ang pos a (n + 1)) := by
      show (if nu (pas pos a 1 (fun _ => 0) n) (ang pos a (n + 1)) 1 (ang pos a (n + 1)) ≠ 0 then f (ang pos a (n + 1)) else 0) = _
      rw [nu_s, if_pos (by decide)]
    rw [e] at hu
    show _ ≤ lds f pos a n + f (ang pos a (n + 1))
    omega
theorem sm_addf (f g : Nat → Nat) : sm 12 (fun i => f i + g i) = sm 12 f + sm 12 g := by
  rw [← sg_sm, ← sg_sm, ← sg_sm, sg_addf]
theorem sm_mono {f g : Nat → Nat} (h : ∀ i, i < 12 → f i ≤ g i) : sm 12 f ≤ sm 12 g := by
  rw [← sg_sm, ← sg_sm]
  exact sg_mono h
theorem sm_0 : sm 12 (fun _ => 0) = 0 := rfl
/-- what is written at the places of an angle -/
theorem lit_step {S : AS} {P : Nat → Nat} {a l : Nat} (hb : ∀ a l, a < 2 → l < 12 → s_wk S a l ≤ 1) (hl : l < 12) :
    (if gl (s_tck S + 1) (gN S) (wiP S P a l) (wcP S P a l) = 0 then 0 else 1) ≤ dk (litS S 0 a) l + ((if P a ≠ 0 then dk (wantS S a) l &&& s_wk S 0 l else 0) + (if s_sec S = 1 ∧ P (opp a) ≠ 0 then dk (wantS S a) l &&& s_wk S 1 l else 0)) := by
  have b0 := hb 0 l (by omega) hl
  have b1 := hb 1 l (by omega) hl
  unfold wiP wcP
  by_cases hz : hit (s_wk S) (s_sec S) P a l = 0
  · rw [if_pos hz, if_pos hz]
    refine Nat.le_trans ?_ (Nat.le_add_right _ _)
    unfold dk litS gl
    by_cases h1 : s_wi S a l ≠ 0 ∧ s_tck S + 1 < s_wi S a l + gN S
    · rw [if_pos h1, if_pos (show s_wi S a l ≠ 0 ∧ s_tck S + 0 < s_wi S a l + gN S from ⟨h1.1, by omega⟩)]
      exact Nat.le_refl _
    · rw [if_neg h1, if_pos rfl]
      exact Nat.zero_le _
  · rw [if_neg hz, if_neg hz]
    by_cases hw : wantS S a l = 0
    · have : gl (s_tck S + 1) (gN S) (s_tck S + hit (s_wk S) (s_sec S) P a l) (wantS S a l) = 0 := by
        unfold gl
        rw [hw]
        split <;> rfl
      rw [if_pos this]
      exact Nat.zero_le _
    · refine Nat.le_trans ?_ (Nat.le_add_left _ _)
      have hd : dk (wantS S a) l = 1 := by unfold dk; rw [if_neg hw]
      rw [hd]
      have hle : (if gl (s_tck S + 1) (gN S) (s_tck S + hit (s_wk S) (s_sec S) P a l) (wantS S a l) = 0 then 0 else 1) ≤ 1 := by split <;> omega
      refine Nat.le_trans hle ?_
      unfold hit at hz
      by_cases c0 : s_wk S 0 l = 1 ∧ P a ≠ 0
      · rw [if_pos c0.2, c0.1]
        exact Nat.le_add_right 1 _
      · have z0 : (if s_wk S 0 l = 1 then P a else 0) = 0 := by
          by_cases w : s_wk S 0 l = 1
          · rw [if_pos w]
            by_cases y : P a = 0
            · exact y
            · exact absurd ⟨w, y⟩ c0
          · rw [if_neg w]
        rw [z0] at hz
        have c1 : (s_sec S = 1 ∧ s_wk S 1 l = 1) ∧ P (opp a) ≠ 0 := by
          by_cases w : s_sec S = 1 ∧ s_wk S 1 l = 1
          · refine ⟨w, fun y => hz ?_⟩
            rw [if_pos w, y]
            rfl
          · exact absurd (by rw [if_neg w]; rfl) hz
        rw [if_pos (show s_sec S = 1 ∧ P (opp a) ≠ 0 from ⟨c1.1.1, c1.2⟩), c1.1.2]
        exact Nat.le_add_left 1 _
theorem lit_run {T : Nat} {S : AS} (hS : okS T S) : litC (ruS S 1) ≤ litC S + s_ld (ruS S 1) := by
  have hb : ∀ a l, a < 2 → l < 12 → s_wk S a l ≤ 1 := hS.2.2.2.2.2.2.2.2.1
  have ha : s_ang S < 720 := hS.2.1
  generalize hv : nsp (pwN S) (lmN S) (s_stg S 0) (s_spd S) (s_ld S) = v
  have eP : (zs (ldA S) (pwN S) (lmN S) (s_stg S 0) (Z0S S) 1).2.2.2 = pas (tkp v) (s_ang S) 1 (fun _ => 0) v.natAbs := by rw [← hv]; rfl
  have eL : s_ld (ruS S 1) = lds (ldA S) (tkp v) (s_ang S) v.natAbs := by rw [← hv]; rfl
  generalize hP : pas (tkp v) (s_ang S) 1 (fun _ => 0) v.natAbs = P at eP
  have hsum := pas_lds (ldA S) (tkp v) (s_ang S) ha v.natAbs
  rw [hP, ← eL] at hsum
  have egl : ∀ a l, litS (ruS S 1) 0 a l = gl (s_tck S + 1) (gN S) (wiP S P a l) (wcP S P a l) := by
    intro a l
    rw [← eP]
    rfl
  have h1 : litC (ruS S 1) ≤ sg 720 (fun a => sm 12 (dk (litS S 0 a)) + (sm 12 (fun l => if P a ≠ 0 then dk (wantS S a) l &&& s_wk S 0 l else 0) + sm 12 (fun l => if s_sec S = 1 ∧ P (opp a) ≠ 0 then dk (wantS S a) l &&& s_wk S 1 l else 0))) := by
    unfold litC
    refine sg_mono fun a _ => ?_
    rw [← sm_addf, ← sm_addf]
    refine sm_mono fun l hl => ?_
    show (if litS (ruS S 1) 0 a l = 0 then 0 else 1) ≤ _
    rw [egl]
    exact lit_step hb hl
  rw [sg_addf, sg_addf] at h1
  have e2 : sg 720 (fun a => sm 12 (fun l => if s_sec S = 1 ∧ P (opp a) ≠ 0 then dk (wantS S a) l &&& s_wk S 1 l else 0)) = sg 720 (fun a => if P a ≠ 0 then (if s_sec S = 1 then sm 12 (fun l => dk (wantS S (opp a)) l &&& s_wk S 1 l) else 0) else 0) := by
    rw [← sg_opp (fun a => if P a ≠ 0 then (if s_sec S = 1 then sm 12 (fun l => dk (wantS S (opp a)) l &&& s_wk S 1 l) else 0) else 0)]
    refine sg_congr fun a hA => ?_
    rw [opp_opp hA]
    by_cases c1 : P (opp a) ≠ 0
    · rw [if_pos c1]
      by_cases c2 : s_sec S = 1
      · rw [if_pos c2]
        exact sm_congr fun l _ => if_pos ⟨c2, c1⟩
      · rw [if_neg c2]
        exact (sm_congr fun l _ => if_neg (fun z => c2 z.1)).trans sm_0
    · rw [if_neg c1]
      exact (sm_congr fun l _ => if_neg (fun z => c1 z.2)).trans sm_0
  have e1 : sg 720 (fun a => sm 12 (fun l => if P a ≠ 0 then dk (wantS S a) l &&& s_wk S 0 l else 0)) = sg 720 (fun a => if P a ≠ 0 then sm 12 (fun l => dk (wantS S a) l &&& s_wk S 0 l) else 0) := by
    refine sg_congr fun a _ => ?_
    by_cases c1 : P a ≠ 0
    · rw [if_pos c1]
      exact sm_congr fun l _ => if_pos c1
    · rw [if_neg c1]
      exact (sm_congr fun l _ => if_neg c1).trans sm_0
  rw [e1, e2, ← sg_addf] at h1
  have e3 : sg 720 (fun a => (if P a ≠ 0 then sm 12 (fun l => dk (wantS S a) l &&& s_wk S 0 l) else 0) + (if P a ≠ 0 then (if s_sec S = 1 then sm 12 (fun l => dk (wantS S (opp a)) l &&& s_wk S 1 l) else 0) else 0)) = sg 720 (fun q => if P q ≠ 0 then ldA S q else 0) := by
    refine sg_congr fun a _ => ?_
    by_cases c1 : P a ≠ 0
    · rw [if_pos c1, if_pos c1, if_pos c1]
      rfl
    · rw [if_neg c1, if_neg c1, if_neg c1]
  rw [e3] at h1
  unfold litC at h1 ⊢
  omega
