/-! the way of the bar, as mathematics -/
abbrev ZS : Type := Nat × Int × Nat × (Nat → Nat)
def opp (a : Nat) : Nat := (a + 360) % 720
def nsp (pw lm : Nat) (ws v : Int) (L : Nat) : Int :=
  let M : Int := if L ≤ lm then (pw : Int) else ((pw / 2 : Nat) : Int)
  v + (if ws - v > M then M else if ws - v < -M then -M else ws - v)
def stp (pos : Bool) (a : Nat) : Nat := if pos then (a + 1) % 720 else (a + 719) % 720
def ang (pos : Bool) (a : Nat) : Nat → Nat
  | 0 => a
  | n + 1 => stp pos (ang pos a n)
def pas (pos : Bool) (a j : Nat) (P : Nat → Nat) : Nat → (Nat → Nat)
  | 0 => P
  | n + 1 => nu (pas pos a j P n) (ang pos a (n + 1)) j
def lds (f : Nat → Nat) (pos : Bool) (a : Nat) : Nat → Nat
  | 0 => 0
  | n + 1 => lds f pos a n + f (ang pos a (n + 1))
def tkp (v : Int) : Bool := decide (0 < v)
def tk (f : Nat → Nat) (pw lm : Nat) (ws : Int) (j : Nat) (Z : ZS) : ZS :=
  (ang (tkp (nsp pw lm ws Z.2.1 Z.2.2.1)) Z.1 (nsp pw lm ws Z.2.1 Z.2.2.1).natAbs, nsp pw lm ws Z.2.1 Z.2.2.1, lds f (tkp (nsp pw lm ws Z.2.1 Z.2.2.1)) Z.1 (nsp pw lm ws Z.2.1 Z.2.2.1).natAbs, pas (tkp (nsp pw lm ws Z.2.1 Z.2.2.1)) Z.1 j Z.2.2.2 (nsp pw lm ws Z.2.1 Z.2.2.1).natAbs)
def zs (f : Nat → Nat) (pw lm : Nat) (ws : Int) (Z0 : ZS) : Nat → ZS
  | 0 => Z0
  | j + 1 => tk f pw lm ws (j + 1) (zs f pw lm ws Z0 j)
def okZ (j : Nat) (Z : ZS) : Prop := Z.1 < 720 ∧ (-60 ≤ Z.2.1 ∧ Z.2.1 ≤ 60) ∧ Z.2.2.1 ≤ 1440 ∧ ∀ q, Z.2.2.2 q ≤ j
theorem nsp_in {pw lm : Nat} {ws v : Int} {L : Nat} (h1 : -60 ≤ ws ∧ ws ≤ 60) (h2 : -60 ≤ v ∧ v ≤ 60) : -60 ≤ nsp pw lm ws v L ∧ nsp pw lm ws v L ≤ 60 := by
  unfold nsp
  dsimp only
  generalize hM : (if L ≤ lm then (pw : Int) else ((pw / 2 : Nat) : Int)) = M
  have hM0 : 0 ≤ M := by rw [← hM]; split <;> omega
  split
  · omega
  · split <;> omega
theorem stp_lt (pos : Bool) (a : Nat) : stp pos a < 720 := by
  unfold stp
  split <;> exact Nat.mod_lt _ (by decide)
theorem ang_lt {pos : Bool} {a : Nat} (ha : a < 720) : ∀ n, ang pos a n < 720
  | 0 => ha
  | n + 1 => stp_lt pos _
theorem lds_le {f : Nat → Nat} {pos : Bool} {a : Nat} (hf : ∀ q, f q ≤ 24) : ∀ n, lds f pos a n ≤ 24 * n
  | 0 => Nat.le_refl 0
  | n + 1 => by
    have h1 := lds_le (pos := pos) (a := a) hf n
    have h2 := hf (ang pos a (n + 1))
    show lds f pos a n + f (ang pos a (n + 1)) ≤ 24 * (n + 1)
    omega
theorem pas_le {pos : Bool} {a j : Nat} {P : Nat → Nat} (h : ∀ q, P q ≤ j) : ∀ n q, pas pos a j P n q ≤ j
  | 0, q => h q
  | n + 1, q => by
    show nu (pas pos a j P n) (ang pos a (n + 1)) j q ≤ j
    unfold nu
    split
    · omega
    · exact pas_le h n q
theorem tk_ok {f : Nat → Nat} {pw lm : Nat} {ws : Int} {j : Nat} {Z : ZS} (hf : ∀ q, f q ≤ 24) (hw : -60 ≤ ws ∧ ws ≤ 60) (h : okZ j Z) : okZ (j + 1) (tk f pw lm ws (j + 1) Z) := by
  obtain ⟨h1, h2, h3, h4⟩ := h
  have hv := nsp_in (pw := pw) (lm := lm) (L := Z.2.2.1) hw h2
  unfold tk
  generalize nsp pw lm ws Z.2.1 Z.2.2.1 = v at hv
  refine ⟨ang_lt h1 _, hv, ?_, fun q => pas_le (fun q => Nat.le_succ_of_le (h4 q)) _ q⟩
  have := lds_le (pos := tkp v) (a := Z.1) hf v.natAbs
  show lds f (tkp v) Z.1 v.natAbs ≤ 1440
  omega
theorem zs_ok {f : Nat → Nat} {pw lm : Nat} {ws : Int} {Z0 : ZS} (hf : ∀ q, f q ≤ 24) (hw : -60 ≤ ws ∧ ws ≤ 60) (h : okZ 0 Z0) : ∀ j, okZ j (zs f pw lm ws Z0 j)
  | 0 => h
  | j + 1 => tk_ok hf hw (zs_ok hf hw h j)
/-- the colors not dark that all arms write -/
def ldA (S : AS) (a : Nat) : Nat := sm 12 (fun l => dk (wantS S a) l &&& s_wk S 0 l) + (if s_sec S = 1 then sm 12 (fun l => dk (wantS S (opp a)) l &&& s_wk S 1 l) else 0)
theorem and_le1 (d : Nat → Nat) (l w : Nat) : dk d l &&& w ≤ 1 := Nat.le_trans Nat.and_le_left (dk_le d l)
theorem ldA_le (S : AS) (a : Nat) : ldA S a ≤ 24 := by
  unfold ldA
  have h1 := sm_le (b := 1) (n := 12) (d := fun l => dk (wantS S a) l &&& s_wk S 0 l) (fun l _ => and_le1 _ _ _)
  have h2 := sm_le (b := 1) (n := 12) (d := fun l => dk (wantS S (opp a)) l &&& s_wk S 1 l) (fun l _ => and_le1 _ _ _)
  split <;> omega
theorem opp_lt (a : Nat) : opp a < 720 := Nat.mod_lt _ (by decide)
theorem opp_opp {a : Nat} (h : a < 720) : opp (opp a) = a := by unfold opp; omega
theorem opp_I (a : Nat) (h : a < 720) : ((nI a + (360 : Int32)) - (nI a + (360 : Int32)) / (720 : Int32) * (720 : Int32)) = nI (opp a) := by
  rw [show (360 : Int32) = nI 360 from rfl, nI_add]
  exact pk_rem (d := 720) (by omega) (by decide) (by decide)
def pwN (S : AS) : Nat := (s_stg S 1).toNat
def lmN (S : AS) : Nat := (s_stg S 2).toNat
/-! the class's sweep -/
theorem tC_prepare {T : Nat} {S : AS} {n_pictureCount n_angle n_speed n_ticks n_load n_secondArm : Int32} {n_settings : Nat → Int32} {n_working n_written : Nat → Int64} {n_writtenIn n_width n_first n_step n_kind : Nat → Int32} {n_columns : Nat → Nat → Int64} {w_wanted : Nat → Int64} {w_loadAt : Nat → Int32} {w_secondArm w_power w_limit : Int32} {k : (Nat → Int64) → (Nat → Int32) → Int32 → Int32 → Int32 → Prop} (hS : okS T S) (hC : repC S n_pictureCount n_angle n_speed n_ticks n_load n_secondArm n_settings n_working n_written n_writtenIn n_width n_first n_step n_kind n_columns)
    (h : ∀ ww wl, (∀ a, a < 720 → ww a = lN (dg 8 12 (wantS S a))) → (∀ a, a < 720 → wl a = nI (ldA S a)) → k ww wl (nI (s_sec S)) (nI (pwN S)) (nI (lmN S))) : PX3_prepare w_wanted w_loadAt w_secondArm w_power w_limit n_pictureCount n_secondArm n_settings n_working n_width n_first n_step n_kind n_columns k := by
  obtain ⟨c1, -, -, -, -, c6, cG, ⟨cW, -, -⟩, cP⟩ := hC
  have hS' := id hS
  obtain ⟨-, -, -, -, ksec, kG, -, ⟨-, hb, -, -⟩⟩ := hS'
  have hp : n_settings 1 = nI (pwN S) := i_of (by rw [cG 1 (by omega)]; have := kG.2.1; unfold pwN; omega)
  have hl : n_settings 2 = nI (lmN S) := i_of (by rw [cG 2 (by omega)]; have := kG.2.2.1; unfold lmN; omega)
  have J1 : PX3_prepare_J1 w_wanted w_loadAt n_pictureCount n_settings n_working n_width n_first n_step n_kind n_columns k (nI (s_sec S)) := by
    unfold PX3_prepare_J1
    refine ⟨?_, fun v1 e1 v2 e2 => ?_⟩
    · rcases (show s_sec S = 0 ∨ s_sec S = 1 by omega) with z | z <;> rw [z]
      · exact Or.inl rfl
      · exact Or.inr rfl
    rw [hp] at e1
    rw [hl] at e2
    subst e1 e2
    refine lp2 (PX3_prepare_L2 n_pictureCount n_width n_first n_step n_kind n_columns _) (fun v w => ∃ i, i ≤ 720 ∧ v = nI i ∧ ∀ a, a < i → w a = lN (dg 8 12 (wantS S a))) (fun v _ => 720 - v.toNatClampNeg) ?_ _ _ ⟨0, by omega, rfl, fun a ha => by omega⟩
    rintro f v ww ⟨i, hi, ev, hJ⟩ ih
    subst ev
    unfold PX3_prepare_L2
    refine ⟨fun c => ?_, fun c => ?_⟩ <;> rw [show (720 : Int32) = nI 720 from rfl, nI_leI (by omega) (by omega)] at c
    · obtain rfl : i = 720 := by omega
      refine lp2 (PX3_prepare_L3 n_working (nI (s_sec S)) ww _) (fun v w => ∃ i, i ≤ 720 ∧ v = nI i ∧ ∀ a, a < i → w a = nI (ldA S a)) (fun v _ => 720 - v.toNatClampNeg) ?_ _ _ ⟨0, by omega, rfl, fun a ha => by omega⟩
      rintro f2 v wl ⟨j, hj, ev, hJ2⟩ ih2
      subst ev
      unfold PX3_prepare_L3
      refine ⟨fun c => ?_, fun c => ?_⟩ <;> rw [show (720 : Int32) = nI 720 from rfl, nI_leI (by omega) (by omega)] at c
      · obtain rfl : j = 720 := by omega
        exact h _ _ hJ hJ2
      · have hj7 : j < 720 := by omega
        have hin : vp_in (nI j) 720 := vp_in_nI hj7 (by decide)
        have hb8 : ∀ a l, a < 2 → l < 12 → s_wk S a l < 8 := fun a l ha hl => by have := hb a l ha hl; omega
        rw [nI_clamp (by omega), hJ j hj7]
        refine ⟨hin, pX4_notDark (fun l hl => want_lt hS hl) ?_⟩
        rw [cW 0 (by omega), l_and (fun l _ => dk_lt _ l) (fun l hl => hb8 0 l (by omega) hl)]
        refine pJ13_dk (fun l _ => and_le1 _ _ _) ⟨hin, fun w1 e1 => ⟨fun c2 v3 e3 => ?_, fun c2 => ⟨hin, ?_⟩⟩⟩
        · have z : s_sec S = 0 := (nI_eq (b := 0) (by omega) (by omega)).mp c2
          rw [nI_1] at e3
          refine ih2 _ _ ⟨j + 1, by omega, e3, fun a ha => ?_⟩ (by rw [e3, nI_clamp (by omega), nI_clamp (by omega)]; omega)
          rw [e1]
          by_cases y : a = j
          · rw [y, pk_us]
            unfold ldA
            rw [if_neg (by omega)]
            rfl
          · rw [pk_un y]; exact hJ2 a (by omega)
        · have z : s_sec S = 1 := by
            have : ¬ s_sec S = 0 := fun z => c2 (by rw [z]; rfl)
            omega
          unfold PX3_opposite
          rw [opp_I j hj7]
          have ho := opp_lt j
          refine ⟨vp_in_nI ho (by decide), ?_⟩
          rw [nI_clamp (by omega), hJ _ ho]
          refine pX4_notDark (fun l hl => want_lt hS hl) ?_
          rw [cW 1 (by omega), l_and (fun l _ => dk_lt _ l) (fun l hl => hb8 1 l (by omega) hl)]
          refine pJ13_dk (fun l _ => and_le1 _ _ _) ⟨hin, fun w2 e2 v3 e3 => ?_⟩
          rw [nI_1] at e3
          refine ih2 _ _ ⟨j + 1, by omega, e3, fun a ha => ?_⟩ (by rw [e3, nI_clamp (by omega), nI_clamp (by omega)]; omega)
          rw [e2, e1, pk_us, nI_add]
          by_cases y : a = j
          · rw [y, pk_us]
            unfold ldA
            rw [if_pos z]
          · rw [pk_un y, pk_un y]; exact hJ2 a (by omega)
    · refine tC_wantedAt hS c1 cP (by omega) ⟨vp_in_nI (by omega) (by decide), fun w1 e1 v1 f1 => ?_⟩
      rw [nI_clamp (by omega)] at e1
      rw [nI_1] at f1
      refine ih _ _ ⟨i + 1, by omega, f1, fun a ha => ?_⟩ (by rw [f1, nI_clamp (by omega), nI_clamp (by omega)]; omega)
      rw [e1]
      by_cases z : a = i
      · rw [z, pk_uLs]
      · rw [pk_uLn z]; exact hJ a (by omega)
  unfold PX3_prepare
  rw [c6]
  have hs1 : nI (s_sec S) = (1 : Int32) ↔ s_sec S = 1 := nI_eq (b := 1) (by omega) (by omega)
  refine ⟨fun c => ?_, fun c => ?_⟩ <;> rw [hs1] at c
  · rw [show s_sec S = 0 by omega] at J1
    exact J1
  · rw [c] at J1
    exact J1
theorem tC_start {w_passedIn : Nat → Int32} {w_wantedSpeed w_angle w_speed w_load w_ticks n_angle n_speed n_load a_2 : Int32} {k : (Nat → Int32) → Int32 → Int32 → Int32 → Int32 → Int32 → Prop} (h : ∀ wp, (∀ a, a < 720 → wp a = nI 0) → k wp a_2 n_angle n_speed n_load (nI 0)) : PX3_start w_passedIn w_wantedSpeed w_angle w_speed w_load w_ticks n_angle n_speed n_load a_2 k := by
  unfold PX3_start
  refine lp2 (PX3_start_L1 _) (fun v w => ∃ i, i ≤ 720 ∧ v = nI i ∧ ∀ a, a < i → w a = nI 0) (fun v _ => 720 - v.toNatClampNeg) ?_ _ _ ⟨0, by omega, rfl, fun a ha => by omega⟩
  rintro f v ww ⟨i, hi, ev, hJ⟩ ih
  subst ev
  unfold PX3_start_L1
  refine ⟨fun c => ?_, fun c => ?_⟩ <;> rw [show (720 : Int32) = nI 720 from rfl, nI_leI (by omega) (by omega)] at c
  · obtain rfl : i = 720 := by omega
    exact h _ hJ
  · refine ⟨vp_in_nI (by omega) (by decide), fun w1 e1 v1 f1 => ?_⟩
    rw [nI_clamp (by omega)] at e1
    rw [nI_1] at f1
    refine ih _ _ ⟨i + 1, by omega, f1, fun a ha => ?_⟩ (by rw [f1, nI_clamp (by omega), nI_clamp (by omega)]; omega)
    rw [e1]
    by_cases z : a = i
    · rw [z, pk_us]; rfl
    · rw [pk_un z]; exact hJ a (by omega)
