/-! columns: which one stands at an angle, what a picture wants there -/
def cvN (wd sp : Nat) : Nat := if wd * sp < 720 then wd * sp else 720
def ofs (a fs : Nat) : Nat := (a + 720 - fs) % 720
def clN (wd fs sp kd a : Nat) : Nat := if kd = 1 then wd - 1 - ofs a fs / sp else ofs a fs / sp
def pw (wd fs sp kd : Nat) (co : Nat → Nat → Nat) (a l : Nat) : Nat := if kd = 2 then 0 else if ofs a fs < cvN wd sp then co (clN wd fs sp kd a) l else 0
theorem ofs_lt (a fs : Nat) : ofs a fs < 720 := Nat.mod_lt _ (by decide)
theorem clN_lt {wd fs sp kd a : Nat} (h : ofs a fs < cvN wd sp) : clN wd fs sp kd a < wd ∧ ofs a fs / sp < wd := by
  have h1 : ofs a fs < wd * sp := by
    unfold cvN at h
    split at h <;> omega
  have h2 : ofs a fs / sp < wd := Nat.div_lt_of_lt_mul (by rw [Nat.mul_comm]; exact h1)
  unfold clN
  generalize ofs a fs / sp = q at h2 ⊢
  split <;> omega
theorem mul_le {wd sp : Nat} (h1 : wd ≤ 40) (h2 : sp ≤ 18) : wd * sp ≤ 720 := Nat.mul_le_mul h1 h2
theorem tC_coveredAngles {wd sp : Nat} {k : Int32 → Prop} (h1 : wd ≤ 40) (h2 : sp ≤ 18) (h : k (nI (cvN wd sp))) : PX0_coveredAngles (nI wd) (nI sp) k := by
  unfold PX0_coveredAngles
  have hm := mul_le h1 h2
  have e : (if nI wd * nI sp < (720 : Int32) then nI wd * nI sp else (720 : Int32)) = nI (cvN wd sp) := by
    rw [pk_mul]
    unfold cvN
    by_cases c : wd * sp < 720
    · rw [if_pos c, if_pos (show nI (wd * sp) < (720 : Int32) from nI_lt (b := 720) c (by decide))]
    · rw [if_neg c, if_neg (show ¬ nI (wd * sp) < (720 : Int32) from nI_nlt (a := wd * sp) (b := 720) (by omega) (by omega))]
      rfl
  rw [e]
  exact h
theorem tC_ofs {fs a : Nat} {k : Int32 → Prop} (h1 : fs < 720) (h2 : a < 720) (h : k (nI (ofs a fs))) : PJ9_floorMod_7cf53 (nI a - nI fs) (720 : Int32) k := by
  refine pJ9_floorMod (z := (a : Int) - fs) (i_sub (i_nI (by omega)) (i_nI (by omega)) (by omega) (by omega)) ?_
  have e : (((a : Int) - fs) % 720).toNat = ofs a fs := by unfold ofs; omega
  rw [e]
  exact h
theorem tC_covers {wd fs sp a : Nat} {k : Int32 → Prop} (h1 : wd ≤ 40) (h2 : sp ≤ 18) (h3 : fs < 720) (h4 : a < 720) (y : ofs a fs < cvN wd sp → k 1) (n : ¬ ofs a fs < cvN wd sp → k 0) : PX0_covers (nI wd) (nI fs) (nI sp) (nI a) k := by
  unfold PX0_covers
  refine tC_ofs h3 h4 (tC_coveredAngles h1 h2 ?_)
  have hc : cvN wd sp ≤ 720 := by unfold cvN; split <;> omega
  have ho := ofs_lt a fs
  refine ⟨fun c => n ?_, fun c => y ?_⟩ <;> rw [nI_leI (by omega) (by omega)] at c <;> omega
theorem k_eq {kd c : Nat} (h : kd ≤ 2) (hc : c ≤ 2) : nI kd = nI c ↔ kd = c := nI_eq (by omega) (by omega)
theorem tC_columnOf {wd fs sp kd a : Nat} {k : Int32 → Prop} (h0 : 1 ≤ wd) (h1 : wd ≤ 40) (h2 : 1 ≤ sp) (h2' : sp ≤ 18) (h3 : fs < 720) (h4 : a < 720) (h5 : kd ≤ 2) (hc : ofs a fs < cvN wd sp) (h : k (nI (clN wd fs sp kd a))) : PX0_columnOf (nI wd) (nI fs) (nI sp) (nI kd) (nI a) k := by
  unfold PX0_columnOf
  refine tC_ofs h3 h4 ⟨nI_ne0 (by omega) (by omega), fun v ev => ?_⟩
  have ho := ofs_lt a fs
  rw [pk_div (by omega) (by omega) (by omega)] at ev
  subst ev
  have hl := (clN_lt (kd := kd) hc).2
  unfold clN at h
  refine ⟨fun c => ?_, fun c => ?_⟩
  · rw [if_neg (fun q => c ((k_eq h5 (c := 1) (by omega)).mpr q))] at h
    exact h
  · rw [if_pos ((k_eq h5 (c := 1) (by omega)).mp c)] at h
    rw [show (1 : Int32) = nI 1 from rfl, pk_sub h0, pk_sub (by omega)]
    exact h
theorem tC_pwanted {wd fs sp kd a : Nat} {co : Nat → Nat → Nat} {cols : Nat → Int64} {k : Int64 → Prop} (h0 : 1 ≤ wd) (h1 : wd ≤ 40) (h2 : 1 ≤ sp) (h2' : sp ≤ 18) (h3 : fs < 720) (h4 : a < 720) (h5 : kd ≤ 2) (hcols : ∀ c, c < 40 → cols c = lN (dg 8 12 (co c))) (h : k (lN (dg 8 12 (pw wd fs sp kd co a)))) : PX0_wantedAt (nI wd) (nI fs) (nI sp) (nI kd) cols (nI a) k := by
  unfold PX0_wantedAt
  have hz : (0 : Int64) = lN (dg 8 12 (fun _ => 0)) := by rw [dg_zero]; rfl
  have he : ∀ d : Nat → Nat, (∀ l, l < 12 → d l = pw wd fs sp kd co a l) → k (lN (dg 8 12 d)) := fun d hd => by rw [dg_congr hd]; exact h
  refine ⟨fun c => ?_, fun c => ?_⟩
  · have c' := (k_eq h5 (c := 2) (by omega)).mp c
    rw [hz]
    refine he _ fun l _ => ?_
    unfold pw
    rw [if_pos c']
  · have c' : ¬ kd = 2 := fun q => c ((k_eq h5 (c := 2) (by omega)).mpr q)
    refine tC_covers h1 h2' h3 h4 (fun y => ⟨fun q => absurd q (by decide), fun _ => ?_⟩) (fun y => ⟨fun _ => ?_, fun q => absurd rfl q⟩)
    · refine tC_columnOf h0 h1 h2 h2' h3 h4 h5 y ?_
      have hl := (clN_lt (kd := kd) y).1
      refine ⟨vp_in_nI (by omega) (by decide), ?_⟩
      rw [nI_clamp (by omega), hcols _ (by omega)]
      refine he _ fun l _ => ?_
      unfold pw
      rw [if_neg c', if_pos y]
    · rw [hz]
      refine he _ fun l _ => ?_
      unfold pw
      rw [if_neg c', if_neg y]
/-! the same of the reference -/
/-- the cells of one picture -/
def mP (m : Nat → Int32) (p wd fs sp kd : Nat) (co : Nat → Nat → Nat) : Prop := m (12 + 4 * p) = nI wd ∧ m (13 + 4 * p) = nI fs ∧ m (14 + 4 * p) = nI sp ∧ m (15 + 4 * p) = nI kd ∧ ∀ c h, c < 40 → h < 2 → m (28 + 80 * p + 2 * c + h) = nI (dg 8 6 (fun i => co c (6 * h + i)))
theorem smod32 : ∀ j, j < 32 → ((nI j).toBitVec.smod 32).toNat = j := by decide +kernel
theorem cell2 {p c l : Nat} (hl : l < 12) : (((28 : Int32) + ((80 : Int32) * nI p)) + ((2 : Int32) * nI c)) + (nI l / (6 : Int32)) = nI (28 + 80 * p + 2 * c + l / 6) := by
  rw [show (6 : Int32) = nI 6 from rfl, pk_div (by omega) (by omega) (by omega), show (28 : Int32) = nI 28 from rfl, show (80 : Int32) = nI 80 from rfl, show (2 : Int32) = nI 2 from rfl, pk_mul, pk_mul, nI_add, nI_add, nI_add]
theorem sh6 {l : Nat} (hl : l < 12) : ((3 : Int32) * (nI l - nI l / (6 : Int32) * (6 : Int32))) = nI (3 * (l % 6)) := by
  rw [show (6 : Int32) = nI 6 from rfl, pk_rem (by omega) (by omega) (by omega), show (3 : Int32) = nI 3 from rfl, pk_mul]
