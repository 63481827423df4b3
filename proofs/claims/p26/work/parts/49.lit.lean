/-! what is lit at a place -/
def gl (t g wi wc : Nat) : Nat := if wi ≠ 0 ∧ t < wi + g then wc else 0
theorem gl_lt {t g wi wc : Nat} (h : wc < 8) : gl t g wi wc < 8 := by unfold gl; split <;> omega
theorem l_pick {d : Nat → Nat} {l : Nat} (hd : ∀ l, l < 12 → d l < 8) (hl : l < 12) : lN (dg 8 12 d) &&& lN (7 * 8 ^ l) = lN (dg 8 12 (fun j => if j = l then d l else 0)) := by
  have e7 : ∀ j, j < 12 → (if j = l then 7 else 0) < 8 := fun j _ => by split <;> omega
  have q1 : dg 8 12 (fun j => if j = l then 7 else 0) = 7 * 8 ^ l := dg_one hl
  rw [← q1, l_and hd e7]
  refine congrArg lN (dg_congr fun j hj => ?_)
  show d j &&& (if j = l then 7 else 0) = if j = l then d l else 0
  by_cases e : j = l
  · rw [if_pos e, if_pos e, e]
    exact (Nat.and_two_pow_sub_one_eq_mod (d l) 3).trans (Nat.mod_eq_of_lt (hd l hl))
  · rw [if_neg e, if_neg e, Nat.and_zero]
theorem stale_eq {t x g : Nat} (ht : t < 100000) (hx : x < 100000) (hg : g < 100000) : (if (0 : Int32) < ((nI t + nI x) - nI g) then ((nI t + nI x) - nI g) else (0 : Int32)) = nI (t + x - g) := by
  rw [nI_add]
  by_cases c : g ≤ t + x
  · rw [pk_sub c]
    by_cases z : t + x - g = 0
    · rw [z]
      rfl
    · rw [if_pos (show (0 : Int32) < nI (t + x - g) from nI_lt (a := 0) (by omega) (by omega))]
  · have h1 : (nI (t + x) - nI g).toInt = ((t + x : Nat) : Int) - g := i_sub (i_nI (by omega)) (i_nI (by omega)) (by omega) (by omega)
    have h2 : ¬ (0 : Int32) < nI (t + x) - nI g := by
      rw [i_lt (show (0 : Int32).toInt = 0 by decide) h1]
      omega
    rw [if_neg h2, show t + x - g = 0 by omega]
    rfl
theorem pl12 (a l : Nat) : ((nI a * (12 : Int32)) + nI l) = nI (12 * a + l) := by
  rw [show (12 : Int32) = nI 12 from rfl, pk_mul, nI_add, Nat.mul_comm]
theorem tC_litAt {wk wc wi : Nat → Nat → Nat} {n_settings : Nat → Int32} {n_working n_written : Nat → Int64} {n_writtenIn : Nat → Int32} {t x g a : Nat} {k : Int64 → Prop} (hW : rcW wk wc wi n_working n_written n_writtenIn) (hwc : ∀ a l, a < 720 → l < 12 → wc a l < 8) (hwi : ∀ a l, a < 720 → l < 12 → wi a l < 100000) (ht : t < 100000) (hx : x < 100000) (hg : g < 100000) (hs : n_settings 3 = nI g) (ha : a < 720) (h : k (lN (dg 8 12 (fun l => gl (t + x) g (wi a l) (wc a l))))) : PX2_litAt (nI t) n_settings n_written n_writtenIn (nI a) (nI x) k := by
  unfold PX2_litAt
  intro v ev
  rw [hs, stale_eq ht hx hg] at ev
  subst ev
  refine lp2 (PX2_litAt_L1 n_written n_writtenIn (nI a) (nI (t + x - g)) _) (fun v w => ∃ i, i ≤ 12 ∧ w = nI i ∧ v = lN (dg 8 12 (fun l => if l < i then gl (t + x) g (wi a l) (wc a l) else 0))) (fun _ w => 12 - w.toNatClampNeg) ?_ _ _ ⟨0, by omega, rfl, l_zero⟩
  rintro f v w ⟨i, hi, ew, ev⟩ ih
  subst ew ev
  unfold PX2_litAt_L1
  refine ⟨fun c => ?_, fun c => ?_⟩ <;> rw [show (12 : Int32) = nI 12 from rfl, nI_leI (by omega) (by omega)] at c
  · obtain rfl : i = 12 := by omega
    have e : dg 8 12 (fun l => if l < 12 then gl (t + x) g (wi a l) (wc a l) else 0) = dg 8 12 (fun l => gl (t + x) g (wi a l) (wc a l)) := dg_congr fun l hl => if_pos hl
    rw [e]
    exact h
  · have hi12 : i < 12 := by omega
    rw [pl12, nI_clamp (by omega)]
    refine ⟨vp_in_nI (by omega) (by decide), fun v1 e1 => ?_⟩
    rw [hW.2.2 a i ha hi12] at e1
    subst e1
    have hwii := hwi a i ha hi12
    refine ⟨fun c2 => ?_, fun c2 => ?_⟩ <;> rw [nI_leI (by omega) (by omega)] at c2
    · intro w1 f1
      rw [nI_1] at f1
      refine ih _ _ ⟨i + 1, by omega, f1, congrArg lN (dg_congr fun l hl => ?_)⟩ ?_
      · by_cases z : l < i
        · rw [if_pos z, if_pos (by omega)]
        · rw [if_neg z]
          by_cases y : l = i
          · rw [y, if_pos (by omega)]
            unfold gl
            rw [if_neg (by omega)]
          · rw [if_neg (by omega)]
      · rw [f1, nI_clamp (by omega), nI_clamp (by omega)]; omega
    · refine ⟨vp_in_nI (by omega) (by decide), fun v1 e1 w1 f1 => ?_⟩
      have hd : ∀ l, l < 12 → wc a l < 8 := fun l hl => hwc a l ha hl
      rw [nI_clamp (by omega), hW.2.1 a ha, show (7 : Int64) = lN 7 from l_lit 7, l_shl 7 i hi12, l_pick hd hi12, l_or (fun l hl => ?_) (fun l hl => ?_)] at e1
      · rw [nI_1] at f1
        refine ih _ _ ⟨i + 1, by omega, f1, e1.trans (congrArg lN (dg_congr fun l hl => ?_))⟩ ?_
        · show (if l < i then gl (t + x) g (wi a l) (wc a l) else 0) ||| (if l = i then wc a i else 0) = if l < i + 1 then gl (t + x) g (wi a l) (wc a l) else 0
          by_cases z : l < i
          · rw [if_pos z, if_neg (show ¬ l = i by omega), Nat.or_zero, if_pos (show l < i + 1 by omega)]
          · rw [if_neg z]
            by_cases y : l = i
            · rw [y, if_pos rfl, if_pos (show i < i + 1 by omega), Nat.zero_or]
              unfold gl
              rw [if_pos (by omega)]
            · rw [if_neg y, if_neg (by omega)]; rfl
        · rw [f1, nI_clamp (by omega), nI_clamp (by omega)]; omega
      · show (if l < i then gl (t + x) g (wi a l) (wc a l) else 0) < 8
        split
        · exact gl_lt (hd l hl)
        · omega
      · show (if l = i then wc a i else 0) < 8
        split
        · exact hd i hi12
        · omega
/-! the same of the reference -/
theorem wN_0 {wi wc : Nat} (h : wi < 100000) (hc : wc < 8) : nI (wN wi wc) = 0 ↔ wi = 0 := by
  rw [show (0 : Int32) = nI 0 from rfl]
  unfold wN
  split
  · rename_i z
    exact ⟨fun _ => z, fun _ => rfl⟩
  · rename_i z
    rw [nI_eq (by omega) (by omega)]
    omega
/-- all places: how many are lit, how many as wanted -/
def litN (t g : Nat) (wi wc : Nat → Nat → Nat) (k : Nat) : Nat := gl t g (wi (k / 12) (k % 12)) (wc (k / 12) (k % 12))
