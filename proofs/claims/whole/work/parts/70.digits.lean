/-- the digits from i on: the number, and where they end -/
def nv (tl : Nat) (tx : Nat → Nat) : Nat → Nat → Nat → Nat × Nat
  | 0, i, v => (v, i)
  | f + 1, i, v => if 48 ≤ hr tl tx i ∧ hr tl tx i ≤ 57 then nv tl tx f (i + 1) (if v ≤ 99 then 10 * v + (hr tl tx i - 48) else v) else (v, i)
theorem nv_in {tl : Nat} {tx : Nat → Nat} : ∀ f i v, i + f = tl → v ≤ 999 → i ≤ (nv tl tx f i v).2 ∧ (nv tl tx f i v).2 ≤ tl ∧ ¬ (48 ≤ hr tl tx (nv tl tx f i v).2 ∧ hr tl tx (nv tl tx f i v).2 ≤ 57) ∧ v ≤ (nv tl tx f i v).1 ∧ (nv tl tx f i v).1 ≤ 999
  | 0, i, v, h, hv => ⟨Nat.le_refl _, by show i ≤ tl; omega, by show ¬ (48 ≤ hr tl tx i ∧ hr tl tx i ≤ 57); unfold hr; rw [if_neg (by omega)]; omega, Nat.le_refl _, hv⟩
  | f + 1, i, v, h, hv => by
    unfold nv
    by_cases z : 48 ≤ hr tl tx i ∧ hr tl tx i ≤ 57
    · rw [if_pos z]
      obtain ⟨h1, h2, h3, h4, h5⟩ := nv_in (tl := tl) (tx := tx) f (i + 1) (if v ≤ 99 then 10 * v + (hr tl tx i - 48) else v) (by omega) (by split <;> omega)
      refine ⟨by omega, h2, h3, ?_, h5⟩
      have hx : v ≤ (if v ≤ 99 then 10 * v + (hr tl tx i - 48) else v) := by split <;> omega
      exact Nat.le_trans hx h4
    · rw [if_neg z]
      exact ⟨Nat.le_refl _, by show i ≤ tl; omega, z, Nat.le_refl _, hv⟩
theorem tM_digits {tl : Nat} {tx : Nat → Nat} {b_text : Nat → Int32} {kx : Int32 → Int32 → Prop} (hT : TO tl tx) (hX : TX tl tx b_text) : ∀ (f i v : Nat), i + f = tl → v ≤ 999 → kx (nI (nv tl tx f i v).1) (nI (nv tl tx f i v).2) → PX5_readNumber_L1 b_text (nI tl) kx (f + 1) (nI v) (nI i) := by
  have hl := hT.1
  intro f
  induction f with
  | zero =>
    intro i v hi hv h
    unfold PX5_readNumber_L1
    refine tM_here hT hX (by omega) (no5 (A := 48) (B := 57) (by decide) (by decide) ?_ ⟨fun _ => h, fun c => absurd rfl c⟩)
    unfold hr
    rw [if_neg (by omega)]
    decide
  | succ f ihf =>
    intro i v hi hv h
    have hle := hr_le hT i
    unfold PX5_readNumber_L1
    unfold nv at h
    by_cases z : 48 ≤ hr tl tx i ∧ hr tl tx i ≤ 57
    · rw [if_pos z] at h
      refine tM_here hT hX (by omega) (yes5 (L := 48) (H := 57) (by decide) (by decide) z.1 z.2 ⟨fun c => absurd c (by decide), fun _ => ⟨fun c => ?_, fun c w ew => ?_⟩⟩)
      · rw [show (99 : Int32) = nI 99 from rfl, nI_leI (by omega) (by omega)] at c
        refine tM_here hT hX (by omega) fun v2 e2 w ew => ?_
        rw [show (10 : Int32) = nI 10 from rfl, pk_mul, nI_add, show (48 : Int32) = nI 48 from rfl, pk_sub (by omega)] at e2
        rw [nI_1] at ew
        subst e2 ew
        rw [if_pos c] at h
        rw [show 10 * v + hr tl tx i - 48 = 10 * v + (hr tl tx i - 48) by omega]
        exact ihf (i + 1) _ (by omega) (by omega) h
      · rw [show (99 : Int32) = nI 99 from rfl, nI_leI (by omega) (by omega)] at c
        rw [nI_1] at ew
        subst ew
        rw [if_neg c] at h
        exact ihf (i + 1) _ (by omega) hv h
    · rw [if_neg z] at h
      refine tM_here hT hX (by omega) (no5 (A := 48) (B := 57) (by decide) (by decide) ?_ ⟨fun _ => h, fun c => absurd rfl c⟩)
      rw [i_nI (show hr tl tx i < 2 ^ 31 by omega)]
      omega
/-- the class at the digits behind the first one -/
theorem rd_num {tl : Nat} {tx : Nat → Nat} : ∀ (f i : Nat) (q : RQ), i + f = tl → q.2.1 = 2 → 1 ≤ q.2.2.2.1 → q.2.2.1 + q.2.2.2.1 ≤ 12 → if q.2.2.1 + (nv tl tx f i q.2.2.2.1).1 ≤ 12 then rd tx f i q = rd tx (tl - (nv tl tx f i q.2.2.2.1).2) (nv tl tx f i q.2.2.2.1).2 (q.1, 2, q.2.2.1, (nv tl tx f i q.2.2.2.1).1, q.2.2.2.2) else (rd tx f i q).1 = q.2.2.2.2.1 + 1
  | 0, i, q, h, h2, h3, h4 => by
    show if q.2.2.1 + q.2.2.2.1 ≤ 12 then _ else _
    rw [if_pos h4]
    show rd tx 0 i q = rd tx (tl - i) i (q.1, 2, q.2.2.1, q.2.2.2.1, q.2.2.2.2)
    rw [show tl - i = 0 by omega, ← h2]
  | f + 1, i, q, h, h2, h3, h4 => by
    have e : rd tx (f + 1) i q = if (rst q (tx i) i).1 = 0 then rd tx f (i + 1) (rst q (tx i) i).2 else ((rst q (tx i) i).1, q) := rfl
    have ehr : hr tl tx i = tx i := by unfold hr; rw [if_pos (by omega)]
    by_cases z : 48 ≤ tx i ∧ tx i ≤ 57
    · have er : rst q (tx i) i = tkD q (tx i) i q.2.2.2.1 q.2.2.2.2.1 := by
        unfold rst
        rw [if_neg (by omega), if_neg (by omega), if_pos h2, if_neg (by omega)]
      have en : nv tl tx (f + 1) i q.2.2.2.1 = nv tl tx f (i + 1) (q.2.2.2.1 * 10 + (tx i - 48)) := by
        show (if 48 ≤ hr tl tx i ∧ hr tl tx i ≤ 57 then nv tl tx f (i + 1) (if q.2.2.2.1 ≤ 99 then 10 * q.2.2.2.1 + (hr tl tx i - 48) else q.2.2.2.1) else _) = _
        rw [ehr, if_pos z, if_pos (by omega), Nat.mul_comm 10]
      rw [en, e, er]
      unfold tkD
      rw [if_pos z]
      by_cases y : 1 ≤ q.2.2.2.1 * 10 + (tx i - 48) ∧ q.2.2.1 + (q.2.2.2.1 * 10 + (tx i - 48)) ≤ 12
      · rw [if_pos y, if_pos rfl]
        exact rd_num (tl := tl) (tx := tx) f (i + 1) (q.1, 2, q.2.2.1, q.2.2.2.1 * 10 + (tx i - 48), q.2.2.2.2.1, q.2.2.2.2.2) (by omega) rfl y.1 y.2
      · rw [if_neg y]
        have hb := (nv_in (tl := tl) (tx := tx) f (i + 1) (q.2.2.2.1 * 10 + (tx i - 48)) (by omega) (by omega)).2.2.2.1
        rw [if_neg (by omega), if_neg (by show ¬ q.2.2.2.2.1 + 1 = 0; omega)]
    · have en : nv tl tx (f + 1) i q.2.2.2.1 = (q.2.2.2.1, i) := by
        show (if 48 ≤ hr tl tx i ∧ hr tl tx i ≤ 57 then _ else (q.2.2.2.1, i)) = _
        rw [ehr, if_neg z]
      rw [en]
      show if q.2.2.1 + q.2.2.2.1 ≤ 12 then _ else _
      rw [if_pos h4]
      show rd tx (f + 1) i q = rd tx (tl - i) i (q.1, 2, q.2.2.1, q.2.2.2.1, q.2.2.2.2)
      rw [show tl - i = f + 1 by omega, ← h2]
