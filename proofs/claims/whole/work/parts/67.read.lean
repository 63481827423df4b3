theorem rst_le {q : RQ} {ch at' : Nat} (hq : okR q) (hat : at' ≤ 1000) : (rst q ch at').1 ≤ 1001 := by
  have o5 := hq.2.2.2.2.1
  have C : ∀ n, (tkC q ch at' n).1 ≤ 1001 := fun n => by
    unfold tkC
    split
    · show 0 ≤ 1001; omega
    · show at' + 1 ≤ 1001; omega
  have D : ∀ num nst, nst ≤ 1000 → (tkD q ch at' num nst).1 ≤ 1001 := fun num nst h => by
    unfold tkD
    split
    · split
      · show 0 ≤ 1001; omega
      · show nst + 1 ≤ 1001; omega
    · show at' + 1 ≤ 1001; omega
  have B : (tkB q ch at').1 ≤ 1001 := by
    unfold tkB
    split
    · show 0 ≤ 1001; omega
    · show at' + 1 ≤ 1001; omega
  have Sc : (tkS q at').1 ≤ 1001 := by
    unfold tkS
    split
    · show 0 ≤ 1001; omega
    · show at' + 1 ≤ 1001; omega
  unfold rst
  split
  · show 0 ≤ 1001; omega
  · split
    · exact D _ _ hat
    · split
      · split
        · exact B
        · exact D _ _ o5
      · split
        · exact B
        · split
          · exact C _
          · split
            · exact Sc
            · split
              · show 0 ≤ 1001; omega
              · exact C _
/-- the rest of a text from i on, f characters: 0 or the error's position and one, and where the reading stands -/
def rd (tx : Nat → Nat) : Nat → Nat → RQ → Nat × RQ
  | 0, i, q => (if q.2.1 = 0 then 0 else i + 1, q)
  | f + 1, i, q => if (rst q (tx i) i).1 = 0 then rd tx f (i + 1) (rst q (tx i) i).2 else ((rst q (tx i) i).1, q)
def q00 : RQ := (1, 0, 0, 0, 0, fun _ _ => 0)
theorem q00_ok : okR q00 := ⟨⟨by decide, by decide⟩, by decide, by decide, by decide, by decide, fun c l _ _ => by show 0 < 8; omega⟩
theorem tC_read {tl : Nat} {tx : Nat → Nat} {l_text : Nat → Int32} {cols : Nat → Int64} {cc aw told num nst : Int32} {k : Int32 → (Nat → Int64) → Int32 → Int32 → Int32 → Int32 → Int32 → Prop} (hT : TO tl tx) (hX : TX tl tx l_text)
    (hE : ∀ e, e ≤ 1000 → (rd tx tl 0 q00).1 = e + 1 → ∀ c cc a t nu ns, k (nI e) c cc a t nu ns) (h0 : (rd tx tl 0 q00).1 = 0 → okR (rd tx tl 0 q00).2 → ∀ c cc a t nu ns, RC (rd tx tl 0 q00).2 c cc a t nu ns → k (-1) c cc a t nu ns) : PX1_read cols cc aw told num nst l_text (nI tl) k := by
  obtain ⟨hl, ht⟩ := hT
  unfold PX1_read
  refine lp2 (PX1_read_L1 _) (fun v c => ∃ i, i ≤ 40 ∧ v = nI i ∧ ∀ x, x < i → c x = lN (dg 8 12 (fun _ => 0))) (fun v _ => 40 - v.toNatClampNeg) ?_ _ _ ⟨0, by omega, rfl, fun x hx => by omega⟩
  rintro f v c ⟨i, hi, ev, hJ⟩ ih
  subst ev
  unfold PX1_read_L1
  refine ⟨fun c1 => ?_, fun c1 => ?_⟩ <;> rw [show (40 : Int32) = nI 40 from rfl, nI_leI (by omega) (by omega)] at c1
  · obtain rfl : i = 40 := by omega
    refine lp7 (PX1_read_L2 l_text (nI tl) k _) (fun v c cc aw told num nst => ∃ i q, i ≤ tl ∧ v = nI i ∧ okR q ∧ RC q c cc aw told num nst ∧ rd tx (tl - i) i q = rd tx tl 0 q00) (fun v _ _ _ _ _ _ => tl - v.toNatClampNeg) ?_ _ _ _ _ _ _ _ ⟨0, q00, by omega, rfl, q00_ok, ⟨hJ, rfl, rfl, rfl, fun z => absurd rfl z⟩, rfl⟩
    rintro f2 v c cc aw told num nst ⟨i, q, hi, ev, hq, hR, hrd⟩ ih2
    subst ev
    have hend : i = tl → ((¬ aw = 0 → (k (nI tl) c cc aw told num nst)) ∧ (aw = 0 → (k (-1 : Int32) c cc aw told num nst))) := by
      intro z
      subst z
      rw [Nat.sub_self] at hrd
      have haw := hR.2.2.1
      have o2 := hq.2.1
      have hz : aw = 0 ↔ q.2.1 = 0 := by rw [haw]; exact nI_eq (b := 0) (by omega) (by omega)
      have hrd3 : ((if q.2.1 = 0 then 0 else i + 1), q) = rd tx i 0 q00 := hrd
      refine ⟨fun c2 => ?_, fun c2 => ?_⟩ <;> rw [hz] at c2
      · rw [if_neg c2] at hrd3
        exact hE i (by omega) (by rw [← hrd3]) _ _ _ _ _ _
      · rw [if_pos c2] at hrd3
        exact h0 (by rw [← hrd3]) (by rw [← hrd3]; exact hq) _ _ _ _ _ _ (by rw [← hrd3]; exact hR)
    unfold PX1_read_L2
    refine ⟨fun c2 => ?_, fun c2 => ⟨fun c3 => ?_, fun c3 => ?_⟩⟩ <;> rw [nI_leI (by omega) (by omega)] at c2
    · exact hend (by omega)
    · rw [show (160 : Int32) = nI 160 from rfl, nI_leI (by omega) (by omega)] at c3
      exact hend (by omega)
    · have hi2 : i < tl := by omega
      rw [nI_clamp (by omega), hX i hi2]
      have hti := ht i hi2
      have hrd2 : (if (rst q (tx i) i).1 = 0 then rd tx (tl - (i + 1)) (i + 1) (rst q (tx i) i).2 else ((rst q (tx i) i).1, q)) = rd tx tl 0 q00 := by
        rw [← hrd, show tl - i = (tl - (i + 1)) + 1 by omega]
        rfl
      refine ⟨vp_in_nI (by omega) (by decide), tC_take hq hR hti.2 (by omega) (fun e he c cc a t nu ns => ⟨fun c4 => ?_, fun _ => ?_⟩) (fun he c cc a t nu ns hR2 => ⟨fun _ v1 f1 => ?_, fun c4 => absurd (by decide) c4⟩)⟩
      · have := rst_le (ch := tx i) hq (show i ≤ 1000 by omega)
        exact absurd c4 (nI_pos (by omega))
      · have := rst_le (ch := tx i) hq (show i ≤ 1000 by omega)
        rw [if_neg (by omega)] at hrd2
        exact hE e (by omega) (by rw [← hrd2]; exact he) _ _ _ _ _ _
      · rw [nI_1] at f1
        rw [if_pos he] at hrd2
        exact ih2 _ _ _ _ _ _ _ ⟨i + 1, _, by omega, f1, rst_ok hq hti.2 (by omega) he, hR2, hrd2⟩ (by rw [f1, nI_clamp (by omega), nI_clamp (by omega)]; omega)
  · refine ⟨vp_in_nI (by omega) (by decide), fun c' ec v1 f1 => ?_⟩
    rw [nI_clamp (by omega)] at ec
    rw [nI_1] at f1
    refine ih _ _ ⟨i + 1, by omega, f1, fun x hx => ?_⟩ (by rw [f1, nI_clamp (by omega), nI_clamp (by omega)]; omega)
    rw [ec]
    by_cases z : x = i
    · rw [z, pk_uLs]; exact l_zero
    · rw [pk_uLn z]; exact hJ x (by omega)
