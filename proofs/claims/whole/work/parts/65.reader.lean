/-! reading a text, character by character, as mathematics -/
abbrev RQ : Type := Nat × Nat × Nat × Nat × Nat × (Nat → Nat → Nat)
def colD (d : Nat → Nat → Nat) (cc told n x : Nat) : Nat → Nat → Nat := fun c l => if c = cc - 1 ∧ told ≤ l ∧ l < told + n then x else d c l
def tkC (q : RQ) (ch at' n : Nat) : Nat × RQ := if 48 ≤ ch ∧ ch ≤ 55 ∧ q.2.2.1 + n ≤ 12 then (0, (q.1, 0, q.2.2.1 + n, q.2.2.2.1, q.2.2.2.2.1, colD q.2.2.2.2.2 q.1 q.2.2.1 n (ch - 48))) else (at' + 1, q)
def tkD (q : RQ) (ch at' num nst : Nat) : Nat × RQ := if 48 ≤ ch ∧ ch ≤ 57 then (if 1 ≤ num * 10 + (ch - 48) ∧ q.2.2.1 + (num * 10 + (ch - 48)) ≤ 12 then (0, (q.1, 2, q.2.2.1, num * 10 + (ch - 48), nst, q.2.2.2.2.2)) else (nst + 1, q)) else (at' + 1, q)
def tkB (q : RQ) (ch at' : Nat) : Nat × RQ := if ch = 41 then (0, (q.1, 4, q.2.2)) else (at' + 1, q)
def tkS (q : RQ) (at' : Nat) : Nat × RQ := if q.1 < 40 then (0, (q.1 + 1, q.2.1, 0, q.2.2.2)) else (at' + 1, q)
def rst (q : RQ) (ch at' : Nat) : Nat × RQ :=
  if ch = 32 then (0, (q.1, (if q.2.1 = 2 then 3 else q.2.1), q.2.2))
  else if q.2.1 = 1 then tkD q ch at' 0 at'
  else if q.2.1 = 2 then (if ch = 41 then tkB q ch at' else tkD q ch at' q.2.2.2.1 q.2.2.2.2.1)
  else if q.2.1 = 3 then tkB q ch at'
  else if q.2.1 = 4 then tkC q ch at' q.2.2.2.1
  else if ch = 59 then tkS q at'
  else if ch = 40 then (0, (q.1, 1, q.2.2))
  else tkC q ch at' 1
def okR (q : RQ) : Prop := (1 ≤ q.1 ∧ q.1 ≤ 40) ∧ q.2.1 ≤ 4 ∧ q.2.2.1 ≤ 12 ∧ q.2.2.2.1 ≤ 12 ∧ q.2.2.2.2.1 ≤ 1000 ∧ ∀ c l, c < 40 → l < 12 → q.2.2.2.2.2 c l < 8
def RC (q : RQ) (cols : Nat → Int64) (cc aw told num nst : Int32) : Prop := (∀ c, c < 40 → cols c = lN (dg 8 12 (q.2.2.2.2.2 c))) ∧ cc = nI q.1 ∧ aw = nI q.2.1 ∧ told = nI q.2.2.1 ∧ (q.2.1 ≠ 0 → q.2.1 ≠ 1 → num = nI q.2.2.2.1 ∧ nst = nI q.2.2.2.2.1)
theorem colD_ok {d : Nat → Nat → Nat} {cc told n x : Nat} (hd : ∀ c l, c < 40 → l < 12 → d c l < 8) (hx : x < 8) : ∀ c l, c < 40 → l < 12 → colD d cc told n x c l < 8 := by
  intro c l hc hl
  unfold colD
  split
  · exact hx
  · exact hd c l hc hl
theorem tC_takeColor {q : RQ} {cols : Nat → Int64} {aw : Int32} {ch at' n : Nat} {k : Int32 → (Nat → Int64) → Int32 → Int32 → Prop} (hq : okR q) (hcols : ∀ c, c < 40 → cols c = lN (dg 8 12 (q.2.2.2.2.2 c))) (hch : ch ≤ 255) (hn : n ≤ 12)
    (hE : ¬ (48 ≤ ch ∧ ch ≤ 55 ∧ q.2.2.1 + n ≤ 12) → ∀ c a t, k (nI at') c a t) (h0 : (48 ≤ ch ∧ ch ≤ 55 ∧ q.2.2.1 + n ≤ 12) → ∀ c', (∀ c, c < 40 → c' c = lN (dg 8 12 (colD q.2.2.2.2.2 q.1 q.2.2.1 n (ch - 48) c))) → k (-1) c' (nI 0) (nI (q.2.2.1 + n))) : PX1_takeColor cols (nI q.1) aw (nI q.2.2.1) (nI ch) (nI at') (nI n) k := by
  obtain ⟨⟨o1, o1'⟩, o2, o3, o4, o5, o6⟩ := hq
  unfold PX1_takeColor PX1_takeColor_J1
  refine ⟨fun c => hE ?_ _ _ _, fun c => ⟨fun c2 => hE ?_ _ _ _, fun c2 => ⟨fun c3 v ev => ?_, fun c3 => hE ?_ _ _ _⟩⟩⟩
  · rw [show (48 : Int32) = nI 48 from rfl, nI_ltI (by omega) (by omega)] at c
    omega
  · rw [show (55 : Int32) = nI 55 from rfl, nI_ltI (by omega) (by omega)] at c2
    omega
  · rw [show (48 : Int32) = nI 48 from rfl, nI_ltI (by omega) (by omega)] at c
    rw [show (55 : Int32) = nI 55 from rfl, nI_ltI (by omega) (by omega)] at c2
    rw [nI_add, show (12 : Int32) = nI 12 from rfl, nI_leI (by omega) (by omega)] at c3
    rw [show (48 : Int32) = nI 48 from rfl, pk_sub (by omega)] at ev
    subst ev
    refine lp3 (PX1_takeColor_L2 (nI q.1) (nI n) (nI (ch - 48)) _) (fun v c t => ∃ i, i ≤ n ∧ v = nI i ∧ t = nI (q.2.2.1 + i) ∧ ∀ x, x < 40 → c x = lN (dg 8 12 (colD q.2.2.2.2.2 q.1 q.2.2.1 i (ch - 48) x))) (fun v _ _ => n - v.toNatClampNeg) ?_ _ _ _ ⟨0, by omega, rfl, rfl, fun x hx => ?_⟩
    · rintro f v c t ⟨i, hi, ev, et, hJ⟩ ih
      subst ev et
      unfold PX1_takeColor_L2
      refine ⟨fun c4 => ?_, fun c4 => ?_⟩ <;> rw [nI_leI (by omega) (by omega)] at c4
      · obtain rfl : i = n := by omega
        exact h0 ⟨by omega, by omega, c3⟩ c hJ
      · have e1 : nI q.1 - (1 : Int32) = nI (q.1 - 1) := by rw [show (1 : Int32) = nI 1 from rfl, pk_sub o1]
        have hin : vp_in (nI (q.1 - 1)) 40 := vp_in_nI (by omega) (by decide)
        rw [e1, nI_clamp (by omega), hJ _ (by omega)]
        refine ⟨hin, pX4_withColor (fun l hl => colD_ok o6 (by omega) _ l (by omega) hl) (by omega) (by omega) ⟨hin, fun c' ec t' et v' ev => ?_⟩⟩
        rw [nI_1] at et ev
        refine ih _ _ _ ⟨i + 1, by omega, ev, et, fun x hx => ?_⟩ (by rw [ev, nI_clamp (by omega), nI_clamp (by omega)]; omega)
        rw [ec]
        by_cases z : x = q.1 - 1
        · rw [z, pk_uLs]
          refine congrArg lN (dg_congr fun l hl => ?_)
          unfold colD
          by_cases y : l = q.2.2.1 + i
          · rw [if_pos y, if_pos ⟨rfl, by omega, by omega⟩]
          · rw [if_neg y]
            by_cases w : q.2.2.1 ≤ l ∧ l < q.2.2.1 + i
            · rw [if_pos ⟨rfl, w⟩, if_pos ⟨rfl, by omega, by omega⟩]
            · rw [if_neg (fun u => w u.2), if_neg (fun u => w ⟨u.2.1, by omega⟩)]
        · rw [pk_uLn z, hJ x hx]
          refine congrArg lN (dg_congr fun l hl => ?_)
          unfold colD
          rw [if_neg (fun u => z u.1), if_neg (fun u => z u.1)]
    · rw [hcols x hx]
      refine congrArg lN (dg_congr fun l hl => ?_)
      unfold colD
      rw [if_neg (fun u => by omega)]
  · rw [nI_add, show (12 : Int32) = nI 12 from rfl, nI_leI (by omega) (by omega)] at c3
    omega
