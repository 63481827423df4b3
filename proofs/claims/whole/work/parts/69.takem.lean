/-- what the reference has read: the digits, those not yet told dark -/
def RM (q : RQ) (rdc : Nat → Int32) (cols told : Int32) : Prop := (∀ c h, c < 40 → h < 2 → rdc (2 * c + h) = nI (dg 8 6 (fun i => q.2.2.2.2.2 c (6 * h + i)))) ∧ cols = nI (q.1 - 1) ∧ told = nI q.2.2.1
/-- nothing stands behind what is told -/
def nx0 (q : RQ) : Prop := ∀ c l, c < 40 → l < 12 → (q.1 - 1 < c ∨ (c = q.1 - 1 ∧ q.2.2.1 ≤ l)) → q.2.2.2.2.2 c l = 0
theorem dg_or32 {d : Nat → Nat} {i c : Nat} (hd : ∀ i, i < 6 → d i < 8) (hi : i < 6) (hc : c < 8) (hz : d i = 0) : nI (dg 8 6 d) ||| (nI c <<< (nI (3 * i) &&& 31)) = nI (dg 8 6 (nu d i c)) := by
  have ec : ∀ j, j < 6 → (if j = i then c else 0) < 8 := fun j _ => by split <;> omega
  have b3 : dg 8 6 (fun j => if j = i then c else 0) < 8 ^ 6 := dg_lt ec
  have q2 : dg 8 6 (fun j => if j = i then c else 0) = c * 8 ^ i := dg_one hi
  rw [pk_andN (m := 31) (by omega) 5 (by decide), Nat.mod_eq_of_lt (by omega), pk_shlN _ (3 * i) (smod32 _ (by omega)) (by rw [l_p8]; omega), l_p8, ← q2, fa_or, dg8_or hd ec]
  refine congrArg nI (dg_congr fun j hj => ?_)
  show d j ||| (if j = i then c else 0) = nu d i c j
  by_cases e : j = i
  · rw [if_pos e, e, nu_s, hz, Nat.zero_or]
  · rw [if_neg e, nu_n e, Nat.or_zero]
theorem tM_takeColor {tl : Nat} {tx : Nat → Nat} {b_text : Nat → Int32} {i n : Nat} {q : RQ} {rdc : Nat → Int32} {cols told : Int32} {k : Int32 → (Nat → Int32) → Int32 → Prop} (hT : TO tl tx) (hX : TX tl tx b_text) (hi : i < tl) (hq : okR q) (hR : RM q rdc cols told) (hn0 : nx0 q) (hc : 48 ≤ tx i ∧ tx i ≤ 55) (hn : q.2.2.1 + n ≤ 12)
    (h : ∀ r', (∀ c h, c < 40 → h < 2 → r' (2 * c + h) = nI (dg 8 6 (fun j => colD q.2.2.2.2.2 q.1 q.2.2.1 n (tx i - 48) c (6 * h + j)))) → k (nI (i + 1)) r' (nI (q.2.2.1 + n))) : PX5_takeColor b_text (nI tl) (nI i) rdc cols told (nI n) k := by
  obtain ⟨⟨o1, o1'⟩, o2, o3, o4, o5, o6⟩ := hq
  obtain ⟨r1, r2, r3⟩ := hR
  have hl := hT.1
  subst r2 r3
  unfold PX5_takeColor
  refine lp3 (PX5_takeColor_L1 b_text (nI tl) (nI i) (nI (q.1 - 1)) (nI n) _) (fun v r t => ∃ s, s ≤ n ∧ v = nI s ∧ t = nI (q.2.2.1 + s) ∧ ∀ c h, c < 40 → h < 2 → r (2 * c + h) = nI (dg 8 6 (fun j => colD q.2.2.2.2.2 q.1 q.2.2.1 s (tx i - 48) c (6 * h + j)))) (fun v _ _ => n - v.toNatClampNeg) ?_ _ _ _ ⟨0, by omega, rfl, rfl, fun c h hc hh => ?_⟩
  · rintro f v r t ⟨s, hs, ev, et, hJ⟩ ih
    subst ev et
    unfold PX5_takeColor_L1
    refine ⟨fun c4 => ?_, fun c4 => ?_⟩ <;> rw [nI_leI (by omega) (by omega)] at c4
    · obtain rfl : s = n := by omega
      intro v ev
      rw [nI_1] at ev
      subst ev
      exact h r hJ
    · have ht : q.2.2.1 + s < 12 := by omega
      have e80 : ((2 : Int32) * nI (q.1 - 1)) + (nI (q.2.2.1 + s) / (6 : Int32)) = nI (2 * (q.1 - 1) + (q.2.2.1 + s) / 6) := by
        rw [show (6 : Int32) = nI 6 from rfl, pk_div (by omega) (by omega) (by omega), show (2 : Int32) = nI 2 from rfl, pk_mul, nI_add]
      have hin : vp_in (nI (2 * (q.1 - 1) + (q.2.2.1 + s) / 6)) 80 := vp_in_nI (by omega) (by decide)
      rw [e80, sh6 ht, nI_clamp (by omega), hJ (q.1 - 1) ((q.2.2.1 + s) / 6) (by omega) (by omega)]
      refine ⟨hin, tM_here hT hX (by omega) ⟨hin, fun r' er t' et v' ev => ?_⟩⟩
      have hh : hr tl tx i = tx i := by unfold hr; rw [if_pos hi]
      have hcd : ∀ c l, c < 40 → l < 12 → colD q.2.2.2.2.2 q.1 q.2.2.1 s (tx i - 48) c l < 8 := colD_ok o6 (by omega)
      rw [hh, show (48 : Int32) = nI 48 from rfl, pk_sub (by omega), dg_or32 (fun j hj => hcd _ _ (by omega) (by omega)) (Nat.mod_lt _ (by decide)) (by omega) ?_] at er
      · rw [nI_1] at et ev
        refine ih _ _ _ ⟨s + 1, by omega, ev, et, fun c h hc hh2 => ?_⟩ (by rw [ev, nI_clamp (by omega), nI_clamp (by omega)]; omega)
        rw [er]
        by_cases z : c = q.1 - 1 ∧ h = (q.2.2.1 + s) / 6
        · obtain ⟨z1, z2⟩ := z
          subst z1 z2
          rw [pk_us]
          refine congrArg nI (dg_congr fun j hj => ?_)
          by_cases y : j = (q.2.2.1 + s) % 6
          · rw [y, nu_s]
            unfold colD
            rw [if_pos ⟨rfl, by omega, by omega⟩]
          · rw [nu_n y]
            unfold colD
            by_cases w : q.2.2.1 ≤ 6 * ((q.2.2.1 + s) / 6) + j ∧ 6 * ((q.2.2.1 + s) / 6) + j < q.2.2.1 + s
            · rw [if_pos ⟨rfl, w⟩, if_pos ⟨rfl, by omega, by omega⟩]
            · rw [if_neg (fun u => w u.2), if_neg (fun u => w ⟨u.2.1, by omega⟩)]
        · rw [pk_un (by omega), hJ c h hc hh2]
          refine congrArg nI (dg_congr fun j hj => ?_)
          unfold colD
          by_cases w : c = q.1 - 1 ∧ q.2.2.1 ≤ 6 * h + j ∧ 6 * h + j < q.2.2.1 + s
          · rw [if_pos w, if_pos ⟨w.1, w.2.1, by omega⟩]
          · rw [if_neg w, if_neg (fun u => w ⟨u.1, u.2.1, by omega⟩)]
      · show colD q.2.2.2.2.2 q.1 q.2.2.1 s (tx i - 48) (q.1 - 1) (6 * ((q.2.2.1 + s) / 6) + (q.2.2.1 + s) % 6) = 0
        unfold colD
        rw [if_neg (fun u => by omega)]
        exact hn0 _ _ (by omega) (by omega) (Or.inr ⟨rfl, by omega⟩)
  · rw [r1 c h hc hh]
    refine congrArg nI (dg_congr fun j hj => ?_)
    unfold colD
    rw [if_neg (fun u => by omega)]
