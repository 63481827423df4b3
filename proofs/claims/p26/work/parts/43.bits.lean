/-! one digit changed, in the reference's cells; working lights -/
theorem i_all1 : (-1 : Int32) = nI (2 ^ 32 - 1) := by decide +kernel
theorem dg_set32 {d : Nat → Nat} {i c : Nat} (hd : ∀ i, i < 6 → d i < 8) (hi : i < 6) (hc : c < 8) :
    ((nI (dg 8 6 d)) &&& (((7 : Int32) <<< (nI (3 * i) &&& 31)) ^^^ (-1 : Int32))) ||| (nI c <<< (nI (3 * i) &&& 31)) = nI (dg 8 6 (nu d i c)) := by
  have e7 : ∀ j, j < 6 → (if j = i then 7 else 0) < 8 := fun j _ => by split <;> omega
  have ec : ∀ j, j < 6 → (if j = i then c else 0) < 8 := fun j _ => by split <;> omega
  have hm : ∀ j, j < 6 → d j &&& ((if j = i then 7 else 0) ^^^ 7) < 8 := fun j hj => Nat.lt_of_le_of_lt Nat.and_le_left (hd j hj)
  have b2 : dg 8 6 (fun j => if j = i then 7 else 0) < 8 ^ 6 := dg_lt e7
  have b3 : dg 8 6 (fun j => if j = i then c else 0) < 8 ^ 6 := dg_lt ec
  have q1 : dg 8 6 (fun j => if j = i then 7 else 0) = 7 * 8 ^ i := dg_one hi
  have q2 : dg 8 6 (fun j => if j = i then c else 0) = c * 8 ^ i := dg_one hi
  rw [pk_andN (m := 31) (by omega) 5 (by decide), Nat.mod_eq_of_lt (by omega), show (7 : Int32) = nI 7 from rfl, pk_shlN _ (3 * i) (smod32 _ (by omega)) (by rw [l_p8]; omega), pk_shlN _ (3 * i) (smod32 _ (by omega)) (by rw [l_p8]; omega), l_p8, ← q1, ← q2, i_all1, nx_xor, fa_and, fa_or, dg8_andn (n := 6) (w := 32) (by decide) hd e7, dg8_or hm ec]
  refine congrArg nI (dg_congr fun j hj => ?_)
  show d j &&& ((if j = i then 7 else 0) ^^^ 7) ||| (if j = i then c else 0) = nu d i c j
  by_cases e : j = i
  · rw [if_pos e, if_pos e, e, nu_s]
    show d i &&& 0 ||| c = c
    simp
  · rw [if_neg e, if_neg e, nu_n e]
    show d j &&& 7 ||| 0 = d j
    rw [Nat.or_zero]
    exact (Nat.and_two_pow_sub_one_eq_mod (d j) 3).trans (Nat.mod_eq_of_lt (hd j hj))
theorem tb0 {b : Nat} (h : b < 2) : b.testBit 0 = decide (b = 1) := by
  rcases (show b = 0 ∨ b = 1 by omega) with rfl | rfl <;> rfl
theorem dg_set2 {d : Nat → Nat} {i c : Nat} (hd : ∀ i, i < 12 → d i < 2) (hi : i < 12) (hc : c < 2) :
    ((nI (dg 2 12 d)) &&& (((1 : Int32) <<< (nI i &&& 31)) ^^^ (-1 : Int32))) ||| (nI c <<< (nI i &&& 31)) = nI (dg 2 12 (nu d i c)) := by
  have e7 : ∀ j, j < 12 → (if j = i then 1 else 0) < 2 := fun j _ => by split <;> omega
  have ec : ∀ j, j < 12 → (if j = i then c else 0) < 2 := fun j _ => by split <;> omega
  have en : ∀ j, j < 12 → nu d i c j < 2 := fun j hj => by
    by_cases e : j = i
    · rw [e, nu_s]; exact hc
    · rw [nu_n e]; exact hd j hj
  have b2 : dg 2 12 (fun j => if j = i then 1 else 0) < 2 ^ 12 := dg_lt e7
  have b3 : dg 2 12 (fun j => if j = i then c else 0) < 2 ^ 12 := dg_lt ec
  have q1 : dg 2 12 (fun j => if j = i then 1 else 0) = 1 * 2 ^ i := dg_one hi
  have q2 : dg 2 12 (fun j => if j = i then c else 0) = c * 2 ^ i := dg_one hi
  rw [i_all1, pk_andN (m := 31) (by omega) 5 (by decide), Nat.mod_eq_of_lt (by omega), show (1 : Int32) = nI 1 from rfl, pk_shlN _ i (smod32 _ (by omega)) (by omega), pk_shlN _ i (smod32 _ (by omega)) (by omega), ← q1, ← q2, nx_xor, fa_and, fa_or]
  refine congrArg nI (Nat.eq_of_testBit_eq fun k => ?_)
  rw [Nat.testBit_or, Nat.testBit_and, Nat.testBit_xor, dg2_bit k hd, dg2_bit k e7, dg2_bit k ec, dg2_bit k en, Nat.testBit_two_pow_sub_one]
  by_cases hk : k < 12
  · rw [if_pos hk, if_pos hk, if_pos hk, if_pos hk, decide_eq_true (show k < 32 by omega)]
    by_cases e : k = i
    · rw [if_pos e, if_pos e, e, nu_s]
      simp
    · rw [if_neg e, if_neg e, nu_n e]
      simp
  · rw [if_neg hk, if_neg hk, if_neg hk, if_neg hk]
    simp
theorem tC_works {wk : Nat → Nat → Nat} {n_working : Nat → Int64} {a l : Nat} {k : Int32 → Prop} (hw : ∀ a, a < 2 → n_working a = lN (dg 8 12 (wk a))) (hb : ∀ a l, a < 2 → l < 12 → wk a l ≤ 1) (ha : a < 2) (hl : l < 12) (y : wk a l = 1 → k 1) (n : wk a l = 0 → k 0) : PX2_works n_working (nI a) (nI l) k := by
  unfold PX2_works
  have hd : ∀ l, l < 12 → wk a l < 8 := fun l hl => by have := hb a l ha hl; omega
  have hlt := l_lt hd
  have hdig := dg_digit (B := 8) (n := 12) (l := l) hd hl
  have hwl := hb a l ha hl
  have e1 : (((n_working (Int32.toNatClampNeg (nI a))) >>> (((nI l) * (3 : Int32)).toInt64 &&& 63))) &&& (1 : Int64) = lN (wk a l) := by
    rw [nI_clamp (by omega), hw a ha, l_sh l hl, pf_shr (l_smod (3 * l) (by omega)) (by omega), l_p8, show (1 : Int64) = lN 1 from rfl]
    have hq := Nat.div_le_self (dg 8 12 (wk a)) (8 ^ l)
    rw [wb_and (by omega) (by omega)]
    refine congrArg lN ?_
    rw [Nat.and_one_is_mod]
    omega
  refine ⟨vp_in_nI (by omega) (by decide), ?_, ?_⟩ <;> intro c <;> rw [e1, lg_cmp_eq, show (0 : Int64) = lN 0 from rfl, lN_eq (by omega) (by omega)] at c
  · exact n c
  · exact y (by omega)
