theorem l_orW {d : Nat → Nat} {l : Nat} (hd : ∀ l, l < 12 → d l ≤ 1) (hl : l < 12) : lN (dg 8 12 d) ||| lN (8 ^ l) = lN (dg 8 12 (nu d l 1)) := by
  have hd8 : ∀ l, l < 12 → d l < 8 := fun l hl => by have := hd l hl; omega
  have e7 : ∀ j, j < 12 → (if j = l then 1 else 0) < 8 := fun j _ => by split <;> omega
  have q1 : dg 8 12 (fun j => if j = l then 1 else 0) = 1 * 8 ^ l := dg_one hl
  have b1 := l_lt hd8
  have b2 := l_lt e7
  rw [show 8 ^ l = 1 * 8 ^ l by omega, ← q1, wb_or (by omega) (by omega), dg8_or hd8 e7]
  refine congrArg lN (dg_congr fun j hj => ?_)
  have hdj := hd j hj
  show d j ||| (if j = l then 1 else 0) = nu d l 1 j
  by_cases e : j = l
  · rw [if_pos e, e, nu_s]
    rw [e] at hdj
    rcases (show d l = 0 ∨ d l = 1 by omega) with z | z <;> rw [z] <;> rfl
  · rw [if_neg e, nu_n e, Nat.or_zero]
theorem l_andW {d : Nat → Nat} {l : Nat} (hd : ∀ l, l < 12 → d l ≤ 1) (hl : l < 12) : lN (dg 8 12 d) &&& (lN (8 ^ l) ^^^ (-1 : Int64)) = lN (dg 8 12 (nu d l 0)) := by
  have hd8 : ∀ l, l < 12 → d l < 8 := fun l hl => by have := hd l hl; omega
  have e7 : ∀ j, j < 12 → (if j = l then 1 else 0) < 8 := fun j _ => by split <;> omega
  have q1 : dg 8 12 (fun j => if j = l then 1 else 0) = 1 * 8 ^ l := dg_one hl
  have b1 := l_lt hd8
  have b2 := l_lt e7
  have b5 : dg 8 12 (fun j => if j = l then 1 else 0) ^^^ (2 ^ 64 - 1) < 2 ^ 64 := Nat.xor_lt_two_pow (n := 64) (by omega) (by decide)
  rw [show 8 ^ l = 1 * 8 ^ l by omega, ← q1, l_all1, l_xor, wb_and (by omega) b5, dg8_andn (n := 12) (w := 64) (by decide) hd8 e7]
  refine congrArg lN (dg_congr fun j hj => ?_)
  have hdj := hd j hj
  show d j &&& ((if j = l then 1 else 0) ^^^ 7) = nu d l 0 j
  by_cases e : j = l
  · rw [if_pos e, e, nu_s]
    rw [e] at hdj
    rcases (show d l = 0 ∨ d l = 1 by omega) with z | z <;> rw [z] <;> rfl
  · rw [if_neg e, nu_n e]
    rcases (show d j = 0 ∨ d j = 1 by omega) with z | z <;> rw [z] <;> rfl
