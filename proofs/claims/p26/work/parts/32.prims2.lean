theorem l_shl (c l : Nat) (hl : l < 12) : lN c <<< (((nI l) * (3 : Int32)).toInt64 &&& 63) = lN (c * 8 ^ l) := by
  rw [l_sh l hl]
  have h := wb_shl c (k := 3 * l) (by omega)
  rw [wb_c (3 * l) (by omega)] at h
  rw [h, l_p8]
theorem l_lit (n : Nat) : (OfNat.ofNat n : Int64) = lN n := fa_litL n
theorem l_all1 : (-1 : Int64) = lN (2 ^ 64 - 1) := by decide +kernel
theorem l_xor (a b : Nat) : lN a ^^^ lN b = lN (a ^^^ b) := lN_xor a b
theorem l_dgc {d : Nat → Nat} {l c : Nat} (hd : ∀ l, l < 12 → d l < 8) (hl : l < 12) (hc : c < 8) :
    (lN (dg 8 12 d) &&& (lN (7 * 8 ^ l) ^^^ (-1 : Int64))) ||| lN (c * 8 ^ l) = lN (dg 8 12 (fun j => if j = l then c else d j)) := by
  have e7 : ∀ j, j < 12 → (if j = l then 7 else 0) < 8 := fun j _ => by split <;> omega
  have ec : ∀ j, j < 12 → (if j = l then c else 0) < 8 := fun j _ => by split <;> omega
  have hm : ∀ j, j < 12 → d j &&& ((if j = l then 7 else 0) ^^^ 7) < 8 := fun j hj => Nat.lt_of_le_of_lt Nat.and_le_left (hd j hj)
  have b1 := l_lt hd
  have b2 := l_lt e7
  have b3 := l_lt ec
  have b4 := l_lt hm
  have q1 : lN (7 * 8 ^ l) = lN (dg 8 12 (fun j => if j = l then 7 else 0)) := congrArg lN (dg_one (B := 8) hl).symm
  have q2 : lN (c * 8 ^ l) = lN (dg 8 12 (fun j => if j = l then c else 0)) := congrArg lN (dg_one (B := 8) hl).symm
  have b5 : dg 8 12 (fun j => if j = l then 7 else 0) ^^^ (2 ^ 64 - 1) < 2 ^ 64 := Nat.xor_lt_two_pow (n := 64) (by omega) (by decide)
  have q3 := dg8_andn (n := 12) (w := 64) (by decide) hd e7
  have q4 := dg8_or hm ec
  rw [q1, q2, l_all1, l_xor, wb_and (Nat.lt_trans b1 (by decide)) b5, q3, wb_or (Nat.lt_trans b4 (by decide)) (Nat.lt_trans b3 (by decide)), q4]
  refine congrArg lN (dg_congr fun j hj => ?_)
  show d j &&& ((if j = l then 7 else 0) ^^^ 7) ||| (if j = l then c else 0) = if j = l then c else d j
  by_cases e : j = l
  · rw [if_pos e, if_pos e, if_pos e]
    show d j &&& 0 ||| c = c
    simp
  · rw [if_neg e, if_neg e, if_neg e]
    show d j &&& 7 ||| 0 = d j
    rw [Nat.or_zero]
    exact (Nat.and_two_pow_sub_one_eq_mod (d j) 3).trans (Nat.mod_eq_of_lt (hd j hj))
theorem pX4_withColor {d : Nat → Nat} {l c : Nat} {k : Int64 → Prop} (hd : ∀ l, l < 12 → d l < 8) (hl : l < 12) (hc : c < 8) (h : k (lN (dg 8 12 (fun j => if j = l then c else d j)))) : PX4_withColor (lN (dg 8 12 d)) (nI l) (nI c) k := by
  unfold PX4_withColor
  intro v ev
  subst ev
  rw [show (7 : Int64) = lN 7 from l_lit 7, l_shl 7 l hl, nI_l (show c < 2 ^ 31 by omega), l_shl c l hl, l_dgc hd hl hc]
  exact h
def dk (d : Nat → Nat) (j : Nat) : Nat := if d j = 0 then 0 else 1
theorem dk_lt (d : Nat → Nat) (j : Nat) : dk d j < 8 := by unfold dk; split <;> omega
theorem dk_le (d : Nat → Nat) (j : Nat) : dk d j ≤ 1 := by unfold dk; split <;> omega
theorem l_ones : (9817068105 : Int64) = lN (dg 8 12 (fun _ => 1)) := by decide +kernel
theorem nz8 : ∀ n, n < 8 → ((n.testBit 0 || n.testBit 1 || n.testBit 2) = decide (n ≠ 0)) := by decide +kernel
theorem b8 : ∀ n, n < 8 → ∀ i, 3 ≤ i → n.testBit i = false := fun n hn i hi => Nat.testBit_lt_two_pow (Nat.lt_of_lt_of_le hn (Nat.pow_le_pow_right (by decide) hi : 2 ^ 3 ≤ 2 ^ i))
theorem nd_nat {d : Nat → Nat} (hd : ∀ l, l < 12 → d l < 8) : ((dg 8 12 d ||| dg 8 12 d / 2) ||| dg 8 12 d / 4) &&& dg 8 12 (fun _ => 1) = dg 8 12 (dk d) := by
  apply Nat.eq_of_testBit_eq
  intro i
  have h2 : (dg 8 12 d / 2).testBit i = (dg 8 12 d).testBit (i + 1) := by rw [show (2 : Nat) = 2 ^ 1 from rfl, Nat.testBit_div_two_pow]
  have h4 : (dg 8 12 d / 4).testBit i = (dg 8 12 d).testBit (i + 2) := by rw [show (4 : Nat) = 2 ^ 2 from rfl, Nat.testBit_div_two_pow]
  rw [Nat.testBit_and, Nat.testBit_or, Nat.testBit_or, h2, h4, dg8_bit i hd, dg8_bit (i + 1) hd, dg8_bit (i + 2) hd, dg8_bit i (fun l _ => dk_lt d l), dg8_bit i (fun l _ => by omega)]
  by_cases hi : i < 3 * 12
  · rw [if_pos hi, if_pos hi, if_pos hi]
    have hj : i / 3 < 12 := by omega
    have hdj := hd _ hj
    rcases (show i % 3 = 0 ∨ i % 3 = 1 ∨ i % 3 = 2 by omega) with e | e | e
    · have e1 : (i + 1) / 3 = i / 3 ∧ (i + 1) % 3 = 1 := by omega
      have e2 : (i + 2) / 3 = i / 3 ∧ (i + 2) % 3 = 2 := by omega
      rw [if_pos (by omega), if_pos (by omega), e, e1.1, e1.2, e2.1, e2.2, nz8 _ hdj]
      unfold dk
      by_cases z : d (i / 3) = 0
      · simp [z]
      · simp [z]
    · have hz : ∀ n, n < 2 → n.testBit (i % 3) = false := fun n hn => by rw [e]; exact Nat.testBit_lt_two_pow (by omega)
      rw [hz 1 (by omega), hz (dk d (i / 3)) (by have := dk_le d (i / 3); omega), Bool.and_false]
    · have hz : ∀ n, n < 2 → n.testBit (i % 3) = false := fun n hn => by rw [e]; exact Nat.testBit_lt_two_pow (by omega)
      rw [hz 1 (by omega), hz (dk d (i / 3)) (by have := dk_le d (i / 3); omega), Bool.and_false]
  · rw [if_neg hi, if_neg hi, if_neg hi, Bool.and_false]
theorem pX4_notDark {d : Nat → Nat} {k : Int64 → Prop} (hd : ∀ l, l < 12 → d l < 8) (h : k (lN (dg 8 12 (dk d)))) : PX4_notDark (lN (dg 8 12 d)) k := by
  unfold PX4_notDark
  have hb := l_lt hd
  have h1 : lN (dg 8 12 d) >>> ((1 : Int32).toInt64 &&& 63) = lN (dg 8 12 d / 2) := pf_shr (d := 1) (by decide) (by omega)
  have h2 : lN (dg 8 12 d) >>> ((2 : Int32).toInt64 &&& 63) = lN (dg 8 12 d / 4) := pf_shr (d := 2) (by decide) (by omega)
  have b2 : dg 8 12 d ||| dg 8 12 d / 2 < 2 ^ 64 := Nat.or_lt_two_pow (by omega) (by omega)
  have b3 : dg 8 12 d ||| dg 8 12 d / 2 ||| dg 8 12 d / 4 < 2 ^ 64 := Nat.or_lt_two_pow b2 (by omega)
  have b4 : dg 8 12 (fun _ => 1) < 2 ^ 64 := by decide +kernel
  rw [h1, h2, l_ones, wb_or (by omega) (by omega), wb_or b2 (by omega), wb_and b3 b4, nd_nat hd]
  exact h
/-! how many bits -/
def sm : Nat → (Nat → Nat) → Nat
  | 0, _ => 0
  | n + 1, d => d 0 + sm n (fun l => d (l + 1))
theorem sm_congr : ∀ {n : Nat} {d e : Nat → Nat}, (∀ l, l < n → d l = e l) → sm n d = sm n e
  | 0, _, _, _ => rfl
  | n + 1, d, e, h => by
    show d 0 + sm n _ = e 0 + sm n _
    rw [h 0 (by omega), sm_congr (n := n) (fun l hl => h (l + 1) (by omega))]
theorem sm_le {b : Nat} : ∀ {n : Nat} {d : Nat → Nat}, (∀ l, l < n → d l ≤ b) → sm n d ≤ n * b
  | 0, _, _ => by simp [sm]
  | n + 1, d, h => by
    have h1 := sm_le (n := n) (d := fun l => d (l + 1)) (fun l hl => h (l + 1) (by omega))
    have h0 := h 0 (by omega)
    show d 0 + sm n _ ≤ (n + 1) * b
    rw [Nat.succ_mul]
    omega
def bcN (n : Nat) : Nat :=
  let v1 := n - (n / 2 &&& 6148914691236517205)
  let v2 := (v1 &&& 3689348814741910323) + (v1 / 4 &&& 3689348814741910323)
  let v3 := (v2 + v2 / 16) &&& 1085102592571150095
  let v4 := v3 + v3 / 256
  let v5 := v4 + v4 / 65536
  let v6 := v5 + v5 / 4294967296
  v6 % 128
theorem bc_all : (List.range 4096).all (fun c => decide (bcN (dg 8 12 (fun l => c / 2 ^ l % 2)) = sm 12 (fun l => c / 2 ^ l % 2))) = true := by decide +kernel
theorem bc_nat {d : Nat → Nat} (hd : ∀ l, l < 12 → d l ≤ 1) : bcN (dg 8 12 d) = sm 12 d := by
  have h2 : ∀ l, l < 12 → d l < 2 := fun l hl => by have := hd l hl; omega
  have hc : dg 2 12 d < 4096 := dg_lt (B := 2) (n := 12) h2
  have h := List.all_eq_true.mp bc_all (dg 2 12 d) (List.mem_range.mpr hc)
  rw [decide_eq_true_eq] at h
  have e : ∀ l, l < 12 → dg 2 12 d / 2 ^ l % 2 = d l := fun l hl => dg_digit h2 hl
  rw [dg_congr (e := d) e, sm_congr (e := d) e] at h
  exact h
