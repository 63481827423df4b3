/-! digits: numbers as rows of digits -/
def dg (B : Nat) : Nat → (Nat → Nat) → Nat
  | 0, _ => 0
  | n + 1, d => d 0 + B * dg B n (fun l => d (l + 1))
theorem dg_congr {B : Nat} : ∀ {n : Nat} {d e : Nat → Nat}, (∀ l, l < n → d l = e l) → dg B n d = dg B n e
  | 0, _, _, _ => rfl
  | n + 1, d, e, h => by
    show d 0 + B * dg B n _ = e 0 + B * dg B n _
    rw [h 0 (by omega), dg_congr (n := n) (fun l hl => h (l + 1) (by omega))]
theorem dg_lt {B : Nat} : ∀ {n : Nat} {d : Nat → Nat}, (∀ l, l < n → d l < B) → dg B n d < B ^ n
  | 0, _, _ => by simp [dg]
  | n + 1, d, h => by
    have h1 := dg_lt (n := n) (d := fun l => d (l + 1)) (fun l hl => h (l + 1) (by omega))
    have h0 := h 0 (by omega)
    show d 0 + B * dg B n _ < B ^ (n + 1)
    rw [Nat.pow_succ, Nat.mul_comm (B ^ n) B]
    calc d 0 + B * dg B n (fun l => d (l + 1)) < B + B * dg B n (fun l => d (l + 1)) := by omega
      _ = B * (dg B n (fun l => d (l + 1)) + 1) := by rw [Nat.mul_add, Nat.mul_one, Nat.add_comm]
      _ ≤ B * B ^ n := Nat.mul_le_mul_left _ h1
theorem dg_digit {B : Nat} : ∀ {n : Nat} {d : Nat → Nat} {l : Nat}, (∀ l, l < n → d l < B) → l < n → dg B n d / B ^ l % B = d l
  | 0, _, _, _, hl => by omega
  | n + 1, d, 0, h, _ => by
    show (d 0 + B * dg B n _) / B ^ 0 % B = d 0
    rw [Nat.pow_zero, Nat.div_one, Nat.add_mul_mod_self_left, Nat.mod_eq_of_lt (h 0 (by omega))]
  | n + 1, d, l + 1, h, hl => by
    have h0 := h 0 (by omega)
    have hB : 0 < B := by omega
    show (d 0 + B * dg B n _) / B ^ (l + 1) % B = d (l + 1)
    rw [Nat.pow_succ, Nat.mul_comm (B ^ l) B, ← Nat.div_div_eq_div_mul, Nat.add_mul_div_left _ _ hB, Nat.div_eq_of_lt h0, Nat.zero_add]
    exact dg_digit (n := n) (d := fun l => d (l + 1)) (l := l) (fun l hl => h (l + 1) (by omega)) (by omega)
theorem dg_mul {B c : Nat} : ∀ {n : Nat} {d : Nat → Nat}, dg B n (fun l => c * d l) = c * dg B n d
  | 0, _ => by simp [dg]
  | n + 1, d => by
    show c * d 0 + B * dg B n (fun l => c * d (l + 1)) = c * (d 0 + B * dg B n (fun l => d (l + 1)))
    rw [dg_mul (n := n) (d := fun l => d (l + 1)), Nat.mul_add, Nat.mul_left_comm]
theorem dg_zero {B : Nat} : ∀ {n : Nat}, dg B n (fun _ => 0) = 0
  | 0 => rfl
  | n + 1 => by
    show 0 + B * dg B n (fun _ => 0) = 0
    rw [dg_zero (n := n)]
    simp
/-- the bits of a row of digits of k bits each -/
theorem dg_bit {k : Nat} (hk : 0 < k) : ∀ {n : Nat} {d : Nat → Nat} {i : Nat}, (∀ l, l < n → d l < 2 ^ k) → (dg (2 ^ k) n d).testBit i = if i < k * n then (d (i / k)).testBit (i % k) else false
  | 0, _, i, _ => by simp [dg]
  | n + 1, d, i, h => by
    show (d 0 + 2 ^ k * dg (2 ^ k) n _).testBit i = _
    rw [Nat.add_comm (d 0), Nat.testBit_two_pow_mul_add _ (h 0 (by omega))]
    by_cases hi : i < k
    · have hn : i < k * (n + 1) := Nat.lt_of_lt_of_le hi (Nat.le_mul_of_pos_right k (by omega))
      rw [if_pos hi, if_pos hn, Nat.div_eq_of_lt hi, Nat.mod_eq_of_lt hi]
    · rw [if_neg hi, dg_bit hk (n := n) (d := fun l => d (l + 1)) (fun l hl => h (l + 1) (by omega))]
      have e1 : i / k = (i - k) / k + 1 := by
        rw [← Nat.add_div_right _ hk]; congr 1; omega
      have e2 : i % k = (i - k) % k := by
        rw [← Nat.add_mod_right (i - k) k]; congr 1; omega
      have e3 : (i - k < k * n) ↔ i < k * (n + 1) := by rw [Nat.mul_add, Nat.mul_one]; omega
      by_cases hq : i - k < k * n
      · rw [if_pos hq, if_pos (e3.mp hq), e1, e2]
      · rw [if_neg hq, if_neg (fun z => hq (e3.mpr z))]
theorem dg8_bit {n : Nat} {d : Nat → Nat} (i : Nat) (h : ∀ l, l < n → d l < 8) : (dg 8 n d).testBit i = if i < 3 * n then (d (i / 3)).testBit (i % 3) else false := dg_bit (k := 3) (by decide) h
theorem dg2_bit {n : Nat} {d : Nat → Nat} (i : Nat) (h : ∀ l, l < n → d l < 2) : (dg 2 n d).testBit i = if i < n then (d i).testBit 0 else false := by
  have := dg_bit (k := 1) (by decide) (i := i) h
  rw [Nat.one_mul, Nat.div_one, Nat.mod_one] at this
  exact this
theorem dg8_or {n : Nat} {d e : Nat → Nat} (hd : ∀ l, l < n → d l < 8) (he : ∀ l, l < n → e l < 8) : dg 8 n d ||| dg 8 n e = dg 8 n (fun l => d l ||| e l) := by
  apply Nat.eq_of_testBit_eq
  intro i
  rw [Nat.testBit_or, dg8_bit i hd, dg8_bit i he, dg8_bit i (fun l hl => Nat.or_lt_two_pow (n := 3) (hd l hl) (he l hl))]
  split
  · rw [Nat.testBit_or]
  · rfl
theorem dg8_and {n : Nat} {d e : Nat → Nat} (hd : ∀ l, l < n → d l < 8) (he : ∀ l, l < n → e l < 8) : dg 8 n d &&& dg 8 n e = dg 8 n (fun l => d l &&& e l) := by
  apply Nat.eq_of_testBit_eq
  intro i
  rw [Nat.testBit_and, dg8_bit i hd, dg8_bit i he, dg8_bit i (fun l hl => Nat.lt_of_le_of_lt Nat.and_le_left (hd l hl))]
  split
  · rw [Nat.testBit_and]
  · rfl
theorem dg8_xor {n : Nat} {d e : Nat → Nat} (hd : ∀ l, l < n → d l < 8) (he : ∀ l, l < n → e l < 8) : dg 8 n d ^^^ dg 8 n e = dg 8 n (fun l => d l ^^^ e l) := by
  apply Nat.eq_of_testBit_eq
  intro i
  rw [Nat.testBit_xor, dg8_bit i hd, dg8_bit i he, dg8_bit i (fun l hl => Nat.xor_lt_two_pow (n := 3) (hd l hl) (he l hl))]
  split
  · rw [Nat.testBit_xor]
  · rfl
/-- one digit at place l -/
theorem dg_one {B : Nat} : ∀ {n l c : Nat}, l < n → dg B n (fun j => if j = l then c else 0) = c * B ^ l
  | 0, _, _, h => by omega
  | n + 1, 0, c, _ => by
    show (if 0 = 0 then c else 0) + B * dg B n (fun j => if j + 1 = 0 then c else 0) = c * B ^ 0
    rw [dg_congr (e := fun _ => 0) (fun l _ => by simp), dg_zero]
    simp
  | n + 1, l + 1, c, h => by
    show (if 0 = l + 1 then c else 0) + B * dg B n (fun j => if j + 1 = l + 1 then c else 0) = c * B ^ (l + 1)
    rw [dg_congr (e := fun j => if j = l then c else 0) (fun j _ => by simp), dg_one (by omega), Nat.pow_succ]
    simp [Nat.mul_comm, Nat.mul_left_comm]
/-- and with the complement: the digits that the mask keeps -/
theorem dg8_andn {n : Nat} {d e : Nat → Nat} {w : Nat} (hw : 3 * n ≤ w) (hd : ∀ l, l < n → d l < 8) (he : ∀ l, l < n → e l < 8) : dg 8 n d &&& (dg 8 n e ^^^ (2 ^ w - 1)) = dg 8 n (fun l => d l &&& (e l ^^^ 7)) := by
  apply Nat.eq_of_testBit_eq
  intro i
  rw [Nat.testBit_and, Nat.testBit_xor, dg8_bit i hd, dg8_bit i he, dg8_bit i (fun l hl => Nat.lt_of_le_of_lt Nat.and_le_left (hd l hl)), Nat.testBit_two_pow_sub_one]
  by_cases hi : i < 3 * n
  · rw [if_pos hi, if_pos hi, if_pos hi, Nat.testBit_and, Nat.testBit_xor]
    have h7 : (7 : Nat).testBit (i % 3) = true := by
      have : i % 3 < 3 := Nat.mod_lt _ (by decide)
      rcases (show i % 3 = 0 ∨ i % 3 = 1 ∨ i % 3 = 2 by omega) with e | e | e <;> rw [e] <;> decide
    rw [h7, decide_eq_true (show i < w by omega)]
  · rw [if_neg hi, if_neg hi]
    simp [hi]
