/-! the two machines' integers -/
theorem i_bm {z : Int} (h1 : -2147483648 ≤ z) (h2 : z < 2147483648) : z.bmod (2 ^ 32) = z := Int.bmod_eq_of_le (by omega) (by omega)
theorem i_add {x y : Int32} {a b : Int} (hx : x.toInt = a) (hy : y.toInt = b) (h1 : -2147483648 ≤ a + b) (h2 : a + b < 2147483648) : (x + y).toInt = a + b := by
  rw [Int32.toInt_add, hx, hy, i_bm h1 h2]
theorem i_sub {x y : Int32} {a b : Int} (hx : x.toInt = a) (hy : y.toInt = b) (h1 : -2147483648 ≤ a - b) (h2 : a - b < 2147483648) : (x - y).toInt = a - b := by
  rw [Int32.toInt_sub, hx, hy, i_bm h1 h2]
theorem i_mul {x y : Int32} {a b : Int} (hx : x.toInt = a) (hy : y.toInt = b) (h1 : -2147483648 ≤ a * b) (h2 : a * b < 2147483648) : (x * y).toInt = a * b := by
  rw [Int32.toInt_mul, hx, hy, i_bm h1 h2]
theorem i_neg {x : Int32} {a : Int} (hx : x.toInt = a) (h1 : -2147483648 < a) (h2 : a < 2147483648) : (-x).toInt = -a := by
  rw [Int32.toInt_neg, hx, i_bm (by omega) (by omega)]
theorem i_lt {x y : Int32} {a b : Int} (hx : x.toInt = a) (hy : y.toInt = b) : x < y ↔ a < b := by rw [Int32.lt_iff_toInt_lt, hx, hy]
theorem i_le {x y : Int32} {a b : Int} (hx : x.toInt = a) (hy : y.toInt = b) : x ≤ y ↔ a ≤ b := by rw [Int32.le_iff_toInt_le, hx, hy]
theorem i_eq {x y : Int32} {a b : Int} (hx : x.toInt = a) (hy : y.toInt = b) : x = y ↔ a = b := by rw [← Int32.toInt_inj, hx, hy]
theorem i_rem {x y : Int32} {a b : Int} (hx : x.toInt = a) (hy : y.toInt = b) (hb : 0 < b) : (x - x / y * y).toInt = a.tmod b := by
  have hy1 : y ≠ -1 := fun e => by rw [e] at hy; have : (-1 : Int32).toInt = -1 := by decide
                                   omega
  have hd : (x / y).toInt = a.tdiv b := by rw [Int32.toInt_div_of_ne_right _ _ hy1, hx, hy]
  have ha1 := Int32.le_toInt x
  have ha2 := Int32.toInt_lt x
  rw [hx] at ha1 ha2
  have e := Int.tmod_add_mul_tdiv a b
  have m1 : a.tmod b < b ∧ -b < a.tmod b := ⟨Int.tmod_lt_of_pos _ hb, by
    rcases Int.le_total 0 a with h | h
    · have := Int.tmod_nonneg b h; omega
    · have h2 := Int.tmod_nonneg b (a := -a) (by omega)
      have h3 : (-a).tmod b < b := Int.tmod_lt_of_pos _ hb
      rw [Int.neg_tmod] at h2 h3
      omega⟩
  have hb2 := Int32.toInt_lt y
  rw [hy] at hb2
  have hsgn : (0 ≤ a → 0 ≤ a.tmod b ∧ a.tmod b ≤ a) ∧ (a ≤ 0 → a.tmod b ≤ 0 ∧ a ≤ a.tmod b) := by
    constructor
    · intro h
      refine ⟨Int.tmod_nonneg b h, ?_⟩
      have h4 : 0 ≤ b * a.tdiv b := Int.mul_nonneg (by omega) (Int.tdiv_nonneg h (by omega))
      omega
    · intro h
      have h2 := Int.tmod_nonneg b (a := -a) (by omega)
      have h4 : 0 ≤ b * (-a).tdiv b := Int.mul_nonneg (by omega) (Int.tdiv_nonneg (by omega) (by omega))
      rw [Int.neg_tmod] at h2
      rw [Int.neg_tdiv, Int.mul_neg] at h4
      omega
  have hbd : -2147483648 ≤ b * a.tdiv b ∧ b * a.tdiv b < 2147483648 := by
    rcases Int.le_total 0 a with h | h
    · have := hsgn.1 h; omega
    · have := hsgn.2 h; omega
  have hm : (x / y * y).toInt = b * a.tdiv b := by
    rw [Int.mul_comm]
    exact i_mul hd hy (by rw [Int.mul_comm]; omega) (by rw [Int.mul_comm]; omega)
  rw [i_sub hx hm (by omega) (by omega)]
  omega
theorem i_nI {n : Nat} (h : n < 2 ^ 31) : (nI n).toInt = (n : Int) := nI_toInt h
theorem i_of {x : Int32} {n : Nat} (h : x.toInt = (n : Int)) : x = nI n := by
  have h2 := Int32.toInt_lt x
  apply Int32.toInt_inj.mp
  rw [nI_toInt (by omega), h]
/-! leaf methods -/
theorem pX4_within {v lo hi : Int32} {a b : Int} {k : Int32 → Prop} (hlo : lo.toInt = a) (hhi : hi.toInt = b) (h1 : a ≤ v.toInt → v.toInt ≤ b → k 1) (h0 : ¬ (a ≤ v.toInt ∧ v.toInt ≤ b) → k 0) : PX4_within v lo hi k := by
  unfold PX4_within
  refine ⟨fun c => h0 ?_, fun c => ⟨fun c2 => h0 ?_, fun c2 => h1 ?_ ?_⟩⟩ <;> rw [Int32.lt_iff_toInt_lt, hlo] at c
  · omega
  · rw [Int32.lt_iff_toInt_lt, hhi] at c2
    omega
  · omega
  · rw [Int32.lt_iff_toInt_lt, hhi] at c2
    omega
/-- a number of 36 bits as a long -/
theorem l_lt {d : Nat → Nat} (h : ∀ l, l < 12 → d l < 8) : dg 8 12 d < 68719476736 := dg_lt (B := 8) (n := 12) h
theorem l_sh (l : Nat) (h : l < 12) : (((nI l) * (3 : Int32)).toInt64 &&& 63) = lN (3 * l) := by
  have e : (nI l) * (3 : Int32) = nI (3 * l) := by
    show nI l * nI 3 = _
    rw [pk_mul, Nat.mul_comm]
  rw [e]
  exact wb_c (3 * l) (by omega)
theorem l_smod : ∀ k, k < 64 → ((lN k).toBitVec.smod 64).toNat = k := by decide +kernel
theorem l_p8 (l : Nat) : 2 ^ (3 * l) = 8 ^ l := by rw [Nat.pow_mul]
theorem l_and7 (n : Nat) : (lN n).toInt32 &&& (7 : Int32) = nI (n % 8) := by
  rw [lN_i, show (nI n) = nI (n % 4294967296) from ?_, pk_andN (by omega) 3 (by decide)]
  · rw [show (2 : Nat) ^ 3 = 8 from rfl, Nat.mod_mod_of_dvd _ (by decide)]
  · apply Int32.toBitVec_inj.mp
    show BitVec.ofNat 32 n = BitVec.ofNat 32 (n % 4294967296)
    apply BitVec.eq_of_toNat_eq
    simp
theorem pX4_colorIn {d : Nat → Nat} {l : Nat} {k : Int32 → Prop} (hd : ∀ l, l < 12 → d l < 8) (hl : l < 12) (h : k (nI (d l))) : PX4_colorIn (lN (dg 8 12 d)) (nI l) k := by
  unfold PX4_colorIn
  have hb := l_lt hd
  rw [l_sh l hl, pf_shr (l_smod (3 * l) (by omega)) (by omega), l_p8, l_and7, dg_digit hd hl]
  exact h
