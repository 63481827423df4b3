theorem bc_sh (n k : Nat) (hn : n < 2 ^ 64) (hk : k < 64) {K : Int32} (hK : K = nI k) : ((lN n).toUInt64 >>> (K.toInt64.toUInt64 &&& Int64.toUInt64 63)).toInt64 = lN (n / 2 ^ k) := by
  subst hK
  exact wb_shr hn hk
theorem l_andM (n k : Nat) (hk : k ≤ 31) {M : Int32} (hm : M.toBitVec.toNat = 2 ^ k - 1) : (lN n).toInt32 &&& M = nI (n % 2 ^ k) := by
  rw [lN_i, show (nI n) = nI (n % 4294967296) from ?_, pk_andN (by omega) k hm, Nat.mod_mod_of_dvd _ (show 2 ^ k ∣ 4294967296 from Nat.pow_dvd_pow 2 (n := 32) (by omega))]
  apply Int32.toBitVec_inj.mp
  show BitVec.ofNat 32 n = BitVec.ofNat 32 (n % 4294967296)
  apply BitVec.eq_of_toNat_eq
  simp
theorem pJ13_bitCount {n : Nat} {k : Int32 → Prop} (hn : n < 68719476736) (h : k (nI (bcN n))) : PJ13_bitCount_95d88 (lN n) k := by
  unfold PJ13_bitCount_95d88
  intro v1 e1 v2 e2 v3 e3 v4 e4 v5 e5 v6 e6
  have m1 : n / 2 &&& 6148914691236517205 ≤ n / 2 := Nat.and_le_left
  have f1 : v1 = lN (n - (n / 2 &&& 6148914691236517205)) := by
    rw [e1, bc_sh n 1 (by omega) (by omega) (K := (1 : Int32)) rfl, show (6148914691236517205 : Int64) = lN 6148914691236517205 from l_lit _, wb_and (by omega) (by omega), Nat.pow_one, lN_sub (show n / 2 &&& 6148914691236517205 ≤ n by omega)]
  generalize ha : n - (n / 2 &&& 6148914691236517205) = a1 at f1
  have b1 : a1 < 68719476736 := by omega
  have m2 : a1 &&& 3689348814741910323 ≤ a1 := Nat.and_le_left
  have m3 : a1 / 4 &&& 3689348814741910323 ≤ a1 / 4 := Nat.and_le_left
  have f2 : v2 = lN ((a1 &&& 3689348814741910323) + (a1 / 4 &&& 3689348814741910323)) := by
    rw [e2, f1, bc_sh a1 2 (by omega) (by omega) (K := (2 : Int32)) rfl, show (3689348814741910323 : Int64) = lN 3689348814741910323 from l_lit _, wb_and (by omega) (by omega), wb_and (by omega) (by omega), lN_add]
  generalize hb : (a1 &&& 3689348814741910323) + (a1 / 4 &&& 3689348814741910323) = a2 at f2
  have b2 : a2 < 137438953472 := by omega
  have m4 : (a2 + a2 / 16) &&& 1085102592571150095 ≤ a2 + a2 / 16 := Nat.and_le_left
  have f3 : v3 = lN ((a2 + a2 / 16) &&& 1085102592571150095) := by
    rw [e3, f2, bc_sh a2 4 (by omega) (by omega) (K := (4 : Int32)) rfl, lN_add, show (1085102592571150095 : Int64) = lN 1085102592571150095 from l_lit _, wb_and (by omega) (by omega)]
  generalize hc : (a2 + a2 / 16) &&& 1085102592571150095 = a3 at f3
  have b3 : a3 < 274877906944 := by omega
  have f4 : v4 = lN (a3 + a3 / 256) := by rw [e4, f3, bc_sh a3 8 (by omega) (by omega) (K := (8 : Int32)) rfl, lN_add]
  generalize hd : a3 + a3 / 256 = a4 at f4
  have f5 : v5 = lN (a4 + a4 / 65536) := by rw [e5, f4, bc_sh a4 16 (by omega) (by omega) (K := (16 : Int32)) rfl, lN_add]
  generalize he : a4 + a4 / 65536 = a5 at f5
  have f6 : v6 = lN (a5 + a5 / 4294967296) := by rw [e6, f5, bc_sh a5 32 (by omega) (by omega) (K := (32 : Int32)) rfl, lN_add]
  rw [f6, l_andM _ 7 (by omega) (by decide)]
  have hz : bcN n = (a5 + a5 / 4294967296) % 2 ^ 7 := by
    unfold bcN
    simp only [ha, hb, hc, hd, he]
  rw [← hz]
  exact h
theorem pJ13_dk {d : Nat → Nat} {k : Int32 → Prop} (hd : ∀ l, l < 12 → d l ≤ 1) (h : k (nI (sm 12 d))) : PJ13_bitCount_95d88 (lN (dg 8 12 d)) k := by
  have h8 : ∀ l, l < 12 → d l < 8 := fun l hl => by have := hd l hl; omega
  refine pJ13_bitCount (l_lt h8) ?_
  rw [bc_nat hd]
  exact h
theorem xor_sgn (x : Int32) : 0 ≤ (x ^^^ (720 : Int32)) ↔ 0 ≤ x.toInt := by
  rw [Int32.le_iff_toInt_le]
  have h1 : (x ^^^ (720 : Int32)).toBitVec.msb = x.toBitVec.msb := by
    show (x.toBitVec ^^^ (720 : Int32).toBitVec).msb = _
    rw [BitVec.msb_xor, show (720 : Int32).toBitVec.msb = false from by decide, Bool.xor_false]
  rw [BitVec.msb_eq_toInt, BitVec.msb_eq_toInt] at h1
  have h2 := decide_eq_decide.mp h1
  show (0 : Int32).toInt ≤ (x ^^^ (720 : Int32)).toBitVec.toInt ↔ 0 ≤ x.toBitVec.toInt
  rw [show (0 : Int32).toInt = 0 from by decide]
  omega
theorem pJ9_floorMod {x : Int32} {z : Int} {k : Int32 → Prop} (hx : x.toInt = z) (h : k (nI (z % 720).toNat)) : PJ9_floorMod_7cf53 x (720 : Int32) k := by
  unfold PJ9_floorMod_7cf53
  refine ⟨by decide, fun v ev => ?_⟩
  have h720 : (720 : Int32).toInt = 720 := by decide
  have hv : v.toInt = z.tmod 720 := by rw [ev]; exact i_rem hx h720 (by decide)
  have e1 := Int.tmod_add_mul_tdiv z 720
  have key : (0 ≤ z → z.tmod 720 = z % 720) ∧ (z < 0 → (z.tmod 720 = 0 → z % 720 = 0) ∧ (z.tmod 720 ≠ 0 → z % 720 = z.tmod 720 + 720)) := by
    constructor
    · intro hz
      exact Int.tmod_eq_emod_of_nonneg hz
    · intro hz
      have h2 : z.tmod 720 ≤ 0 ∧ -720 < z.tmod 720 := by
        have h3 := Int.tmod_nonneg 720 (a := -z) (by omega)
        have h4 : (-z).tmod 720 < 720 := Int.tmod_lt_of_pos _ (by decide)
        rw [Int.neg_tmod] at h3 h4
        omega
      have e1' : z = z.tmod 720 + 720 * z.tdiv 720 := e1.symm
      constructor <;> intro h5 <;> omega
  refine ⟨fun c => ?_, fun c => ⟨fun c2 => ?_, fun c2 => ?_⟩⟩ <;> rw [xor_sgn, hx] at c
  · have : v = nI (z % 720).toNat := i_of (by rw [hv, key.1 c]; omega)
    rw [this]; exact h
  · have hz0 : z.tmod 720 = 0 := by rw [← hv, c2]; decide
    have : v = nI (z % 720).toNat := i_of (by rw [hv, hz0, (key.2 (by omega)).1 hz0]; decide)
    rw [this]; exact h
  · have hz0 : z.tmod 720 ≠ 0 := fun e => c2 (Int32.toInt_inj.mp (by rw [hv, e]; decide))
    have hk := (key.2 (by omega)).2 hz0
    have : v + 720 = nI (z % 720).toNat := i_of (by rw [i_add hv h720 (by omega) (by omega), ← hk]; omega)
    rw [this]; exact h
