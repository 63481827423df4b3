def spd (i : Nat) : Int := -60 + 10 * (i : Int)
def bR (S : AS) (n i : Nat) : Nat := Rn S n (zS S (spd i) n).2.2.2
def bm (S : AS) (n : Nat) : Nat → Int × Int
  | 0 => (-60, -1)
  | i + 1 => if (bR S n i : Int) ≤ (bm S n i).2 then bm S n i else (spd i, (bR S n i : Int))
theorem bR_le (S : AS) (n i : Nat) : bR S n i ≤ 8640 := by
  have := sg_le (b := 1) (n := 8640) (f := fun q => if litN (s_tck S + n) (gN S) (wiP S (zS S (spd i) n).2.2.2) (wcP S (zS S (spd i) n).2.2.2) q = wantS S (q / 12) (q % 12) then 1 else 0) (fun q _ => by split <;> omega)
  unfold bR Rn
  omega
theorem l_notd {d : Nat → Nat} : (9817068105 : Int64) &&& (lN (dg 8 12 (dk d)) ^^^ (-1 : Int64)) = lN (dg 8 12 (fun l => if d l = 0 then 1 else 0)) := by
  have h1 : ∀ l, l < 12 → (fun _ : Nat => 1) l < 8 := fun l _ => by show 1 < 8; omega
  have h2 : ∀ l, l < 12 → dk d l < 8 := fun l _ => dk_lt d l
  have b1 := l_lt h1
  have b2 := l_lt h2
  have b5 : dg 8 12 (dk d) ^^^ (2 ^ 64 - 1) < 2 ^ 64 := Nat.xor_lt_two_pow (n := 64) (by omega) (by decide)
  rw [l_ones, l_all1, l_xor, wb_and (by omega) b5, dg8_andn (n := 12) (w := 64) (by decide) h1 h2]
  refine congrArg lN (dg_congr fun l hl => ?_)
  show 1 &&& (dk d l ^^^ 7) = if d l = 0 then 1 else 0
  unfold dk
  by_cases z : d l = 0
  · rw [if_pos z, if_pos z]; rfl
  · rw [if_neg z, if_neg z]; rfl
