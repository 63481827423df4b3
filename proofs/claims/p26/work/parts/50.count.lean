def gN (S : AS) : Nat := (s_stg S 3).toNat
theorem gN_C {S : AS} {n_settings : Nat → Int32} (hG : okG (s_stg S)) (h : rcG (s_stg S) n_settings) : n_settings 3 = nI (gN S) := by
  have := hG.2.2.2
  exact i_of (by rw [h 3 (by omega)]; unfold gN; omega)
theorem gN_M {S : AS} {m : Nat → Int32} (hG : okG (s_stg S)) (h : ∀ j, j < 4 → (m j).toInt = s_stg S j) : m 3 = nI (gN S) := by
  have := hG.2.2.2
  exact i_of (by rw [h 3 (by omega)]; unfold gN; omega)
theorem gN_lt {S : AS} (hG : okG (s_stg S)) : 1 ≤ gN S ∧ gN S ≤ 99 := by
  have := hG.2.2.2
  unfold gN
  omega
/-- the lit colors of an angle -/
def litS (S : AS) (x a l : Nat) : Nat := gl (s_tck S + x) (gN S) (s_wi S a l) (s_wc S a l)
theorem litS_lt {T : Nat} {S : AS} {x a l : Nat} (hS : okS T S) (ha : a < 720) (hl : l < 12) : litS S x a l < 8 := by
  obtain ⟨-, -, -, -, -, -, -, ⟨-, -, h, -⟩⟩ := hS
  exact gl_lt (h a l ha hl)
theorem tC_lit {T : Nat} {S : AS} {x a : Nat} {n_pictureCount n_angle n_speed n_ticks n_load n_secondArm : Int32} {n_settings : Nat → Int32} {n_working n_written : Nat → Int64} {n_writtenIn n_width n_first n_step n_kind : Nat → Int32} {n_columns : Nat → Nat → Int64} {k : Int64 → Prop} (hT : T < 10000) (hS : okS T S) (hC : repC S n_pictureCount n_angle n_speed n_ticks n_load n_secondArm n_settings n_working n_written n_writtenIn n_width n_first n_step n_kind n_columns) (hx : x < 1000) (ha : a < 720) (h : k (lN (dg 8 12 (litS S x a)))) : PX2_litAt n_ticks n_settings n_written n_writtenIn (nI a) (nI x) k := by
  obtain ⟨-, -, -, c4, -, -, cG, cW, -⟩ := hC
  obtain ⟨-, -, -, -, -, kG, -, ⟨k1, -, k3, k4⟩⟩ := hS
  rw [c4]
  have hg := gN_lt kG
  exact tC_litAt cW k3 (fun a l ha hl => by have := k4 a l ha hl; omega) (by omega) (by omega) (by omega) (gN_C kG cG) ha h
theorem pl12m (a l : Nat) : (((12 : Int32) * nI a) + nI l) = nI (12 * a + l) := by
  rw [show (12 : Int32) = nI 12 from rfl, pk_mul, nI_add]
