theorem repM_congr {S : AS} {m wr m' wr' : Nat → Int32} (hc : s_cnt S ≤ 4) (h1 : ∀ k, k < 348 → m' k = m k) (h2 : ∀ k, k < 8640 → wr' k = wr k) (h : repM S m wr) : repM S m' wr' := by
  obtain ⟨a1, a2, a3, a4, a5, a6, a7, ⟨a8, a9⟩, a10⟩ := h
  refine ⟨by rw [h1 _ (by decide)]; exact a1, by rw [h1 _ (by decide)]; exact a2, by rw [h1 _ (by decide)]; exact a3, by rw [h1 _ (by decide)]; exact a4, by rw [h1 _ (by decide)]; exact a5, by rw [h1 _ (by decide)]; exact a6, fun j hj => by rw [h1 _ (by omega)]; exact a7 j hj, ⟨fun a ha => by rw [h1 _ (by omega)]; exact a8 a ha, fun a l ha hl => by rw [h2 _ (by omega)]; exact a9 a l ha hl⟩, fun p hp => ?_⟩
  obtain ⟨b1, b2, b3, b4, b5⟩ := a10 p hp
  exact ⟨by rw [h1 _ (by omega)]; exact b1, by rw [h1 _ (by omega)]; exact b2, by rw [h1 _ (by omega)]; exact b3, by rw [h1 _ (by omega)]; exact b4, fun c h hc hh => by rw [h1 _ (by omega)]; exact b5 c h hc hh⟩
theorem wN_lt {T tck wi wc : Nat} (h1 : wi ≤ tck) (h2 : tck ≤ T) (hc : wc < 8) (hT : T ≤ 6000) : wN wi wc < 65536 := by
  unfold wN
  split <;> omega
theorem wr_small {T : Nat} {S : AS} {m wr : Nat → Int32} (hT : T ≤ 6000) (hS : okS T S) (h : repM S m wr) (k : Nat) (hk : k < 8640) : ∃ w, w < 65536 ∧ wr k = nI w := by
  obtain ⟨-, -, -, -, -, -, -, ⟨-, a9⟩, -⟩ := h
  obtain ⟨-, -, -, -, -, -, -, ⟨t1, -, t3, t4⟩⟩ := hS
  have e := a9 (k / 12) (k % 12) (by omega) (by omega)
  rw [show 12 * (k / 12) + k % 12 = k by omega] at e
  exact ⟨_, wN_lt (t4 _ _ (by omega) (by omega)) t1 (t3 _ _ (by omega) (by omega)) hT, e⟩
theorem pack_lo {a b : Nat} (ha : a < 65536) (hb : b < 65536) : (nI a ||| (nI b <<< ((16 : Int32) &&& 31))) &&& (65535 : Int32) = nI a ∧ (((nI a ||| (nI b <<< ((16 : Int32) &&& 31))).toUInt32 >>> ((16 : Int32).toUInt32 &&& Int32.toUInt32 31)).toInt32) = nI b := by
  have e1 : nI b <<< ((16 : Int32) &&& 31) = nI (b * 2 ^ 16) := pk_shlN _ 16 (by decide) (by omega)
  have e2 : nI a ||| nI (b * 2 ^ 16) = nI (2 ^ 16 * b + a) := by
    rw [Int32.or_comm, Nat.mul_comm b]
    exact fa_or_sum b ha
  rw [e1, e2, pk_andN (by omega) 16 (by decide), pk_ushrN (by omega) _ 16 (by decide)]
  refine ⟨by congr 1; omega, by congr 1; omega⟩
