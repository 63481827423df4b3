/-! what the class takes over from a sweep -/
def wrow (j : Nat) (w c d : Nat → Nat) (l : Nat) : Nat := if j ≠ 0 ∧ w l = 1 then c l else d l
def irow (t j : Nat) (w e : Nat → Nat) (l : Nat) : Nat := if j ≠ 0 ∧ w l = 1 then max (e l) (t + j) else e l
theorem l_mask {w c d : Nat → Nat} (hw : ∀ l, l < 12 → w l ≤ 1) (hc : ∀ l, l < 12 → c l < 8) (hd : ∀ l, l < 12 → d l < 8) : (lN (dg 8 12 d) &&& ((lN (dg 8 12 w) * (7 : Int64)) ^^^ (-1 : Int64))) ||| (lN (dg 8 12 c) &&& (lN (dg 8 12 w) * (7 : Int64))) = lN (dg 8 12 (fun l => if w l = 1 then c l else d l)) := by
  have e7 : ∀ l, l < 12 → 7 * w l < 8 := fun l hl => by have := hw l hl; omega
  have hm : ∀ l, l < 12 → d l &&& ((7 * w l) ^^^ 7) < 8 := fun l hl => Nat.lt_of_le_of_lt Nat.and_le_left (hd l hl)
  have hm2 : ∀ l, l < 12 → c l &&& (7 * w l) < 8 := fun l hl => Nat.lt_of_le_of_lt Nat.and_le_left (hc l hl)
  have q : lN (dg 8 12 w) * (7 : Int64) = lN (dg 8 12 (fun l => 7 * w l)) := by
    rw [show (7 : Int64) = lN 7 from l_lit 7, lN_mul, dg_mul, Nat.mul_comm]
  have b1 := l_lt hd
  have b2 := l_lt e7
  have b5 : dg 8 12 (fun l => 7 * w l) ^^^ (2 ^ 64 - 1) < 2 ^ 64 := Nat.xor_lt_two_pow (n := 64) (by omega) (by decide)
  rw [q, l_and hc e7, l_all1, l_xor, wb_and (by omega) b5, dg8_andn (n := 12) (w := 64) (by decide) hd e7, l_or hm hm2]
  refine congrArg lN (dg_congr fun l hl => ?_)
  have h1 := hw l hl
  have m7 : ∀ x, x < 8 → x &&& 7 = x := fun x hx => (Nat.and_two_pow_sub_one_eq_mod x 3).trans (Nat.mod_eq_of_lt hx)
  show d l &&& ((7 * w l) ^^^ 7) ||| (c l &&& (7 * w l)) = if w l = 1 then c l else d l
  rcases (show w l = 0 ∨ w l = 1 by omega) with z | z <;> rw [z]
  · rw [if_neg (by decide)]
    show d l &&& 7 ||| (c l &&& 0) = d l
    rw [m7 _ (hd l hl), Nat.and_zero, Nat.or_zero]
  · rw [if_pos rfl]
    show d l &&& 0 ||| (c l &&& 7) = c l
    rw [m7 _ (hc l hl), Nat.and_zero, Nat.zero_or]
theorem tC_writeArm {wk : Nat → Nat → Nat} {n_working n_written : Nat → Int64} {n_writtenIn : Nat → Int32} {b a t j : Nat} {c d e : Nat → Nat} {k : (Nat → Int64) → (Nat → Int32) → Prop} (hw : ∀ a, a < 2 → n_working a = lN (dg 8 12 (wk a))) (hb : ∀ a l, a < 2 → l < 12 → wk a l ≤ 1) (hb2 : b < 2) (ha : a < 720) (ht : t < 10000) (hj : j < 10000) (hc : ∀ l, l < 12 → c l < 8) (hd : ∀ l, l < 12 → d l < 8) (he : ∀ l, l < 12 → e l < 20000) (h1 : n_written a = lN (dg 8 12 d)) (h2 : ∀ l, l < 12 → n_writtenIn (12 * a + l) = nI (e l))
    (h : ∀ w' i', w' a = lN (dg 8 12 (wrow j (wk b) c d)) → (∀ q, q ≠ a → w' q = n_written q) → (∀ l, l < 12 → i' (12 * a + l) = nI (irow t j (wk b) e l)) → (∀ q, q < 12 * a ∨ 12 * a + 12 ≤ q → i' q = n_writtenIn q) → k w' i') : PX2_writeArm (nI t) n_working n_written n_writtenIn (nI b) (nI a) (lN (dg 8 12 c)) (nI j) k := by
  unfold PX2_writeArm
  have hz : nI j = 0 ↔ j = 0 := nI_eq (b := 0) (by omega) (by omega)
  refine ⟨fun cz => ?_, fun cz => ?_⟩ <;> rw [hz] at cz
  · have hin : vp_in (nI a) 720 := vp_in_nI ha (by decide)
    refine ⟨vp_in_nI hb2 (by decide), fun v ev => ⟨hin, hin, fun w1 ew => ?_⟩⟩
    rw [nI_clamp (by omega), hw b hb2] at ev
    subst ev
    rw [nI_clamp (by omega), h1, l_mask (fun l hl => hb b l hb2 hl) hc hd] at ew
    have hrow : ∀ l, l < 12 → (if wk b l = 1 then c l else d l) = wrow j (wk b) c d l := fun l _ => by
      unfold wrow
      by_cases z : wk b l = 1
      · rw [if_pos z, if_pos ⟨cz, z⟩]
      · rw [if_neg z, if_neg (fun y => z y.2)]
    rw [dg_congr hrow] at ew
    refine lp2 (PX2_writeArm_L1 (nI t) n_working (nI b) (nI a) (nI j) _) (fun v i' => ∃ i, i ≤ 12 ∧ v = nI i ∧ (∀ l, l < 12 → i' (12 * a + l) = nI (if l < i then irow t j (wk b) e l else e l)) ∧ ∀ q, q < 12 * a ∨ 12 * a + 12 ≤ q → i' q = n_writtenIn q) (fun v _ => 12 - v.toNatClampNeg) ?_ _ _ ⟨0, by omega, rfl, fun l hl => by rw [if_neg (by omega)]; exact h2 l hl, fun _ _ => rfl⟩
    rintro g v i' ⟨i, hi, ev, hJ, hJ2⟩ ih
    subst ev
    unfold PX2_writeArm_L1
    refine ⟨fun c2 => ?_, fun c2 => ?_⟩ <;> rw [show (12 : Int32) = nI 12 from rfl, nI_leI (by omega) (by omega)] at c2
    · obtain rfl : i = 12 := by omega
      refine h w1 i' (by rw [ew, pk_uLs]) (fun q hq => by rw [ew, pk_uLn hq]) (fun l hl => ?_) hJ2
      rw [hJ l hl, if_pos hl]
    · have hi12 : i < 12 := by omega
      have nxt : ∀ i2 : Nat → Int32, (∀ l, l < 12 → i2 (12 * a + l) = nI (if l < i + 1 then irow t j (wk b) e l else e l)) → (∀ q, q < 12 * a ∨ 12 * a + 12 ≤ q → i2 q = n_writtenIn q) → ∀ v1 : Int32, v1 = nI i + (1 : Int32) → PX2_writeArm_L1 (nI t) n_working (nI b) (nI a) (nI j) (fun v8_7 n_writtenIn_8 => (k w1 n_writtenIn_8)) g v1 i2 := by
        intro i2 q1 q2 v1 f1
        rw [nI_1] at f1
        exact ih _ _ ⟨i + 1, by omega, f1, q1, q2⟩ (by rw [f1, nI_clamp (by omega), nI_clamp (by omega)]; omega)
      refine tC_works hw hb hb2 hi12 (fun y => ⟨fun q => absurd q (by decide), fun _ v2 e2 => ?_⟩) (fun y => ⟨fun _ => nxt i' (fun l hl => ?_) hJ2, fun q => absurd rfl q⟩)
      · rw [pl12] at e2
        subst e2
        have hin2 : vp_in (nI (12 * a + i)) 8640 := vp_in_nI (by omega) (by decide)
        have hei := he i hi12
        refine ⟨hin2, hin2, fun i2 e2 => nxt i2 (fun l hl => ?_) (fun q hq => ?_)⟩
        · rw [nI_clamp (by omega), hJ i hi12, if_neg (Nat.lt_irrefl i), nI_add] at e2
          rw [e2]
          by_cases z : l = i
          · rw [z, pk_us, if_pos (Nat.lt_succ_self i)]
            unfold irow
            rw [if_pos (show j ≠ 0 ∧ wk b i = 1 from ⟨cz, y⟩)]
            by_cases x : e i < t + j
            · rw [if_pos (nI_lt x (by omega))]
              refine congrArg nI ?_
              omega
            · rw [if_neg (nI_nlt (by omega) (by omega))]
              refine congrArg nI ?_
              omega
          · rw [pk_un (by omega), hJ l hl]
            refine congrArg nI ?_
            by_cases x : l < i
            · rw [if_pos x, if_pos (by omega)]
            · rw [if_neg x, if_neg (by omega)]
        · rw [e2, nI_clamp (by omega), pk_un (by omega)]
          exact hJ2 q hq
      · rw [hJ l hl]
        refine congrArg nI ?_
        by_cases x : l < i
        · rw [if_pos x, if_pos (by omega)]
        · rw [if_neg x]
          by_cases z : l = i
          · rw [z, if_pos (by omega)]
            unfold irow
            rw [if_neg (by omega)]
          · rw [if_neg (by omega)]
  · refine h _ _ ?_ (fun _ _ => rfl) (fun l hl => ?_) (fun _ _ => rfl)
    · rw [h1]
      refine congrArg lN (dg_congr fun l hl => ?_)
      unfold wrow
      rw [if_neg (fun z => z.1 cz)]
    · rw [h2 l hl]
      unfold irow
      rw [if_neg (fun z => z.1 cz)]
/-- the last sweep tick in which a working light of an arm was at a place -/
def hit (wk : Nat → Nat → Nat) (sec : Nat) (P : Nat → Nat) (a l : Nat) : Nat := max (if wk 0 l = 1 then P a else 0) (if sec = 1 ∧ wk 1 l = 1 then P (opp a) else 0)
def wiP (S : AS) (P : Nat → Nat) (a l : Nat) : Nat := if hit (s_wk S) (s_sec S) P a l = 0 then s_wi S a l else s_tck S + hit (s_wk S) (s_sec S) P a l
def wcP (S : AS) (P : Nat → Nat) (a l : Nat) : Nat := if hit (s_wk S) (s_sec S) P a l = 0 then s_wc S a l else wantS S a l
theorem tC_write {T : Nat} {S : AS} {n_pictureCount n_angle n_speed n_ticks n_load n_secondArm : Int32} {n_settings : Nat → Int32} {n_working n_written : Nat → Int64} {n_writtenIn n_width n_first n_step n_kind : Nat → Int32} {n_columns : Nat → Nat → Int64} {ww : Nat → Int64} {wp : Nat → Int32} {wa wv wl wt : Int32} {j : Nat} {P : Nat → Nat} {k : Int32 → Int32 → Int32 → Int32 → (Nat → Int64) → (Nat → Int32) → Prop} (hT : T < 9000) (hS : okS T S) (hC : repC S n_pictureCount n_angle n_speed n_ticks n_load n_secondArm n_settings n_working n_written n_writtenIn n_width n_first n_step n_kind n_columns) (hww : ∀ a, a < 720 → ww a = lN (dg 8 12 (wantS S a))) (hwp : ∀ q, q < 720 → wp q = nI (P q)) (hP : ∀ q, P q ≤ j) (hj : j < 1000) (hwt : wt = nI j)
    (h : ∀ w' i', (∀ a, a < 720 → w' a = lN (dg 8 12 (wcP S P a))) → (∀ a l, a < 720 → l < 12 → i' (12 * a + l) = nI (wiP S P a l)) → k wa wv (nI (s_tck S + j)) wl w' i') : PX2_write n_angle n_speed n_ticks n_load n_working n_written n_writtenIn ww wp (nI (s_sec S)) wa wv wl wt k := by
  obtain ⟨-, -, -, c4, -, -, -, ⟨cW, cW2, cW3⟩, -⟩ := hC
  obtain ⟨-, -, -, -, ksec, kG, -, ⟨k1, hb, k3, k4⟩⟩ := id hS
  subst c4 hwt
  unfold PX2_write
  refine lp3 (PX2_write_L1 (nI (s_tck S)) n_working ww wp (nI (s_sec S)) _) (fun v w' i' => ∃ i, i ≤ 720 ∧ v = nI i ∧ (∀ a, a < 720 → w' a = lN (dg 8 12 (if a < i then wcP S P a else s_wc S a))) ∧ ∀ a l, a < 720 → l < 12 → i' (12 * a + l) = nI (if a < i then wiP S P a l else s_wi S a l)) (fun v _ _ => 720 - v.toNatClampNeg) ?_ _ _ _ ⟨0, by omega, rfl, fun a ha => by rw [if_neg (by omega)]; exact cW2 a ha, fun a l ha hl => by rw [if_neg (by omega)]; exact cW3 a l ha hl⟩
  rintro g v w' i' ⟨i, hi, ev, hJ1, hJ2⟩ ih
  subst ev
  unfold PX2_write_L1
  refine ⟨fun c => ?_, fun c => ?_⟩ <;> rw [show (720 : Int32) = nI 720 from rfl, nI_leI (by omega) (by omega)] at c
  · obtain rfl : i = 720 := by omega
    intro t et
    rw [nI_add] at et
    rw [et]
    refine h _ _ (fun a ha => ?_) (fun a l ha hl => ?_)
    · rw [hJ1 a ha, if_pos ha]
    · rw [hJ2 a l ha hl, if_pos ha]
  · have hi7 : i < 720 := by omega
    have hin : vp_in (nI i) 720 := vp_in_nI hi7 (by decide)
    have hcl : (nI i).toNatClampNeg = i := nI_clamp (by omega)
    have ho := opp_lt i
    unfold PX3_firstArmAt PX3_secondArmAt PX3_opposite
    rw [hcl, hww i hi7, hwp i hi7, opp_I i hi7]
    dsimp only
    rw [nI_clamp (n := opp i) (by omega), hwp _ ho]
    refine ⟨hin, hin, ?_⟩
    have hPi := hP i
    have hPo := hP (opp i)
    refine tC_writeArm (b := 0) cW hb (by omega) hi7 (by omega) (by omega) (fun l hl => want_lt hS hl) (d := s_wc S i) (e := s_wi S i) (fun l hl => k3 i l hi7 hl) (fun l hl => by have := k4 i l hi7 hl; omega) (by rw [hJ1 i hi7, if_neg (by omega)]) (fun l hl => by rw [hJ2 i l hi7 hl, if_neg (by omega)]) fun w1 i1 q1 q2 q3 q4 => ⟨hin, ?_⟩
    have d1 : ∀ l, l < 12 → wrow (P i) (s_wk S 0) (wantS S i) (s_wc S i) l < 8 := fun l hl => by
      unfold wrow
      split
      · exact want_lt hS hl
      · exact k3 i l hi7 hl
    have f1 : ∀ l, l < 12 → irow (s_tck S) (P i) (s_wk S 0) (s_wi S i) l < 20000 := fun l hl => by
      have := k4 i l hi7 hl
      unfold irow
      split <;> omega
    have fin : ∀ x : Nat, x = (if s_sec S = 1 then P (opp i) else 0) → PX2_writeArm (nI (s_tck S)) n_working w1 i1 (1 : Int32) (nI i) (lN (dg 8 12 (wantS S i))) (nI x) (fun n_written_11 n_writtenIn_12 => (∀ v2_13 : Int32, v2_13 = nI i + (1 : Int32) → PX2_write_L1 (nI (s_tck S)) n_working ww wp (nI (s_sec S)) (fun v2_1 n_written_2 n_writtenIn_3 => (∀ f_ticks_14 : Int32, f_ticks_14 = (nI (s_tck S) + nI j) → (k wa wv f_ticks_14 wl n_written_2 n_writtenIn_3))) g v2_13 n_written_11 n_writtenIn_12)) := by
      intro x ex
      have hx : x < 10000 := by rw [ex]; split <;> omega
      refine tC_writeArm (b := 1) cW hb (by omega) hi7 (by omega) hx (fun l hl => want_lt hS hl) d1 f1 q1 q3 fun w2 i2 r1 r2 r3 r4 v1 ev1 => ?_
      rw [nI_1] at ev1
      refine ih _ _ _ ⟨i + 1, by omega, ev1, fun a ha => ?_, fun a l ha hl => ?_⟩ (by rw [ev1, nI_clamp (by omega), nI_clamp (by omega)]; omega)
      · by_cases z : a = i
        · rw [z, r1, if_pos (by omega)]
          refine congrArg lN (dg_congr fun l hl => ?_)
          unfold wrow wcP hit
          rw [ex]
          have := hb 0 l (by omega) hl
          have := hb 1 l (by omega) hl
          by_cases y0 : s_wk S 0 l = 1 <;> by_cases y1 : s_wk S 1 l = 1 <;> by_cases y2 : s_sec S = 1 <;> by_cases y3 : P i = 0 <;> by_cases y4 : P (opp i) = 0 <;> simp [y0, y1, y2, y3, y4]
        · rw [r2 a z, q2 a z, hJ1 a ha]
          by_cases y : a < i
          · rw [if_pos y, if_pos (by omega)]
          · rw [if_neg y, if_neg (by omega)]
      · by_cases z : a = i
        · rw [z, r3 l hl, if_pos (by omega)]
          refine congrArg nI ?_
          have h4 := k4 i l hi7 hl
          unfold irow wiP hit
          rw [ex]
          by_cases y0 : s_wk S 0 l = 1 <;> by_cases y1 : s_wk S 1 l = 1 <;> by_cases y2 : s_sec S = 1 <;> by_cases y3 : P i = 0 <;> by_cases y4 : P (opp i) = 0 <;> simp [y0, y1, y2, y3, y4] <;> omega
        · rw [r4 _ (by omega), q4 _ (by omega), hJ2 a l ha hl]
          by_cases y : a < i
          · rw [if_pos y, if_pos (by omega)]
          · rw [if_neg y, if_neg (by omega)]
    refine ⟨fun c2 => ?_, fun c2 => ⟨vp_in_nI ho (by decide), ?_⟩⟩
    · have z : s_sec S = 0 := (nI_eq (b := 0) (by omega) (by omega)).mp c2
      exact fin 0 (by rw [if_neg (by omega)])
    · have z : s_sec S = 1 := by
        have : ¬ s_sec S = 0 := fun z => c2 (by rw [z]; rfl)
        omega
      exact fin (P (opp i)) (by rw [if_pos z])
