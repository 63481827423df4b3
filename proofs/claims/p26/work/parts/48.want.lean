/-! what is wanted at a place -/
def wt (wd fs sp kd : Nat → Nat) (co : Nat → Nat → Nat → Nat) (a : Nat) : Nat → Nat → Nat
  | 0, _ => 0
  | n + 1, l => wt wd fs sp kd co a n l ||| pw (wd n) (fs n) (sp n) (kd n) (co n) a l
def wantS (S : AS) (a l : Nat) : Nat := wt (s_wd S) (s_fs S) (s_sp S) (s_kd S) (s_co S) a (s_cnt S) l
theorem pw_lt {wd fs sp kd a l : Nat} {co : Nat → Nat → Nat} (h : okQ wd fs sp kd co) (hl : l < 12) : pw wd fs sp kd co a l < 8 := by
  obtain ⟨q1, q2, q3, q4, q5, q6, q7⟩ := h
  unfold pw
  split
  · omega
  · split
    · rename_i hc
      have := (clN_lt (kd := kd) hc).1
      exact q7 _ _ (by omega) hl
    · omega
theorem wt_lt {wd fs sp kd : Nat → Nat} {co : Nat → Nat → Nat → Nat} {a l : Nat} (hl : l < 12) : ∀ {n : Nat}, (∀ p, p < n → okQ (wd p) (fs p) (sp p) (kd p) (co p)) → wt wd fs sp kd co a n l < 8
  | 0, _ => by show 0 < 8; omega
  | n + 1, h => Nat.or_lt_two_pow (n := 3) (wt_lt hl (n := n) fun p hp => h p (by omega)) (pw_lt (h n (by omega)) hl)
theorem want_lt {T : Nat} {S : AS} {a l : Nat} (hS : okS T S) (hl : l < 12) : wantS S a l < 8 := wt_lt hl fun _ hp => okQ_of hS hp
theorem l_or {d e : Nat → Nat} (hd : ∀ l, l < 12 → d l < 8) (he : ∀ l, l < 12 → e l < 8) : lN (dg 8 12 d) ||| lN (dg 8 12 e) = lN (dg 8 12 (fun l => d l ||| e l)) := by
  have h1 := l_lt hd
  have h2 := l_lt he
  rw [wb_or (by omega) (by omega), dg8_or hd he]
theorem l_and {d e : Nat → Nat} (hd : ∀ l, l < 12 → d l < 8) (he : ∀ l, l < 12 → e l < 8) : lN (dg 8 12 d) &&& lN (dg 8 12 e) = lN (dg 8 12 (fun l => d l &&& e l)) := by
  have h1 := l_lt hd
  have h2 := l_lt he
  rw [wb_and (by omega) (by omega), dg8_and hd he]
theorem l_xorD {d e : Nat → Nat} (hd : ∀ l, l < 12 → d l < 8) (he : ∀ l, l < 12 → e l < 8) : lN (dg 8 12 d) ^^^ lN (dg 8 12 e) = lN (dg 8 12 (fun l => d l ^^^ e l)) := by
  rw [l_xor, dg8_xor hd he]
theorem l_zero : (0 : Int64) = lN (dg 8 12 (fun _ => 0)) := by rw [dg_zero]; rfl
theorem tC_wantedAt {T : Nat} {S : AS} {n_pictureCount : Int32} {n_width n_first n_step n_kind : Nat → Int32} {n_columns : Nat → Nat → Int64} {a : Nat} {k : Int64 → Prop} (hS : okS T S) (hn : n_pictureCount = nI (s_cnt S)) (hP : rcP (s_cnt S) (s_wd S) (s_fs S) (s_sp S) (s_kd S) (s_co S) n_width n_first n_step n_kind n_columns) (ha : a < 720) (h : k (lN (dg 8 12 (wantS S a)))) : PX2_wantedAt n_pictureCount n_width n_first n_step n_kind n_columns (nI a) k := by
  have hcnt := hS.1
  subst hn
  unfold PX2_wantedAt
  refine lp2 (PX2_wantedAt_L1 (nI (s_cnt S)) n_width n_first n_step n_kind n_columns (nI a) _) (fun v w => ∃ i, i ≤ s_cnt S ∧ w = nI i ∧ v = lN (dg 8 12 (wt (s_wd S) (s_fs S) (s_sp S) (s_kd S) (s_co S) a i))) (fun _ w => s_cnt S - w.toNatClampNeg) ?_ _ _ ⟨0, by omega, rfl, l_zero⟩
  rintro f v w ⟨i, hi, ew, ev⟩ ih
  subst ew ev
  unfold PX2_wantedAt_L1
  refine ⟨fun c => ?_, fun c => ?_⟩ <;> rw [nI_leI (by omega) (by omega)] at c
  · obtain rfl : i = s_cnt S := by omega
    exact h
  · refine ⟨vp_in_nI (by omega) (by decide), fun j hj ej => ?_⟩
    rw [nI_clamp (by omega)] at ej
    subst ej
    have hq := okQ_of hS (p := i) (by omega)
    obtain ⟨q1, q2, q3, q4, q5, q6, q7⟩ := id hq
    rw [hP.1 i (by omega), (hP.2.1 i hj).1, (hP.2.1 i hj).2.1, (hP.2.1 i hj).2.2]
    refine tC_pwanted q1 q2 q3 q4 q5 ha q6 (fun c hc => hP.2.2 i c hj hc) ?_
    intro v1 e1 w1 f1
    rw [nI_1] at f1
    rw [l_or (fun l hl => wt_lt hl fun p hp => okQ_of hS (by omega)) (fun l hl => pw_lt hq hl)] at e1
    refine ih _ _ ⟨i + 1, by omega, f1, e1⟩ ?_
    rw [f1, nI_clamp (by omega), nI_clamp (by omega)]
    omega
