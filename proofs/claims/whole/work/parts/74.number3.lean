/-- the class from the bracket's first mark on -/
theorem rd_one {tl : Nat} {tx : Nat → Nat} {f : Nat} {q : RQ} (hf : f ≤ tl) (h1 : q.2.1 = 1) (hs : hr tl tx f ≠ 32) (h12 : q.2.2.1 ≤ 12) :
    if (nv tl tx (tl - f) f 0).2 = f ∨ tx f = 48 ∨ 12 < q.2.2.1 + (nv tl tx (tl - f) f 0).1 then (rd tx (tl - f) f q).1 = f + 1
    else f < tl ∧ 1 ≤ (nv tl tx (tl - f) f 0).1 ∧ rd tx (tl - f) f q = rd tx (tl - (nv tl tx (tl - f) f 0).2) (nv tl tx (tl - f) f 0).2 (q.1, 2, q.2.2.1, (nv tl tx (tl - f) f 0).1, f, q.2.2.2.2.2) := by
  by_cases z : f < tl
  · have ehr : hr tl tx f = tx f := by unfold hr; rw [if_pos z]
    rw [ehr] at hs
    have er : rst q (tx f) f = tkD q (tx f) f 0 f := by
      unfold rst
      rw [if_neg hs, if_pos h1]
    have e1 := rd_step (q := q) z (tx := tx)
    rw [er] at e1
    unfold tkD at e1
    by_cases y : 48 ≤ tx f ∧ tx f ≤ 57
    · rw [if_pos y, Nat.zero_mul, Nat.zero_add] at e1
      have en : nv tl tx (tl - f) f 0 = nv tl tx (tl - (f + 1)) (f + 1) (tx f - 48) := by
        rw [show tl - f = (tl - (f + 1)) + 1 by omega]
        show (if 48 ≤ hr tl tx f ∧ hr tl tx f ≤ 57 then nv tl tx (tl - (f + 1)) (f + 1) (if 0 ≤ 99 then 10 * 0 + (hr tl tx f - 48) else 0) else _) = _
        rw [ehr, if_pos y, if_pos (by omega), Nat.mul_zero, Nat.zero_add]
      obtain ⟨m1, m2, m3, m4, m5⟩ := nv_in (tl := tl) (tx := tx) (tl - (f + 1)) (f + 1) (tx f - 48) (by omega) (by omega)
      rw [en]
      by_cases g : 1 ≤ tx f - 48 ∧ q.2.2.1 + (tx f - 48) ≤ 12
      · rw [if_pos g, if_pos rfl] at e1
        have hnum := rd_num (tl := tl) (tx := tx) (tl - (f + 1)) (f + 1) (q.1, 2, q.2.2.1, tx f - 48, f, q.2.2.2.2.2) (by omega) rfl g.1 g.2
        dsimp only at hnum
        by_cases x : q.2.2.1 + (nv tl tx (tl - (f + 1)) (f + 1) (tx f - 48)).1 ≤ 12
        · rw [if_pos x] at hnum
          rw [if_neg (by omega)]
          exact ⟨z, by omega, by rw [e1, hnum]⟩
        · rw [if_neg x] at hnum
          rw [if_pos (by omega), e1]
          exact hnum
      · rw [if_neg g] at e1
        rw [if_neg (by show ¬ f + 1 = 0; omega)] at e1
        rw [if_pos (by omega), e1]
    · rw [if_neg y] at e1
      rw [if_neg (by show ¬ f + 1 = 0; omega)] at e1
      have en : nv tl tx (tl - f) f 0 = (0, f) := by
        rw [show tl - f = (tl - (f + 1)) + 1 by omega]
        show (if 48 ≤ hr tl tx f ∧ hr tl tx f ≤ 57 then _ else _) = _
        rw [ehr, if_neg y]
      rw [en, if_pos (Or.inl rfl), e1]
  · obtain rfl : f = tl := by omega
    have en : nv f tx (f - f) f 0 = (0, f) := by rw [Nat.sub_self]; rfl
    rw [en, if_pos (Or.inl rfl), rd_end, if_neg (by omega)]
theorem tM_readNumber {tl : Nat} {tx : Nat → Nat} {b_text : Nat → Int32} {i : Nat} {q : RQ} {k : Int32 → Int32 → Prop} (hT : TO tl tx) (hX : TX tl tx b_text) (hi : i < tl) (hq : okR q) (h0q : q.2.1 = 0) (hc : tx i = 40)
    (hE : ∀ p, p ≤ tl → (rd tx (tl - i) i q).1 = p + 1 → k (nI 0) (nI p)) (h0 : ∀ v f p, 1 ≤ v → q.2.2.1 + v ≤ 12 → i < p → p < tl → f ≤ tl → 48 ≤ tx p ∧ tx p ≤ 55 → rd tx (tl - i) i q = rd tx (tl - p) p (q.1, 4, q.2.2.1, v, f, q.2.2.2.2.2) → k (nI v) (nI p)) : PX5_readNumber b_text (nI tl) (nI i) (nI q.2.2.1) k := by
  have hl := hT.1
  obtain ⟨⟨o1, o1'⟩, o2, o3, o4, o5, o6⟩ := id hq
  have er : rst q (tx i) i = (0, (q.1, 1, q.2.2)) := by
    unfold rst
    rw [if_neg (by omega), if_neg (by omega), if_neg (by omega), if_neg (by omega), if_neg (by omega), if_neg (by omega), if_pos hc]
  have e1 := rd_step (q := q) hi (tx := tx)
  rw [er, if_pos rfl, rd_sk (tl := tl) (tl - (i + 1)) (i + 1) _ (by omega) (by show 1 ≠ 2; omega)] at e1
  dsimp only at e1
  obtain ⟨s1, s2, s3⟩ := sk_ge (tx := tx) (show i + 1 ≤ tl by omega)
  unfold PX5_readNumber
  intro v ev
  rw [nI_1] at ev
  subst ev
  refine tM_skip hT hX (by omega) ?_
  generalize sk tl tx (tl - (i + 1)) (i + 1) = f at e1 s1 s2 s3
  have one := rd_one (q := (q.1, 1, q.2.2)) s2 rfl s3 o3
  obtain ⟨n1, n2, n3, n4, n5⟩ := nv_in (tl := tl) (tx := tx) (tl - f) f 0 (by omega) (by omega)
  refine ⟨tl - f + 1, tM_digits hT hX (tl - f) f 0 (by omega) (by omega) ?_⟩
  dsimp only at one
  generalize hR : nv tl tx (tl - f) f 0 = R at one n1 n2 n3 n4 n5
  have hfe : nI R.2 = nI f ↔ R.2 = f := nI_eq (by omega) (by omega)
  refine ⟨fun c => ?_, fun c => ?_⟩ <;> rw [hfe] at c
  rotate_left
  · rw [if_pos (Or.inl c)] at one
    rw [c]
    exact hE f s2 (by rw [e1]; exact one)
  · rw [e1] at hE h0
    have hf : f < tl := by omega
    have hb := hT.2 f hf
    have h48 : nI (tx f) = (48 : Int32) ↔ tx f = 48 := nI_eq (b := 48) (by omega) (by omega)
    refine ⟨vp_in_nI (by omega) (by decide), ?_⟩
    rw [nI_clamp (by omega), hX f hf, h48]
    refine ⟨fun c2 => ?_, fun c2 => ?_⟩
    · rw [if_pos (Or.inr (Or.inl c2))] at one
      exact hE f s2 one
    · by_cases x : q.2.2.1 + R.1 ≤ 12
      · rw [if_neg (by omega)] at one
        obtain ⟨_, v1, e2⟩ := one
        refine yes5 (L := 1) (H := 12) (by decide) (by decide) v1 (by omega) ⟨fun c => absurd c (by decide), fun _ => ⟨fun _ => ?_, fun c => absurd ?_ c⟩⟩
        · refine tM_skip hT hX n2 ?_
          have bl := rd_blank (q := (q.1, 2, q.2.2.1, R.1, f, q.2.2.2.2.2)) n2 (Or.inl rfl) n3
          dsimp only at bl
          obtain ⟨t1, t2, t3⟩ := sk_ge (tx := tx) n2
          rw [e2] at hE h0
          generalize sk tl tx (tl - R.2) R.2 = g at bl t1 t2 t3
          have hgl := hr_le hT g
          have hg41 : nI (hr tl tx g) = (41 : Int32) ↔ hr tl tx g = 41 := nI_eq (b := 41) (by omega) (by omega)
          refine tM_here hT hX (by omega) ⟨fun c => ?_, fun c => ?_⟩ <;> rw [hg41] at c
          · rw [if_pos c] at bl
            intro v ev
            rw [nI_1] at ev
            subst ev
            have hg : g < tl := by
              unfold hr at c
              by_cases u : g < tl
              · exact u
              · rw [if_neg u] at c; omega
            have four := rd_four (tx := tx) (tl := tl) (i := g + 1) (q := (q.1, 4, q.2.2.1, R.1, f, q.2.2.2.2.2)) (by omega) rfl
            obtain ⟨w1, w2, w3⟩ := sk_ge (tx := tx) (show g + 1 ≤ tl by omega)
            rw [bl] at hE h0
            refine tM_skip hT hX (by omega) ?_
            generalize sk tl tx (tl - (g + 1)) (g + 1) = p at four w1 w2 w3
            refine tM_isColor hT hX (by omega) (fun y => ?_) (fun y => ?_)
            · rw [if_pos y] at four
              refine ⟨fun c => absurd c (by decide), fun _ => h0 R.1 f p v1 x (by omega) four.1 (by omega) ?_ four.2⟩
              unfold hr at y
              rwa [if_pos four.1] at y
            · rw [if_neg y] at four
              exact ⟨fun _ => hE p w2 four, fun c => absurd rfl c⟩
          · rw [if_neg c] at bl
            exact hE g t2 bl
        · rw [nI_add, show (12 : Int32) = nI 12 from rfl, nI_leI (by omega) (by omega)]
          exact x
      · rw [if_pos (by omega)] at one
        by_cases w : 1 ≤ R.1 ∧ R.1 ≤ 12
        · refine yes5 (L := 1) (H := 12) (by decide) (by decide) w.1 w.2 ⟨fun c => absurd c (by decide), fun _ => ⟨fun c => ?_, fun _ => hE f s2 one⟩⟩
          rw [nI_add, show (12 : Int32) = nI 12 from rfl, nI_leI (by omega) (by omega)] at c
          omega
        · refine no5 (A := 1) (B := 12) (by decide) (by decide) ?_ ⟨fun _ => hE f s2 one, fun c => absurd rfl c⟩
          rw [i_nI (show R.1 < 2 ^ 31 by omega)]
          omega
