theorem tM_readText {tl : Nat} {tx : Nat → Nat} {b_text : Nat → Int32} {b_at cols told : Int32} {rdc : Nat → Int32} {k : Int32 → Int32 → (Nat → Int32) → Int32 → Int32 → Prop} (hT : TO tl tx) (hX : TX tl tx b_text)
    (hE : ∀ e r c t, e ≤ tl → (rd tx tl 0 q00).1 = e + 1 → k 0 (nI e) r c t) (h0 : (rd tx tl 0 q00).1 = 0 → ∀ a r c t, RM (rd tx tl 0 q00).2 r c t → k 1 a r c t) : PX5_readText b_text (nI tl) b_at rdc cols told k := by
  have hl := hT.1
  unfold PX5_readText
  refine lp2 (PX5_readText_L1 _) (fun v r => ∃ i, i ≤ 80 ∧ v = nI i ∧ ∀ x, x < i → r x = 0) (fun v _ => 80 - v.toNatClampNeg) ?_ _ _ ⟨0, by omega, rfl, fun x hx => by omega⟩
  rintro f v r ⟨i, hi, ev, hJ⟩ ih
  subst ev
  unfold PX5_readText_L1
  refine ⟨fun c => ?_, fun c => ?_⟩ <;> rw [show (80 : Int32) = nI 80 from rfl, nI_leI (by omega) (by omega)] at c
  · obtain rfl : i = 80 := by omega
    refine tM_skip (i := 0) hT hX (by omega) ?_
    obtain ⟨s1, s2, s3⟩ := sk_ge (tx := tx) (show 0 ≤ tl by omega)
    have hs0 := rd_sk (tl := tl) (tx := tx) (tl - 0) 0 q00 (by omega) (by show 0 ≠ 2; omega)
    rw [Nat.sub_zero] at hs0 s1 s2 s3 ⊢
    have hRM : RM q00 r 0 0 := by
      refine ⟨fun c h hc hh => ?_, rfl, rfl⟩
      rw [hJ _ (by omega)]
      show (0 : Int32) = nI (dg 8 6 (fun _ => 0))
      rw [dg_zero]
      rfl
    generalize sk tl tx tl 0 = i at hs0 s1 s2 s3
    refine lp5 (PX5_readText_L2 b_text (nI tl) _) (fun v a r c t => (v = 0 ∧ ∃ e, e ≤ tl ∧ a = nI e ∧ (rd tx tl 0 q00).1 = e + 1) ∨ (v = 1 ∧ ∃ i q, i ≤ tl ∧ a = nI i ∧ okR q ∧ q.2.1 = 0 ∧ RM q r c t ∧ nx0 q ∧ hr tl tx i ≠ 32 ∧ rd tx (tl - i) i q = rd tx tl 0 q00)) (fun v a _ _ _ => if v = 0 then 0 else 1 + (tl - a.toNatClampNeg)) ?_ _ _ _ _ _ (Or.inr ⟨rfl, i, q00, s2, rfl, q00_ok, rfl, hRM, fun c l _ _ _ => rfl, s3, hs0.symm⟩)
    rintro f2 v a r c t hJ2 ih2
    unfold PX5_readText_L2
    rcases hJ2 with ⟨ev, e, he, ea, hrd⟩ | ⟨ev, j, q, hj, ea, hq, h0q, hR, hn0, hs, hrd⟩
    · subst ev ea
      exact ⟨fun _ => ⟨Or.inl rfl, hE e _ _ _ he hrd⟩, fun c => absurd rfl c⟩
    · subst ev ea
      refine ⟨fun c => absurd c (by decide), fun _ => ⟨fun c2 => ?_, fun c2 => ?_⟩⟩ <;> rw [nI_leI (by omega) (by omega)] at c2
      · obtain rfl : j = tl := by omega
        rw [rd_end, if_pos h0q] at hrd
        exact ⟨Or.inr rfl, h0 (by rw [← hrd]) _ _ _ _ (by rw [← hrd]; exact hR)⟩
      · have hjt : j < tl := by omega
        have ehr : hr tl tx j = tx j := by unfold hr; rw [if_pos hjt]
        rw [ehr] at hs
        refine tM_readPart hT hX hjt hq hR hn0 h0q hs (fun p r c t hp he => ⟨fun _ => ?_, fun c => absurd rfl c⟩) (fun p q' r c t jp hp hq' h0q' hR' hn' he => ⟨fun c => absurd c (by decide), fun _ => tM_skip hT hX hp ?_⟩)
        · refine ih2 _ _ _ _ _ (Or.inl ⟨rfl, p, hp, rfl, by rw [← hrd]; exact he⟩) ?_
          show (if (0 : Int32) = 0 then 0 else 1 + (tl - (nI p).toNatClampNeg)) < (if (1 : Int32) = 0 then 0 else 1 + (tl - (nI j).toNatClampNeg))
          rw [if_pos rfl, if_neg (by decide)]
          omega
        · obtain ⟨w1, w2, w3⟩ := sk_ge (tx := tx) hp
          have hs1 := rd_sk (tl := tl) (tx := tx) (tl - p) p q' (by omega) (by omega)
          generalize sk tl tx (tl - p) p = g at hs1 w1 w2 w3
          refine ih2 _ _ _ _ _ (Or.inr ⟨rfl, g, q', w2, rfl, hq', h0q', hR', hn', w3, by rw [← hs1, ← he, hrd]⟩) ?_
          show (if (1 : Int32) = 0 then 0 else 1 + (tl - (nI g).toNatClampNeg)) < (if (1 : Int32) = 0 then 0 else 1 + (tl - (nI j).toNatClampNeg))
          rw [if_neg (by decide), if_neg (by decide), nI_clamp (by omega), nI_clamp (by omega)]
          omega
  · refine ⟨vp_in_nI (by omega) (by decide), fun r' er v1 f1 => ?_⟩
    rw [nI_clamp (by omega)] at er
    rw [nI_1] at f1
    refine ih _ _ ⟨i + 1, by omega, f1, fun x hx => ?_⟩ (by rw [f1, nI_clamp (by omega), nI_clamp (by omega)]; omega)
    rw [er]
    by_cases z : x = i
    · rw [z, pk_us]
    · rw [pk_un z]; exact hJ x (by omega)
