theorem nx0_col {q : RQ} {n x a b : Nat} (h : nx0 q) : nx0 (q.1, 0, q.2.2.1 + n, a, b, colD q.2.2.2.2.2 q.1 q.2.2.1 n x) := by
  intro c l hc hl w
  have w2 : q.1 - 1 < c ∨ (c = q.1 - 1 ∧ q.2.2.1 + n ≤ l) := w
  show colD q.2.2.2.2.2 q.1 q.2.2.1 n x c l = 0
  unfold colD
  rw [if_neg (fun u => by omega)]
  exact h c l hc hl (by omega)
theorem tM_readPart {tl : Nat} {tx : Nat → Nat} {b_text : Nat → Int32} {i : Nat} {q : RQ} {rdc : Nat → Int32} {cols told : Int32} {k : Int32 → Int32 → (Nat → Int32) → Int32 → Int32 → Prop} (hT : TO tl tx) (hX : TX tl tx b_text) (hi : i < tl) (hq : okR q) (hR : RM q rdc cols told) (hn0 : nx0 q) (h0q : q.2.1 = 0) (hs : tx i ≠ 32)
    (hE : ∀ p r c t, p ≤ tl → (rd tx (tl - i) i q).1 = p + 1 → k 0 (nI p) r c t) (h0 : ∀ p q' r c t, i < p → p ≤ tl → okR q' → q'.2.1 = 0 → RM q' r c t → nx0 q' → rd tx (tl - i) i q = rd tx (tl - p) p q' → k 1 (nI p) r c t) : PX5_readPart b_text (nI tl) (nI i) rdc cols told k := by
  have hl := hT.1
  have hb := hT.2 i hi
  obtain ⟨⟨o1, o1'⟩, o2, o3, o4, o5, o6⟩ := id hq
  have ehr : hr tl tx i = tx i := by unfold hr; rw [if_pos hi]
  have e1 := rd_step (q := q) hi (tx := tx)
  obtain ⟨r1, r2, r3⟩ := id hR
  subst r2 r3
  have h59 : nI (hr tl tx i) = (59 : Int32) ↔ tx i = 59 := by rw [ehr]; exact nI_eq (b := 59) (by omega) (by omega)
  have h40 : nI (hr tl tx i) = (40 : Int32) ↔ tx i = 40 := by rw [ehr]; exact nI_eq (b := 40) (by omega) (by omega)
  unfold PX5_readPart
  refine tM_here hT hX (by omega) ⟨fun c => ?_, fun c => ?_⟩ <;> rw [h59] at c
  · refine tM_here hT hX (by omega) ⟨fun c2 => ?_, fun c2 => ?_⟩ <;> rw [h40] at c2
    · have er : rst q (tx i) i = tkC q (tx i) i 1 := by
        unfold rst
        rw [if_neg hs, if_neg (by omega), if_neg (by omega), if_neg (by omega), if_neg (by omega), if_neg c, if_neg c2]
      rw [er] at e1
      have bad : ¬ (48 ≤ tx i ∧ tx i ≤ 55 ∧ q.2.2.1 + 1 ≤ 12) → (rd tx (tl - i) i q).1 = i + 1 := by
        intro y
        unfold tkC at e1
        rw [if_neg y] at e1
        rw [if_neg (by show ¬ i + 1 = 0; omega)] at e1
        rw [e1]
      refine tM_isColor hT hX (by omega) (fun y => ?_) (fun y => ?_) <;> rw [ehr] at y
      · refine ⟨fun c => absurd c (by decide), fun _ => ⟨fun c3 => ?_, fun c3 => ?_⟩⟩ <;> rw [show (12 : Int32) = nI 12 from rfl, nI_leI (by omega) (by omega)] at c3
        · exact hE i _ _ _ (by omega) (bad (by omega))
        · have g : 48 ≤ tx i ∧ tx i ≤ 55 ∧ q.2.2.1 + 1 ≤ 12 := ⟨y.1, y.2, by omega⟩
          have ok := rst_ok hq (ch := tx i) (at' := i) hb.2 (by omega)
          rw [er] at ok
          unfold tkC at e1 ok
          rw [if_pos g] at e1 ok
          rw [if_pos rfl] at e1
          exact tM_takeColor (n := 1) hT hX hi hq hR hn0 y (by omega) fun r' hr' => h0 (i + 1) _ _ _ _ (by omega) (by omega) (ok rfl) rfl ⟨hr', rfl, rfl⟩ (nx0_col hn0) e1
      · exact ⟨fun _ => hE i _ _ _ (by omega) (bad (fun u => y ⟨u.1, u.2.1⟩)), fun c => absurd rfl c⟩
    · refine tM_readNumber hT hX hi hq h0q c2 (fun p hp he => ⟨fun _ => ⟨fun _ => hE p _ _ _ hp he, fun c => absurd (by decide) c⟩, fun c => absurd (by decide) c⟩) (fun v f p v1 v12 ip ptl hf hcol he => ?_)
      have hv : ¬ nI v ≤ 0 := by
        rw [show (0 : Int32) = nI 0 from rfl, nI_leI (by omega) (by omega)]
        omega
      refine ⟨fun c => absurd c hv, fun _ => tM_takeColor (n := v) hT hX ptl hq hR hn0 hcol v12 fun r' hr' => ⟨fun c => absurd c hv, fun _ => ?_⟩⟩
      have hbp := hT.2 p ptl
      have q4 : okR (q.1, 4, q.2.2.1, v, f, q.2.2.2.2.2) := ⟨⟨o1, o1'⟩, by show 4 ≤ 4; omega, o3, by show v ≤ 12; omega, by show f ≤ 1000; omega, o6⟩
      have ok := rst_ok q4 (ch := tx p) (at' := p) hbp.2 (by omega)
      have e2 := rd_step (q := (q.1, 4, q.2.2.1, v, f, q.2.2.2.2.2)) ptl (tx := tx)
      have er : rst (q.1, 4, q.2.2.1, v, f, q.2.2.2.2.2) (tx p) p = (0, (q.1, 0, q.2.2.1 + v, v, f, colD q.2.2.2.2.2 q.1 q.2.2.1 v (tx p - 48))) := by
        show (if tx p = 32 then _ else if 4 = 1 then _ else if 4 = 2 then _ else if 4 = 3 then _ else if 4 = 4 then tkC (q.1, 4, q.2.2.1, v, f, q.2.2.2.2.2) (tx p) p v else _) = _
        rw [if_neg (by omega), if_neg (by omega), if_neg (by omega), if_neg (by omega), if_pos rfl]
        unfold tkC
        rw [if_pos ⟨hcol.1, hcol.2, v12⟩]
      rw [er] at ok e2
      rw [if_pos rfl] at e2
      exact h0 (p + 1) _ _ _ _ (by omega) (by omega) (ok rfl) rfl ⟨hr', rfl, rfl⟩ (nx0_col hn0) (by rw [he, e2])
  · have er : rst q (tx i) i = tkS q i := by
      unfold rst
      rw [if_neg hs, if_neg (by omega), if_neg (by omega), if_neg (by omega), if_neg (by omega), if_pos c]
    have ok := rst_ok hq (ch := tx i) (at' := i) hb.2 (by omega)
    rw [er] at e1 ok
    unfold tkS at e1 ok
    have ec : nI (q.1 - 1) + (1 : Int32) = nI q.1 := by rw [nI_1]; exact congrArg nI (by omega)
    have h40 : nI q.1 = (40 : Int32) ↔ q.1 = 40 := nI_eq (b := 40) (by omega) (by omega)
    rw [ec, h40]
    refine ⟨fun c2 v ev w ew => ?_, fun c2 => ?_⟩
    · rw [if_pos (show q.1 < 40 by omega)] at e1 ok
      rw [if_pos rfl] at e1
      rw [nI_1] at ev
      subst ev ew
      refine h0 (i + 1) _ _ _ _ (by omega) (by omega) (ok rfl) h0q ⟨r1, rfl, rfl⟩ (fun c l hc hl w => ?_) e1
      have w2 : q.1 + 1 - 1 < c ∨ (c = q.1 + 1 - 1 ∧ 0 ≤ l) := w
      exact hn0 c l hc hl (by omega)
    · rw [if_neg (show ¬ q.1 < 40 by omega)] at e1
      rw [if_neg (by show ¬ i + 1 = 0; omega)] at e1
      exact hE i _ _ _ (by omega) (by rw [e1])
