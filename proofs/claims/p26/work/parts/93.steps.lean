/-! the law's steps, one lemma a kind -/
theorem act_undo {S S' : AS} {n : Nat} {h : Nat → AS} {k : Int32 → VS → Prop} (hk : ∀ q, q < 5 → k (nI q) (S, q, ph n h S)) : PA_undo (act S n h S') k := by
  show PA_undo (S', pn n, ph n h S) k
  obtain ⟨q, hq⟩ : ∃ q, pn n = q + 1 := ⟨pn n - 1, by unfold pn; split <;> omega⟩
  have ht : ph n h S q = S := by
    unfold ph
    unfold pn at hq
    by_cases e : n = 5
    · rw [if_pos e] at hq ⊢
      show (if q = 4 then S else h (q + 1)) = S
      rw [if_pos (by omega)]
    · rw [if_neg e] at hq ⊢
      show (if q = n then S else h q) = S
      rw [if_pos (by omega)]
  rw [hq]
  refine tA_undo fun _ h5 => ?_
  rw [ht]
  exact hk q h5
theorem spd_rem : ∀ j, j < 13 → (spd j).tmod 10 = 0 := by decide
theorem tL_J5 {S : AS} {n : Nat} {h : Nat → AS} (hS : okS 5000 S) (ht : s_tck S + 3 ≤ 5000) {i : Nat} (hi : i < 34) {lb : Int32 → VS → Prop} (y : Int32) (hlb : ∀ v : Int32, v = nI i + (1 : Int32) → ∀ n' h', lb v (S, n', h')) : PL_law_J5 lb (nI i) y (S, n, h) := by
  unfold PL_law_J5
  refine ⟨fun _ v e => hlb v e n h, fun _ => tA_count1 (tA_count5 (tL_low (n := 6) (by decide) (by decide) ?_))⟩
  have hl : lowN (y >>> ((7 : Int32) &&& 31)) 6 < 6 := lowN_lt (by decide)
  rw [show (1 : Int32) + nI (lowN (y >>> ((7 : Int32) &&& 31)) 6) = nI (1 + lowN (y >>> ((7 : Int32) &&& 31)) 6) from nI_add 1 _]
  refine tA_bestSpeed (by omega) (by omega) fun r j hj hr => ?_
  have h60 : (60 : Int32).toInt = 60 := by decide
  have hm60 : (-60 : Int32).toInt = -60 := by decide
  have hs : -60 ≤ spd j ∧ spd j ≤ 60 := by unfold spd; omega
  have hrem := i_rem hr (show (10 : Int32).toInt = 10 by decide) (by omega)
  rw [spd_rem j (by omega)] at hrem
  refine ⟨fun c => ?_, fun _ => ⟨fun c => ?_, fun _ => ⟨fun c => absurd (Int32.toInt_inj.mp (hrem.trans (show (0 : Int) = (0 : Int32).toInt by decide))) c, fun _ => ?_⟩⟩⟩
  · rw [i_lt hr hm60] at c; omega
  · rw [i_lt h60 hr] at c; omega
  refine tA_count1 ⟨fun c => absurd rfl c, fun _ => tA_count5 ⟨fun c => absurd rfl c, fun _ => tA_run (x := 3) (by omega) (by omega) ht fun hok => ?_⟩⟩
  have hld := hok.2.2.2.1
  refine ⟨fun c => absurd c (nI_nlt (b := 0) (by omega) (by omega)), fun _ => act_undo fun q hq => ⟨fun c => absurd c (nI_nlt (b := 0) (by omega) (by omega)), fun _ => ?_⟩⟩
  exact tA_count1 ⟨fun c => absurd rfl c, fun _ => tA_count5 ⟨fun _ v e => hlb v e _ _, fun c => absurd rfl c⟩⟩
theorem tL_J4 {S : AS} {n : Nat} {h : Nat → AS} (hS : okS 5000 S) (ht : s_tck S + 3 ≤ 5000) {i : Nat} (hi : i < 34) {lb : Int32 → VS → Prop} (y : Int32) (hlb : ∀ v : Int32, v = nI i + (1 : Int32) → ∀ n' h', lb v (S, n', h')) : PL_law_J4 lb (nI i) y (S, n, h) := by
  unfold PL_law_J4
  refine tL_places hS y ⟨fun c => absurd c (by decide), fun _ => ⟨fun _ => tL_J5 hS ht hi y hlb, fun _ => tL_pictures hS ⟨fun _ => tL_J5 hS ht hi y hlb, fun c => absurd c (by decide)⟩⟩⟩
/-- addPicture -/
theorem tL_add {S : AS} {n : Nat} {h : Nat → AS} (hS : okS 5000 S) (y : Int32) {jt : VS → Prop} (hj : ∀ (S' : AS) n' h', okS 5000 S' → 1 ≤ s_cnt S' → s_tck S' = s_tck S → jt (S', n', h')) : PL_low y (12 : Int32) (fun r139_164 => (∀ v8_165 : Int32, v8_165 = ((1 : Int32) + r139_164) → PA_addPicture (S, n, h) v8_165 (fun r148_166 V_167 => ((¬ (nI (s_cnt S)) = (4 : Int32) → (PL_law_J14 jt v8_165 r148_166 V_167) (nI (s_cnt S))) ∧ ((nI (s_cnt S)) = (4 : Int32) → (PL_law_J14 jt v8_165 r148_166 V_167) (-103 : Int32)))))) := by
  have hcnt := hS.1
  refine tL_low (n := 12) (by decide) (by decide) ?_
  have hl : lowN y 12 < 12 := lowN_lt (by decide)
  generalize lowN y 12 = w at hl ⊢
  intro v8 e8
  have e8' : v8 = nI (1 + w) := by rw [e8]; exact nI_add 1 w
  subst e8'
  have h4 : nI (s_cnt S) = (4 : Int32) ↔ s_cnt S = 4 := nI_eq (b := 4) (by omega) (by omega)
  obtain ⟨-, -, -, -, -, -, ⟨k1, k2, k3, k4⟩, -⟩ := id hS
  refine tA_addPicture (by omega) (by omega) (fun hc hok => ⟨fun _ => ?_, fun c => absurd (h4.mp c) (by omega)⟩) (fun hc => ⟨fun c => absurd (h4.mpr hc) c, fun _ => ?_⟩)
  · obtain ⟨y1, y2, y3, y4⟩ := k4 (s_cnt S) (Nat.le_refl _) hc
    have hp : s_cnt S < s_cnt (adS S (1 + w)) := Nat.lt_succ_self _
    have ewd : s_wd (adS S (1 + w)) (s_cnt S) = 1 + w := nu_s
    have esp : s_sp (adS S (1 + w)) (s_cnt S) = 6 := y2
    have ebr : bri (adS S (1 + w)) (s_cnt S) = 0 := by
      unfold bri
      refine sg_zero fun c hc2 => ?_
      rw [ewd] at hc2
      have : sm 12 (dk (s_co (adS S (1 + w)) (s_cnt S) c)) ≤ 12 * 0 := sm_le fun l hl2 => by
        have e : s_co (adS S (1 + w)) (s_cnt S) c l = 0 := y4 c l (by omega) hl2
        unfold dk
        rw [if_pos e]
        exact Nat.le_refl 0
      omega
    have ecv : cvN (s_wd (adS S (1 + w)) (s_cnt S)) (s_sp (adS S (1 + w)) (s_cnt S)) = 6 * (1 + w) := by
      rw [ewd, esp]
      unfold cvN
      split <;> omega
    have fin := hj (adS S (1 + w)) (pn n) (ph n h S) hok (by show 1 ≤ s_cnt S + 1; omega) rfl
    unfold PL_law_J14 PL_law_J15
    refine ⟨fun c => absurd rfl c, fun _ => ⟨fun _ => fin, fun _ => tA_picture0 hp ?_⟩⟩
    rw [ewd]
    refine ⟨fun c => absurd rfl c, fun _ => tA_picture2 hp ?_⟩
    rw [esp]
    refine ⟨fun c => absurd rfl c, fun _ => tA_picture4 hp ?_⟩
    show ((¬ nI (bri (adS S (1 + w)) (s_cnt S)) = 0 → _) ∧ (nI (bri (adS S (1 + w)) (s_cnt S)) = 0 → _))
    rw [ebr]
    refine ⟨fun c => absurd rfl c, fun _ => tA_picture5 hp ?_⟩
    rw [ecv, show (6 : Int32) = nI 6 from rfl, pk_mul]
    exact ⟨fun _ => fin, fun c => absurd rfl c⟩
  · unfold PL_law_J14 PL_law_J15
    exact ⟨fun c => absurd rfl c, fun _ => ⟨fun _ => hj S n h hS (by omega) rfl, fun c => absurd (by decide) c⟩⟩
/-- paint -/
theorem tL_paint {S : AS} {n : Nat} {h : Nat → AS} (hS : okS 5000 S) {p : Nat} (hp : p < s_cnt S) (y : Int32) {jt : VS → Prop} (hj : ∀ (S' : AS) n' h', okS 5000 S' → 1 ≤ s_cnt S' → s_tck S' = s_tck S → jt (S', n', h')) : PA_picture (S, n, h) (nI p) (0 : Int32) (fun r242_139 => PL_low y r242_139 (fun r245_140 => PL_low (y >>> ((6 : Int32) &&& 31)) (12 : Int32) (fun r257_141 => PL_low (y >>> ((10 : Int32) &&& 31)) (8 : Int32) (fun r269_142 => PA_color (S, n, h) (nI p) r245_140 r257_141 (fun r281_143 => PA_picture (S, n, h) (nI p) (4 : Int32) (fun r290_144 => PA_paint (S, n, h) (nI p) r245_140 r257_141 r269_142 (fun r304_145 V_146 => ((¬ r304_145 = r281_143 → False) ∧ (r304_145 = r281_143 → PA_color V_146 (nI p) r245_140 r257_141 (fun r319_148 => ((¬ r319_148 = r269_142 → False) ∧ (r319_148 = r269_142 → PA_picture V_146 (nI p) (4 : Int32) (fun r331_150 => ((r281_143 ≤ 0 → (PL_law_J11 y (nI p) jt r245_140 r257_141 r269_142 r281_143 r290_144 V_146 r331_150) (0 : Int32)) ∧ (¬ r281_143 ≤ 0 → (PL_law_J11 y (nI p) jt r245_140 r257_141 r269_142 r281_143 r290_144 V_146 r331_150) (1 : Int32)))))))))))))))) := by
  have hcnt := hS.1
  obtain ⟨q1, q2, q3, q4, q5, q6, q7⟩ := okQ_of hS hp
  refine tA_picture0 hp (tL_low (n := s_wd S p) (by omega) (by omega) (tL_low (n := 12) (by decide) (by decide) (tL_low (n := 8) (by decide) (by decide) ?_)))
  have l1 : lowN y (s_wd S p) < s_wd S p := lowN_lt (by omega)
  have l2 : lowN (y >>> ((6 : Int32) &&& 31)) 12 < 12 := lowN_lt (by decide)
  have l3 : lowN (y >>> ((10 : Int32) &&& 31)) 8 < 8 := lowN_lt (by decide)
  generalize lowN y (s_wd S p) = x at l1 ⊢
  generalize lowN (y >>> ((6 : Int32) &&& 31)) 12 = l at l2 ⊢
  generalize lowN (y >>> ((10 : Int32) &&& 31)) 8 = z at l3 ⊢
  refine tA_color hp l1 l2 (tA_picture4 hp (tA_paint hp l1 l2 l3 fun hok => ⟨fun c => absurd rfl c, fun _ => ?_⟩))
  have hp' : p < s_cnt (cdS S p x l z) := hp
  have l1' : x < s_wd (cdS S p x l z) p := l1
  have eco : s_co (cdS S p x l z) p x l = z := by
    show nu2 (s_co S) p x l z p x l = z
    rw [nu2_at, if_pos ⟨rfl, rfl, rfl⟩]
  have hco := q7 x l (by omega) l2
  have hbr := bri_paint (S := S) (p := p) (z := z) l1 l2
  have hb1 := bri_le S p
  have hb2 : bri (cdS S p x l z) p ≤ 12 * s_wd S p := bri_le (cdS S p x l z) p
  refine tA_color hp' l1' l2 ?_
  rw [eco]
  refine ⟨fun c => absurd rfl c, fun _ => tA_picture4 hp' ?_⟩
  have j12 : ∀ (a b : Nat), a ≤ 1 → b ≤ 1 → bri (cdS S p x l z) p + a = bri S p + b → PL_law_J12 y (nI p) jt (nI x) (nI l) (nI (s_co S p x l)) (nI (bri S p)) (act S n h (cdS S p x l z)) (nI (bri (cdS S p x l z) p)) (nI a) (nI b) := by
    intro a b ha hb2' hab
    have e : nI (bri (cdS S p x l z) p) = ((nI (bri S p) - nI a) + nI b) := by
      apply Int32.toInt_inj.mp
      rw [i_nI (by omega), i_add (i_sub (i_nI (n := bri S p) (by omega)) (i_nI (n := a) (by omega)) (by omega) (by omega)) (i_nI (n := b) (by omega)) (by omega) (by omega)]
      omega
    have fin1 := hj (cdS S p x l z) (pn n) (ph n h S) hok (by show 1 ≤ s_cnt S; omega) rfl
    unfold PL_law_J12 PL_law_J13
    refine ⟨fun c => absurd e c, fun _ => tL_low (n := 4) (by decide) (by decide) ⟨fun _ => fin1, fun _ => act_undo fun q hq => ⟨fun c => absurd c (nI_nlt (b := 0) (by omega) (by omega)), fun _ => tA_color hp l1 l2 ⟨fun _ => hj S _ _ hS (by omega) rfl, fun c => absurd rfl c⟩⟩⟩⟩
  have hz0 : nI z ≤ (0 : Int32) ↔ z ≤ 0 := nI_leI (b := 0) (by omega) (by omega)
  have hc0 : nI (s_co S p x l) ≤ (0 : Int32) ↔ s_co S p x l ≤ 0 := nI_leI (b := 0) (by omega) (by omega)
  have j11 : ∀ a : Nat, a = (if s_co S p x l = 0 then 0 else 1) → PL_law_J11 y (nI p) jt (nI x) (nI l) (nI z) (nI (s_co S p x l)) (nI (bri S p)) (act S n h (cdS S p x l z)) (nI (bri (cdS S p x l z) p)) (nI a) := by
    intro a ha
    have ha1 : a ≤ 1 := by rw [ha]; split <;> omega
    rw [← ha] at hbr
    unfold PL_law_J11
    refine ⟨fun c => j12 a 0 ha1 (by omega) ?_, fun c => j12 a 1 ha1 (by omega) ?_⟩ <;> rw [hz0] at c
    · rw [if_pos (by omega)] at hbr; exact hbr
    · rw [if_neg (by omega)] at hbr; exact hbr
  refine ⟨fun c => ?_, fun c => ?_⟩ <;> rw [hc0] at c
  · exact j11 0 (by rw [if_pos (by omega)])
  · exact j11 1 (by rw [if_neg (by omega)])
/-- setPlace -/
theorem tL_place {S : AS} {n : Nat} {h : Nat → AS} (hS : okS 5000 S) {p : Nat} (hp : p < s_cnt S) (y : Int32) {jt : VS → Prop} (hj : ∀ (S' : AS) n' h', okS 5000 S' → 1 ≤ s_cnt S' → s_tck S' = s_tck S → jt (S', n', h')) : PA_picture (S, n, h) (nI p) (1 : Int32) (fun r410_123 => PA_picture (S, n, h) (nI p) (0 : Int32) (fun r419_124 => PL_low (y >>> ((10 : Int32) &&& 31)) (18 : Int32) (fun r430_125 => (∀ v9_126 : Int32, v9_126 = (r419_124 * ((1 : Int32) + r430_125)) → PL_low y (720 : Int32) (fun r445_127 => PL_low (y >>> ((10 : Int32) &&& 31)) (18 : Int32) (fun r456_128 => PA_setPlace (S, n, h) (nI p) r445_127 ((1 : Int32) + r456_128) (fun r460_129 V_130 => ((¬ r460_129 = r410_123 → False) ∧ (r460_129 = r410_123 → PA_picture V_130 (nI p) (1 : Int32) (fun r472_132 => PL_low y (720 : Int32) (fun r480_133 => ((¬ r472_132 = r480_133 → False) ∧ (r472_132 = r480_133 → PA_picture V_130 (nI p) (5 : Int32) (fun r490_135 => ((v9_126 ≤ (720 : Int32) → (PL_law_J10 jt V_130 r490_135) v9_126) ∧ (¬ v9_126 ≤ (720 : Int32) → (PL_law_J10 jt V_130 r490_135) (720 : Int32))))))))))))))))) := by
  have hcnt := hS.1
  obtain ⟨q1, q2, q3, q4, q5, q6, q7⟩ := okQ_of hS hp
  refine tA_picture1 hp (tA_picture0 hp (tL_low (n := 18) (by decide) (by decide) ?_))
  intro v9 e9
  refine tL_low (n := 720) (by decide) (by decide) (tL_low (n := 18) (by decide) (by decide) ?_)
  have l1 : lowN y 720 < 720 := lowN_lt (by decide)
  have l2 : lowN (y >>> ((10 : Int32) &&& 31)) 18 < 18 := lowN_lt (by decide)
  have lk : ∀ k : Int32 → Prop, k (nI (lowN y 720)) → PL_low y (720 : Int32) k := fun k hk => tL_low (n := 720) (by decide) (by decide) hk
  generalize lowN (y >>> ((10 : Int32) &&& 31)) 18 = w at l2 e9 ⊢
  generalize lowN y 720 = x at l1 lk ⊢
  have ew : (1 : Int32) + nI w = nI (1 + w) := nI_add 1 w
  rw [ew, pk_mul] at e9
  rw [ew]
  refine tA_setPlace hp (by omega) (by omega) (by omega) fun hok => ⟨fun c => absurd rfl c, fun _ => ?_⟩
  have hp' : p < s_cnt (plS S p x (1 + w)) := hp
  have efs : s_fs (plS S p x (1 + w)) p = x := nu_s
  have esp : s_sp (plS S p x (1 + w)) p = 1 + w := nu_s
  have ewd : s_wd (plS S p x (1 + w)) p = s_wd S p := rfl
  have hm : s_wd S p * (1 + w) ≤ 40 * 18 := Nat.mul_le_mul q2 (by omega)
  refine tA_picture1 hp' ?_
  rw [efs]
  refine lk _ ⟨fun c => absurd rfl c, fun _ => tA_picture5 hp' ?_⟩
  rw [esp, ewd]
  have fin := hj (plS S p x (1 + w)) (pn n) (ph n h S) hok (by show 1 ≤ s_cnt S; omega) rfl
  subst e9
  have h7 : nI (s_wd S p * (1 + w)) ≤ (720 : Int32) ↔ s_wd S p * (1 + w) ≤ 720 := nI_leI (b := 720) (by omega) (by omega)
  unfold PL_law_J10
  refine ⟨fun c => ⟨fun _ => fin, fun c2 => absurd ?_ c2⟩, fun c => absurd (h7.mpr (by omega)) c⟩
  rw [h7] at c
  refine congrArg nI ?_
  unfold cvN
  split <;> omega
/-- setKind -/
theorem tL_kind {S : AS} {n : Nat} {h : Nat → AS} (hS : okS 5000 S) {p : Nat} (hp : p < s_cnt S) (y : Int32) {jt : VS → Prop} (hj : ∀ (S' : AS) n' h', okS 5000 S' → 1 ≤ s_cnt S' → s_tck S' = s_tck S → jt (S', n', h')) : PA_picture (S, n, h) (nI p) (3 : Int32) (fun r527_104 => PL_low (y >>> ((3 : Int32) &&& 31)) (720 : Int32) (fun r542_105 => PA_columnAt (S, n, h) (nI p) r542_105 (fun r545_106 => PL_low y (3 : Int32) (fun r553_107 => PA_setKind (S, n, h) (nI p) r553_107 (fun r563_108 V_109 => ((¬ r563_108 = r527_104 → False) ∧ (r563_108 = r527_104 → PA_picture V_109 (nI p) (3 : Int32) (fun r575_111 => ((r575_111 = r553_107 → PL_low (y >>> ((3 : Int32) &&& 31)) (720 : Int32) (fun r595_113 => PA_columnAt V_109 (nI p) r595_113 (fun r598_114 => (((2 : Int32) ≤ r527_104 → (PL_law_J8 jt V_109)) ∧ (¬ (2 : Int32) ≤ r527_104 → (((2 : Int32) ≤ r553_107 → (PL_law_J8 jt V_109)) ∧ (¬ (2 : Int32) ≤ r553_107 → ((¬ r545_106 = (-109 : Int32) → ((¬ r527_104 = r553_107 → PA_picture V_109 (nI p) (0 : Int32) (fun r650_121 => (PL_law_J9 r598_114 (PL_law_J8 jt V_109)) ((r650_121 - (1 : Int32)) - r545_106))) ∧ (r527_104 = r553_107 → (PL_law_J9 r598_114 (PL_law_J8 jt V_109)) r545_106))) ∧ (r545_106 = (-109 : Int32) → ((r598_114 = (-109 : Int32) → (PL_law_J8 jt V_109)) ∧ (¬ r598_114 = (-109 : Int32) → False))))))))))) ∧ (¬ r575_111 = r553_107 → False)))))))))) := by
  have hcnt := hS.1
  obtain ⟨q1, q2, q3, q4, q5, q6, q7⟩ := okQ_of hS hp
  refine tA_picture3 hp (tL_low (n := 720) (by decide) (by decide) ?_)
  have l1 : lowN (y >>> ((3 : Int32) &&& 31)) 720 < 720 := lowN_lt (by decide)
  have lk : ∀ k : Int32 → Prop, k (nI (lowN (y >>> ((3 : Int32) &&& 31)) 720)) → PL_low (y >>> ((3 : Int32) &&& 31)) (720 : Int32) k := fun k hk => tL_low (n := 720) (by decide) (by decide) hk
  generalize lowN (y >>> ((3 : Int32) &&& 31)) 720 = A at l1 lk ⊢
  have l2 : lowN y 3 < 3 := lowN_lt (by decide)
  have lk2 : ∀ k : Int32 → Prop, k (nI (lowN y 3)) → PL_low y (3 : Int32) k := fun k hk => tL_low (n := 3) (by decide) (by decide) hk
  generalize lowN y 3 = t at l2 lk2
  have hp' : p < s_cnt (kdS S p t) := hp
  have ekd : s_kd (kdS S p t) p = t := nu_s
  have ewd : s_wd (kdS S p t) p = s_wd S p := rfl
  have efs : s_fs (kdS S p t) p = s_fs S p := rfl
  have esp : s_sp (kdS S p t) p = s_sp S p := rfl
  have hk2 : (2 : Int32) ≤ nI (s_kd S p) ↔ 2 ≤ s_kd S p := nI_leI (a := 2) (by omega) (by omega)
  have ht2 : (2 : Int32) ≤ nI t ↔ 2 ≤ t := nI_leI (a := 2) (by omega) (by omega)
  have hkt : nI (s_kd S p) = nI t ↔ s_kd S p = t := nI_eq (by omega) (by omega)
  refine tA_columnAt hp l1 (fun c => lk2 _ (tA_setKind hp (by omega) fun hok => ⟨fun z => absurd rfl z, fun _ => tA_picture3 hp' ?_⟩)) (fun c => lk2 _ (tA_setKind hp (by omega) fun hok => ⟨fun z => absurd rfl z, fun _ => tA_picture3 hp' ?_⟩))
  · have fin := hj (kdS S p t) (pn n) (ph n h S) hok (by show 1 ≤ s_cnt S; omega) rfl
    rw [ekd]
    refine ⟨fun _ => lk _ (tA_columnAt hp' l1 ?_ ?_), fun z => absurd rfl z⟩
    · rw [ewd, efs, esp, ekd]
      intro _
      have h1 := clN_lt (kd := s_kd S p) c
      have h2 := clN_lt (kd := t) c
      have hne : ¬ nI (clN (s_wd S p) (s_fs S p) (s_sp S p) (s_kd S p) A) = (-109 : Int32) := by
        intro c4
        have hI := i_nI (n := clN (s_wd S p) (s_fs S p) (s_sp S p) (s_kd S p) A) (by omega)
        rw [c4] at hI
        have : (-109 : Int32).toInt = -109 := by decide
        omega
      unfold PL_law_J8 PL_law_J9
      refine ⟨fun _ => fin, fun c2 => ⟨fun _ => fin, fun c3 => ⟨fun _ => ⟨fun c4 => tA_picture0 hp' ?_, fun c4 => ?_⟩, fun c4 => absurd c4 hne⟩⟩⟩ <;> rw [hkt] at c4 <;> rw [hk2] at c2 <;> rw [ht2] at c3
      · rw [ewd, show (1 : Int32) = nI 1 from rfl, pk_sub q1, pk_sub (by omega)]
        refine ⟨fun _ => fin, fun c5 => absurd (congrArg nI ?_) c5⟩
        have hq := h1.2
        unfold clN
        generalize ofs A (s_fs S p) / s_sp S p = q at hq ⊢
        by_cases e1 : s_kd S p = 1
        · rw [if_neg (by omega), if_pos e1]; omega
        · rw [if_pos (by omega), if_neg e1]
      · refine ⟨fun _ => fin, fun c5 => absurd ?_ c5⟩
        rw [c4]
    · rw [ewd, efs, esp]
      intro z
      exact absurd c z
  · have fin := hj (kdS S p t) (pn n) (ph n h S) hok (by show 1 ≤ s_cnt S; omega) rfl
    rw [ekd]
    refine ⟨fun _ => lk _ (tA_columnAt hp' l1 ?_ ?_), fun z => absurd rfl z⟩
    · rw [ewd, efs, esp]
      intro z
      exact absurd z c
    · intro _
      unfold PL_law_J8
      exact ⟨fun _ => fin, fun _ => ⟨fun _ => fin, fun _ => ⟨fun z => absurd rfl z, fun _ => ⟨fun _ => fin, fun z => absurd rfl z⟩⟩⟩⟩
/-- set -/
theorem tL_J7 {S : AS} {n : Nat} {h : Nat → AS} (hS : okS 5000 S) {x : Nat} {t : Int32} (hx : x < 4) (hin : inG x t.toInt) {jt : VS → Prop} (hj : ∀ (S' : AS) n' h', okS 5000 S' → s_cnt S' = s_cnt S → s_tck S' = s_tck S → jt (S', n', h')) : PL_law_J7 (S, n, h) jt (nI x) t := by
  unfold PL_law_J7
  refine tA_setting hx fun r hr => tA_set hx hin fun hok r2 hr2 => ⟨fun c => absurd (Int32.toInt_inj.mp (hr2.trans hr.symm)) c, fun _ => tA_setting hx fun r3 hr3 => ?_⟩
  have e : s_stg (stS S x t.toInt) x = t.toInt := nu_s
  rw [e] at hr3
  exact ⟨fun _ => hj _ _ _ hok rfl rfl, fun c => absurd (Int32.toInt_inj.mp hr3) c⟩
theorem tL_set {S : AS} {n : Nat} {h : Nat → AS} (hS : okS 5000 S) (y : Int32) {jt : VS → Prop} (hj : ∀ (S' : AS) n' h', okS 5000 S' → s_cnt S' = s_cnt S → s_tck S' = s_tck S → jt (S', n', h')) : PL_low y (4 : Int32) (fun r676_89 => ((¬ r676_89 = 0 → ((¬ r676_89 = (1 : Int32) → ((¬ r676_89 = (2 : Int32) → PL_low (y >>> ((2 : Int32) &&& 31)) (99 : Int32) (fun r749_100 => (PL_law_J7 (S, n, h) jt r676_89) ((1 : Int32) + r749_100))) ∧ (r676_89 = (2 : Int32) → PL_low (y >>> ((2 : Int32) &&& 31)) (300 : Int32) (fun r735_101 => (PL_law_J7 (S, n, h) jt r676_89) ((1 : Int32) + r735_101))))) ∧ (r676_89 = (1 : Int32) → PL_low (y >>> ((2 : Int32) &&& 31)) (20 : Int32) (fun r714_102 => (PL_law_J7 (S, n, h) jt r676_89) ((1 : Int32) + r714_102))))) ∧ (r676_89 = 0 → PL_low (y >>> ((2 : Int32) &&& 31)) (121 : Int32) (fun r692_103 => (PL_law_J7 (S, n, h) jt r676_89) (r692_103 - (60 : Int32)))))) := by
  refine tL_low (n := 4) (by decide) (by decide) ?_
  have l1 : lowN y 4 < 4 := lowN_lt (by decide)
  generalize lowN y 4 = x at l1 ⊢
  have e0 : nI x = 0 ↔ x = 0 := nI_eq (b := 0) (by omega) (by omega)
  have e1 : nI x = (1 : Int32) ↔ x = 1 := nI_eq (b := 1) (by omega) (by omega)
  have e2 : nI x = (2 : Int32) ↔ x = 2 := nI_eq (b := 2) (by omega) (by omega)
  have up : ∀ {m w : Nat}, m < 1000 → w < m → ((1 : Int32) + nI w).toInt = 1 + (w : Int) := fun hm hw => i_add (show (1 : Int32).toInt = 1 by decide) (i_nI (by omega)) (by omega) (by omega)
  refine ⟨fun c0 => ⟨fun c1 => ⟨fun c2 => tL_low (n := 99) (by decide) (by decide) ?_, fun c2 => tL_low (n := 300) (by decide) (by decide) ?_⟩, fun c1 => tL_low (n := 20) (by decide) (by decide) ?_⟩, fun c0 => tL_low (n := 121) (by decide) (by decide) ?_⟩
  · rw [e0] at c0
    rw [e1] at c1
    rw [e2] at c2
    have l2 : lowN (y >>> ((2 : Int32) &&& 31)) 99 < 99 := lowN_lt (by decide)
    refine tL_J7 hS l1 ?_ hj
    rw [up (by omega) l2]
    unfold inG
    rw [if_neg c0, if_neg c1, if_neg c2]
    omega
  · rw [e2] at c2
    subst c2
    have l2 : lowN (y >>> ((2 : Int32) &&& 31)) 300 < 300 := lowN_lt (by decide)
    refine tL_J7 hS l1 ?_ hj
    rw [up (by omega) l2]
    show 1 ≤ _ ∧ _ ≤ (9999 : Int)
    omega
  · rw [e1] at c1
    subst c1
    have l2 : lowN (y >>> ((2 : Int32) &&& 31)) 20 < 20 := lowN_lt (by decide)
    refine tL_J7 hS l1 ?_ hj
    rw [up (by omega) l2]
    show 1 ≤ _ ∧ _ ≤ (20 : Int)
    omega
  · rw [e0] at c0
    subst c0
    have l2 : lowN (y >>> ((2 : Int32) &&& 31)) 121 < 121 := lowN_lt (by decide)
    refine tL_J7 hS l1 ?_ hj
    rw [i_sub (i_nI (n := lowN (y >>> ((2 : Int32) &&& 31)) 121) (by omega)) (show (60 : Int32).toInt = 60 by decide) (by omega) (by omega)]
    show (-60 : Int) ≤ _ ∧ _ ≤ (60 : Int)
    omega
/-- the second arm, and broken lights -/
theorem tL_arm {S : AS} {n : Nat} {h : Nat → AS} (hS : okS 5000 S) (y : Int32) {jt : VS → Prop} (hj : ∀ (S' : AS) n' h', okS 5000 S' → s_cnt S' = s_cnt S → s_tck S' = s_tck S → jt (S', n', h')) : PA_count (S, n, h) (7 : Int32) (fun r802_71 => PL_low y (2 : Int32) (fun r810_72 => PL_low (y >>> ((1 : Int32) &&& 31)) (12 : Int32) (fun r821_73 => PA_broken (S, n, h) r810_72 r821_73 (fun r831_74 => PL_low (y >>> ((5 : Int32) &&& 31)) (2 : Int32) (fun r842_75 => PA_setSecondArm (S, n, h) r842_75 (fun r845_76 V_77 => ((¬ r845_76 = r802_71 → False) ∧ (r845_76 = r802_71 → PA_count V_77 (7 : Int32) (fun r856_79 => PL_low (y >>> ((5 : Int32) &&& 31)) (2 : Int32) (fun r864_80 => ((¬ r856_79 = r864_80 → False) ∧ (r856_79 = r864_80 → PL_low (y >>> ((6 : Int32) &&& 31)) (2 : Int32) (fun r881_82 => PA_setBroken V_77 r810_72 r821_73 r881_82 (fun r884_83 V_84 => ((¬ r884_83 = r831_74 → False) ∧ (r884_83 = r831_74 → PA_broken V_84 r810_72 r821_73 (fun r897_86 => PL_low (y >>> ((6 : Int32) &&& 31)) (2 : Int32) (fun r906_87 => ((r897_86 = r906_87 → jt V_84) ∧ (¬ r897_86 = r906_87 → False)))))))))))))))))))) := by
  refine tA_count7 (tL_low (n := 2) (by decide) (by decide) (tL_low (n := 12) (by decide) (by decide) ?_))
  have l1 : lowN y 2 < 2 := lowN_lt (by decide)
  have l2 : lowN (y >>> ((1 : Int32) &&& 31)) 12 < 12 := lowN_lt (by decide)
  have l5 : lowN (y >>> ((5 : Int32) &&& 31)) 2 < 2 := lowN_lt (by decide)
  have l6 : lowN (y >>> ((6 : Int32) &&& 31)) 2 < 2 := lowN_lt (by decide)
  have lk5 : ∀ k : Int32 → Prop, k (nI (lowN (y >>> ((5 : Int32) &&& 31)) 2)) → PL_low (y >>> ((5 : Int32) &&& 31)) (2 : Int32) k := fun k hk => tL_low (n := 2) (by decide) (by decide) hk
  have lk6 : ∀ k : Int32 → Prop, k (nI (lowN (y >>> ((6 : Int32) &&& 31)) 2)) → PL_low (y >>> ((6 : Int32) &&& 31)) (2 : Int32) k := fun k hk => tL_low (n := 2) (by decide) (by decide) hk
  generalize lowN y 2 = a at l1 ⊢
  generalize lowN (y >>> ((1 : Int32) &&& 31)) 12 = l at l2 ⊢
  generalize lowN (y >>> ((5 : Int32) &&& 31)) 2 = e at l5 lk5
  generalize lowN (y >>> ((6 : Int32) &&& 31)) 2 = z at l6 lk6
  refine tA_broken l1 l2 (lk5 _ (tA_setSecondArm (by omega) fun hok => ⟨fun c => absurd rfl c, fun _ => tA_count7 (lk5 _ ⟨fun c => absurd rfl c, fun _ => lk6 _ (tA_setBroken l1 l2 (by omega) fun hok2 => ⟨fun c => absurd rfl c, fun _ => tA_broken l1 l2 (lk6 _ ?_)⟩)⟩)⟩))
  have ew : s_wk (wkS (seS S e) a l z) a l = 1 - z := by
    show nu (s_wk (seS S e)) a (nu (s_wk (seS S e) a) l (1 - z)) a l = 1 - z
    rw [nu_s, nu_s]
  rw [ew, show 1 - (1 - z) = z by omega]
  exact ⟨fun _ => hj _ _ _ hok2 rfl rfl, fun c => absurd rfl c⟩
/-- some ticks -/
theorem tL_J6 {S : AS} {n : Nat} {h : Nat → AS} (hS : okS 5000 S) (ht : s_tck S + 60 ≤ 5000) {m : Nat} (hm0 : 0 < m) (hm : m ≤ 60) (y : Int32) {jt : VS → Prop} (hj : ∀ (S' : AS) n' h', okS 5000 S' → s_cnt S' = s_cnt S → s_tck S' ≤ s_tck S + 60 → jt (S', n', h')) : PL_law_J6 (S, n, h) y jt (nI m) := by
  unfold PL_law_J6
  refine tL_low hm0 (by omega) ?_
  have l1 : lowN y m < m := lowN_lt hm0
  rw [show (1 : Int32) + nI (lowN y m) = nI (1 + lowN y m) from nI_add 1 _]
  refine tL_runs hS (by omega) (by omega) fun S' n' h' hok hc htk => ⟨fun _ => hj S' n' h' hok hc (by omega), fun c => absurd c (by decide)⟩
