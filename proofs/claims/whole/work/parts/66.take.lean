theorem tC_takeDigit {aw : Int32} {told num nst ch at' : Nat} {k : Int32 → Int32 → Int32 → Prop} (h1 : told ≤ 12) (h2 : num ≤ 12) (h3 : ch ≤ 255) (E1 : ¬ (48 ≤ ch ∧ ch ≤ 57) → ∀ a n, k (nI at') a n) (E2 : 48 ≤ ch ∧ ch ≤ 57 → ¬ (1 ≤ num * 10 + (ch - 48) ∧ told + (num * 10 + (ch - 48)) ≤ 12) → ∀ a n, k (nI nst) a n) (h0 : 48 ≤ ch ∧ ch ≤ 57 → (1 ≤ num * 10 + (ch - 48) ∧ told + (num * 10 + (ch - 48)) ≤ 12) → k (-1) (nI 2) (nI (num * 10 + (ch - 48)))) : PX1_takeDigit aw (nI told) (nI num) (nI nst) (nI ch) (nI at') k := by
  unfold PX1_takeDigit
  refine ⟨fun c => E1 ?_ _ _, fun c => ⟨fun c2 v ev => ?_, fun c2 => E1 ?_ _ _⟩⟩
  · rw [show (48 : Int32) = nI 48 from rfl, nI_ltI (by omega) (by omega)] at c
    omega
  · rw [show (48 : Int32) = nI 48 from rfl, nI_ltI (by omega) (by omega)] at c
    rw [show (57 : Int32) = nI 57 from rfl, nI_leI (by omega) (by omega)] at c2
    rw [show (48 : Int32) = nI 48 from rfl, pk_sub (by omega), show (10 : Int32) = nI 10 from rfl, pk_mul, nI_add] at ev
    subst ev
    have hc : 48 ≤ ch ∧ ch ≤ 57 := by omega
    refine ⟨fun c3 => E2 hc ?_ _ _, fun c3 => ⟨fun c4 => h0 hc ?_, fun c4 => E2 hc ?_ _ _⟩⟩
    · rw [show (1 : Int32) = nI 1 from rfl, nI_ltI (by omega) (by omega)] at c3
      omega
    · rw [show (1 : Int32) = nI 1 from rfl, nI_ltI (by omega) (by omega)] at c3
      rw [nI_add, show (12 : Int32) = nI 12 from rfl, nI_leI (by omega) (by omega)] at c4
      omega
    · rw [nI_add, show (12 : Int32) = nI 12 from rfl, nI_leI (by omega) (by omega)] at c4
      omega
  · rw [show (57 : Int32) = nI 57 from rfl, nI_leI (by omega) (by omega)] at c2
    omega
theorem rst_ok {q : RQ} {ch at' : Nat} (hq : okR q) (hch : ch ≤ 255) (hat : at' ≤ 1000) (h : (rst q ch at').1 = 0) : okR (rst q ch at').2 := by
  obtain ⟨⟨o1, o1'⟩, o2, o3, o4, o5, o6⟩ := id hq
  have C : ∀ n, (tkC q ch at' n).1 = 0 → okR (tkC q ch at' n).2 := by
    intro n hn
    unfold tkC at hn ⊢
    by_cases z : 48 ≤ ch ∧ ch ≤ 55 ∧ q.2.2.1 + n ≤ 12
    · rw [if_pos z]
      exact ⟨⟨o1, o1'⟩, by show 0 ≤ 4; omega, z.2.2, o4, o5, colD_ok o6 (by omega)⟩
    · rw [if_neg z] at hn
      exact absurd hn (by show ¬ at' + 1 = 0; omega)
  have D : ∀ num nst, nst ≤ 1000 → (tkD q ch at' num nst).1 = 0 → okR (tkD q ch at' num nst).2 := by
    intro num nst hnst hn
    unfold tkD at hn ⊢
    by_cases z : 48 ≤ ch ∧ ch ≤ 57
    · rw [if_pos z] at hn ⊢
      by_cases y : 1 ≤ num * 10 + (ch - 48) ∧ q.2.2.1 + (num * 10 + (ch - 48)) ≤ 12
      · rw [if_pos y]
        exact ⟨⟨o1, o1'⟩, by show 2 ≤ 4; omega, o3, by show num * 10 + (ch - 48) ≤ 12; omega, hnst, o6⟩
      · rw [if_neg y] at hn
        exact absurd hn (by show ¬ nst + 1 = 0; omega)
    · rw [if_neg z] at hn
      exact absurd hn (by show ¬ at' + 1 = 0; omega)
  have B : (tkB q ch at').1 = 0 → okR (tkB q ch at').2 := by
    intro hn
    unfold tkB at hn ⊢
    by_cases z : ch = 41
    · rw [if_pos z]
      exact ⟨⟨o1, o1'⟩, by show 4 ≤ 4; omega, o3, o4, o5, o6⟩
    · rw [if_neg z] at hn
      exact absurd hn (by show ¬ at' + 1 = 0; omega)
  unfold rst at h ⊢
  by_cases c0 : ch = 32
  · rw [if_pos c0]
    exact ⟨⟨o1, o1'⟩, by show (if q.2.1 = 2 then 3 else q.2.1) ≤ 4; split <;> omega, o3, o4, o5, o6⟩
  rw [if_neg c0] at h ⊢
  by_cases a1 : q.2.1 = 1
  · rw [if_pos a1] at h ⊢; exact D _ _ hat h
  rw [if_neg a1] at h ⊢
  by_cases a2 : q.2.1 = 2
  · rw [if_pos a2] at h ⊢
    by_cases z : ch = 41
    · rw [if_pos z] at h ⊢; exact B h
    · rw [if_neg z] at h ⊢; exact D _ _ o5 h
  rw [if_neg a2] at h ⊢
  by_cases a3 : q.2.1 = 3
  · rw [if_pos a3] at h ⊢; exact B h
  rw [if_neg a3] at h ⊢
  by_cases a4 : q.2.1 = 4
  · rw [if_pos a4] at h ⊢; exact C _ h
  rw [if_neg a4] at h ⊢
  by_cases z : ch = 59
  · rw [if_pos z] at h ⊢
    unfold tkS at h ⊢
    by_cases y : q.1 < 40
    · rw [if_pos y]
      exact ⟨⟨by show 1 ≤ q.1 + 1; omega, by show q.1 + 1 ≤ 40; omega⟩, o2, by show 0 ≤ 12; omega, o4, o5, o6⟩
    · rw [if_neg y] at h
      exact absurd h (by show ¬ at' + 1 = 0; omega)
  rw [if_neg z] at h ⊢
  by_cases y : ch = 40
  · rw [if_pos y]
    exact ⟨⟨o1, o1'⟩, by show 1 ≤ 4; omega, o3, o4, o5, o6⟩
  rw [if_neg y] at h ⊢
  exact C _ h
theorem tC_take {q : RQ} {cols : Nat → Int64} {cc aw told num nst : Int32} {ch at' : Nat} {k : Int32 → (Nat → Int64) → Int32 → Int32 → Int32 → Int32 → Int32 → Prop} (hq : okR q) (hR : RC q cols cc aw told num nst) (hch : ch ≤ 255) (hat : at' ≤ 1000)
    (hE : ∀ e, (rst q ch at').1 = e + 1 → ∀ c cc a t nu ns, k (nI e) c cc a t nu ns) (h0 : (rst q ch at').1 = 0 → ∀ c cc a t nu ns, RC (rst q ch at').2 c cc a t nu ns → k (-1) c cc a t nu ns) : PX1_take cols cc aw told num nst (nI ch) (nI at') k := by
  obtain ⟨⟨o1, o1'⟩, o2, o3, o4, o5, o6⟩ := id hq
  obtain ⟨r1, r2, r3, r4, r5⟩ := hR
  subst r2 r3 r4
  have ich : ∀ {x : Nat}, x < 1000 → (nI ch = nI x ↔ ch = x) := fun hx => nI_eq (by omega) (by omega)
  have iaw : ∀ {x : Nat}, x < 1000 → (nI q.2.1 = nI x ↔ q.2.1 = x) := fun hx => nI_eq (by omega) (by omega)
  have aI : (nI q.2.1).toInt = (q.2.1 : Int) := i_nI (by omega)
  have B : ∀ (K : Int32 → Int32 → Prop), (ch = 41 → K (-1) (nI 4)) → (ch ≠ 41 → ∀ a, K (nI at') a) → PX1_takeBracket (nI q.2.1) (nI ch) (nI at') K := by
    intro K b1 b2
    unfold PX1_takeBracket
    exact ⟨fun c => b1 ((ich (x := 41) (by omega)).mp c), fun c => b2 (fun z => c ((ich (x := 41) (by omega)).mpr z)) _⟩
  unfold PX1_take PX1_take_J1
  refine ⟨fun c0 => ?_, fun c0 => ?_⟩
  · have d0 : ¬ ch = 32 := fun z => c0 ((ich (x := 32) (by omega)).mpr z)
    unfold rst at hE h0
    rw [if_neg d0] at hE h0
    refine ⟨fun c1 => ?_, fun c1 => ?_, fun c1 => ?_, fun c1 => ?_, fun c1 => ?_⟩
    · have a0 : q.2.1 = 0 := by rw [aI] at c1; omega
      rw [if_neg (by omega), if_neg (by omega), if_neg (by omega), if_neg (by omega)] at hE h0
      unfold PX1_takePart
      refine ⟨fun c2 => ⟨fun c3 => ?_, fun c3 => ?_⟩, fun c2 => ?_⟩
      · have d2 : ¬ ch = 59 := fun z => c2 ((ich (x := 59) (by omega)).mpr z)
        have d3 : ¬ ch = 40 := fun z => c3 ((ich (x := 40) (by omega)).mpr z)
        rw [if_neg d2, if_neg d3] at hE h0
        unfold tkC at hE h0
        refine tC_takeColor (n := 1) hq r1 hch (by omega) (fun y c a t => ?_) (fun y c' hc' => ?_)
        · rw [if_neg y] at hE
          exact hE at' rfl _ _ _ _ _ _
        · rw [if_pos y] at h0
          exact h0 rfl _ _ _ _ _ _ ⟨hc', rfl, rfl, rfl, fun z => absurd rfl z⟩
      · have d3 : ch = 40 := (ich (x := 40) (by omega)).mp c3
        rw [if_neg (by omega), if_pos d3] at h0
        exact h0 rfl _ _ _ _ _ _ ⟨r1, rfl, rfl, rfl, fun _ z => absurd rfl z⟩
      · have d2 : ch = 59 := (ich (x := 59) (by omega)).mp c2
        rw [if_pos d2] at hE h0
        unfold PX1_takeSemicolon
        unfold tkS at hE h0
        refine ⟨fun c3 v ev => ?_, fun c3 => ?_⟩ <;> rw [show (40 : Int32) = nI 40 from rfl, nI_ltI (by omega) (by omega)] at c3
        · rw [if_pos c3] at h0
          rw [nI_1] at ev
          exact h0 rfl _ _ _ _ _ _ ⟨r1, ev, rfl, rfl, fun z => absurd a0 z⟩
        · rw [if_neg c3] at hE
          exact hE at' rfl _ _ _ _ _ _
    · have a1 : q.2.1 = 1 := (iaw (x := 1) (by omega)).mp c1
      rw [if_pos a1] at hE h0
      unfold tkD at hE h0
      refine tC_takeDigit (num := 0) o3 (by omega) hch (fun y a n => ?_) (fun y y2 a n => ?_) (fun y y2 => ?_)
      · rw [if_neg y] at hE
        exact hE at' rfl _ _ _ _ _ _
      · rw [if_pos y, if_neg y2] at hE
        exact hE at' rfl _ _ _ _ _ _
      · rw [if_pos y, if_pos y2] at h0
        exact h0 rfl _ _ _ _ _ _ ⟨r1, rfl, rfl, rfl, fun _ _ => ⟨rfl, rfl⟩⟩
    · have a2 : q.2.1 = 2 := (iaw (x := 2) (by omega)).mp c1
      obtain ⟨f1, f2⟩ := r5 (by omega) (by omega)
      subst f1 f2
      rw [if_neg (by omega), if_pos a2] at hE h0
      refine ⟨fun c2 => ?_, fun c2 => ?_⟩
      · have d2 : ¬ ch = 41 := fun z => c2 ((ich (x := 41) (by omega)).mpr z)
        rw [if_neg d2] at hE h0
        unfold tkD at hE h0
        refine tC_takeDigit o3 o4 hch (fun y a n => ?_) (fun y y2 a n => ?_) (fun y y2 => ?_)
        · rw [if_neg y] at hE
          exact hE at' rfl _ _ _ _ _ _
        · rw [if_pos y, if_neg y2] at hE
          exact hE _ rfl _ _ _ _ _ _
        · rw [if_pos y, if_pos y2] at h0
          exact h0 rfl _ _ _ _ _ _ ⟨r1, rfl, rfl, rfl, fun _ _ => ⟨rfl, rfl⟩⟩
      · have d2 : ch = 41 := (ich (x := 41) (by omega)).mp c2
        rw [if_pos d2] at hE h0
        unfold tkB at hE h0
        refine B _ (fun y => ?_) (fun y => absurd d2 y)
        rw [if_pos y] at h0
        exact h0 rfl _ _ _ _ _ _ ⟨r1, rfl, rfl, rfl, fun _ _ => ⟨rfl, rfl⟩⟩
    · have a3 : q.2.1 = 3 := (iaw (x := 3) (by omega)).mp c1
      obtain ⟨f1, f2⟩ := r5 (by omega) (by omega)
      subst f1 f2
      rw [if_neg (by omega), if_neg (by omega), if_pos a3] at hE h0
      unfold tkB at hE h0
      refine B _ (fun y => ?_) (fun y a => ?_)
      · rw [if_pos y] at h0
        exact h0 rfl _ _ _ _ _ _ ⟨r1, rfl, rfl, rfl, fun _ _ => ⟨rfl, rfl⟩⟩
      · rw [if_neg y] at hE
        exact hE at' rfl _ _ _ _ _ _
    · have a4 : q.2.1 = 4 := (iaw (x := 4) (by omega)).mp c1
      obtain ⟨f1, f2⟩ := r5 (by omega) (by omega)
      subst f1 f2
      rw [if_neg (by omega), if_neg (by omega), if_neg (by omega), if_pos a4] at hE h0
      unfold tkC at hE h0
      refine tC_takeColor hq r1 hch o4 (fun y c a t => ?_) (fun y c' hc' => ?_)
      · rw [if_neg y] at hE
        exact hE at' rfl _ _ _ _ _ _
      · rw [if_pos y] at h0
        exact h0 rfl _ _ _ _ _ _ ⟨hc', rfl, rfl, rfl, fun z => absurd rfl z⟩
  · have d0 : ch = 32 := (ich (x := 32) (by omega)).mp c0
    unfold rst at h0
    rw [if_pos d0] at h0
    refine ⟨fun c1 => ?_, fun c1 => ?_⟩
    · have a2 : ¬ q.2.1 = 2 := fun z => c1 ((iaw (x := 2) (by omega)).mpr z)
      rw [if_neg a2] at h0
      exact h0 rfl _ _ _ _ _ _ ⟨r1, rfl, rfl, rfl, r5⟩
    · have a2 : q.2.1 = 2 := (iaw (x := 2) (by omega)).mp c1
      rw [if_pos a2] at h0
      obtain ⟨f1, f2⟩ := r5 (by omega) (by omega)
      exact h0 rfl _ _ _ _ _ _ ⟨r1, rfl, rfl, rfl, fun _ _ => ⟨f1, f2⟩⟩
