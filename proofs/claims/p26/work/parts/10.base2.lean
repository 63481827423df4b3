abbrev StC : Type := Int32 × Int32 × Int32 × Int32 × Int32 × Int32 × (Nat → Int32) × (Nat → Int64) × (Nat → Int64) × (Nat → Int32) × (Nat → Int32) × (Nat → Int32) × (Nat → Int32) × (Nat → Int32) × (Nat → Nat → Int64)
def wSt (g : GG) (q : Nat → Nat) (u : StC) : va_W := wS g q u.1 u.2.1 u.2.2.1 u.2.2.2.1 u.2.2.2.2.1 u.2.2.2.2.2.1 u.2.2.2.2.2.2.1 u.2.2.2.2.2.2.2.1 u.2.2.2.2.2.2.2.2.1 u.2.2.2.2.2.2.2.2.2.1 u.2.2.2.2.2.2.2.2.2.2.1 u.2.2.2.2.2.2.2.2.2.2.2.1 u.2.2.2.2.2.2.2.2.2.2.2.2.1 u.2.2.2.2.2.2.2.2.2.2.2.2.2.1 u.2.2.2.2.2.2.2.2.2.2.2.2.2.2
def wH (g : GG) (hq : Nat → Nat → Nat) (hist : Nat → StC) : va_W := wSt g (hq 0) (hist 0) ++ (wSt g (hq 1) (hist 1) ++ (wSt g (hq 2) (hist 2) ++ (wSt g (hq 3) (hist 3) ++ wSt g (hq 4) (hist 4))))
/-! the two tables of LightWheel, that nobody writes -/
def tabLO (j : Nat) : Int32 := if j = 0 then (-60 : Int32) else (1 : Int32)
def tabHI (j : Nat) : Int32 := if j = 0 then (60 : Int32) else if j = 1 then (20 : Int32) else if j = 2 then (9999 : Int32) else (99 : Int32)
def ST (A : Nat → Prop) (U : State) : Prop := ∃ t0 t1 : Nat, va_Z "LightWheel" "LOWEST" "[I" (.ref t0) A U U.heap ∧ va_T .int t0 4 (fun j => .int (tabLO j)) A U U.heap ∧ va_Z "LightWheel" "HIGHEST" "[I" (.ref t1) A U U.heap ∧ va_T .int t1 4 (fun j => .int (tabHI j)) A U U.heap
theorem ST.calling {A : Nat → Prop} {U : State} {f : JFrame} {mk : MethodId} {a : Array Value} (h : ST A U) : ST A (U.calling f mk a) := by
  obtain ⟨t0, t1, h1, h2, h3, h4⟩ := h
  exact ⟨t0, t1, va_Z.moved (U := U.calling f mk a) (Vm.Alike.refl U.vm) h1, va_T.moved (U := U.calling f mk a) (Vm.Alike.refl U.vm) h2, va_Z.moved (U := U.calling f mk a) (Vm.Alike.refl U.vm) h3, va_T.moved (U := U.calling f mk a) (Vm.Alike.refl U.vm) h4⟩
/-- before a method that writes and reads the tables -/
def PreMS (g : GG) (av : List Value) (ws : va_W) (sz : Nat) : Array Value → State → Prop := va_Pc av (fun U => U.heap.size = sz ∧ va_P g.1 vwCl ws U.heap ∧ KK g U ∧ va_D (fun _ => True) ws ∧ ST (va_A ws sz) U)
theorem PreMS_blind {g : GG} {av : List Value} {ws : va_W} {sz : Nat} : FrameBlind (PreMS g av ws sz) := fun _ _ _ _ h => ⟨h.1, h.2.1, h.2.2.1, h.2.2.2.1.calling, h.2.2.2.2.1, h.2.2.2.2.2.calling⟩
theorem Met_ofWF {l : Launch} {y : MethodName} {ws ws' : List Cond} {rm : Room} {Pc : Array Value → State → Prop} {Qc : Array Value → State → Outcome → State → Prop} {mc ms : Nat} {free : Addr → Prop} {cc : ByteArray} {maxL : Nat} {ret : Option FieldType}
    (hy : plainFor y = true) (hw : ws = Cond.code y cc maxL ret :: ws')
    (body : ∀ p e s m args below meth c s₁, BodyLoose p l y (headSpec ws rm) cc maxL ret e s m args below meth c s₁ → c.maxLocals = maxL → Pc args s →
      W p l e (headSpec ws rm).room s m args below meth c s.heap [] 0 0 (MQ below Qc args s mc ms free) (entryFrame m args maxL)) : Met l y ws rm Pc Qc mc ms free := by
  refine MetFree.of_bodySF (code := cc) (maxLocals := maxL) (ret := ret) hy ?_ ?_
  · intro args s m h hn
    obtain ⟨meth, c, h1, h2, h3, h4, h5, h6, -, -⟩ := Cond.code_spec hn (atoms_spec (ws := ws) h _ (by rw [hw]; exact List.mem_cons_self))
    exact ⟨meth, c, h1, h2, h3, h4, h5, h6⟩
  · intro p e s m args below meth c s₁ B hml hP _
    have hh0 : s₁.heap = s.heap := by rw [B.state]; rfl
    obtain ⟨t, a1, o, b1, b2, b3⟩ := body p e s m args below meth c s₁ B hml hP s₁ hh0 (Stand.of_body B)
    exact ⟨t, o, a1, b1, b2, ⟨b3.1, b3.2⟩⟩
/-! worlds as sets of cells: parts in any order -/
theorem wp_iff {D : va_G} {cl : List vw_C} {ws : va_W} {H : Heap} : va_P D cl ws H ↔ ∀ q ∈ ws, va_at D cl q H :=
  ⟨fun h q hq => (List.getElem?_of_mem hq).elim fun k hk => h k q hk, fun h k q hk => h q (List.mem_of_getElem? hk)⟩
theorem wd_iff {A : Nat → Prop} {ws : va_W} : va_D A ws ↔ (ws.map Prod.fst).Nodup ∧ ∀ q ∈ ws, A q.1 := by
  constructor
  · intro h
    refine ⟨?_, fun q hq => (List.getElem?_of_mem hq).elim fun k hk => h.2 k q hk⟩
    rw [List.Nodup, List.pairwise_iff_getElem]
    intro i j hi hj hij e
    rw [List.length_map] at hi hj
    rw [List.getElem_map, List.getElem_map] at e
    have := h.1 i j ws[i] ws[j] (List.getElem?_eq_getElem hi) (List.getElem?_eq_getElem hj) e
    omega
  · rintro ⟨h1, h2⟩
    refine ⟨fun i j p q hi hj e => ?_, fun k q hk => h2 q (List.mem_of_getElem? hk)⟩
    rw [List.Nodup, List.pairwise_iff_getElem] at h1
    obtain ⟨li, ei⟩ := List.getElem?_eq_some_iff.mp hi
    obtain ⟨lj, ej⟩ := List.getElem?_eq_some_iff.mp hj
    rcases Nat.lt_trichotomy i j with h | h | h
    · have := h1 i j (by rw [List.length_map]; exact li) (by rw [List.length_map]; exact lj) h
      rw [List.getElem_map, List.getElem_map, ei, ej] at this
      exact absurd e this
    · exact h
    · have := h1 j i (by rw [List.length_map]; exact lj) (by rw [List.length_map]; exact li) h
      rw [List.getElem_map, List.getElem_map, ei, ej] at this
      exact absurd e.symm this
theorem wp_part {D : va_G} {cl : List vw_C} {ws wr wc : va_W} {H : Heap} (h : va_P D cl ws H) (hp : ws.Perm (wr ++ wc)) : va_P D cl wc H :=
  wp_iff.mpr fun q hq => wp_iff.mp h q (hp.mem_iff.mpr (List.mem_append_right _ hq))
theorem wd_part {A : Nat → Prop} {ws wr wc : va_W} (h : va_D A ws) (hp : ws.Perm (wr ++ wc)) : va_D A wc := by
  obtain ⟨h1, h2⟩ := wd_iff.mp h
  refine wd_iff.mpr ⟨?_, fun q hq => h2 q (hp.mem_iff.mpr (List.mem_append_right _ hq))⟩
  have := (hp.map Prod.fst).nodup_iff.mp h1
  rw [List.map_append] at this
  exact (List.nodup_append.mp this).2.1
theorem wf_part {A0 : Nat → Prop} {ws wr wc : va_W} {H0 H : Heap} {locs : List Loc} (hD : va_D A0 ws) (hS : va_S A0 H0 H locs) (hA : ∀ q, H0.size ≤ q → A0 q) (hp : ws.Perm (wr ++ wc)) : ∀ q, va_A wc H.size q → A0 q :=
  va_freeA (wd_part hD hp) hS hA
theorem jnP {g : GG} {A0 : Nat → Prop} {ws wc wr wf wz : va_W} {H H1 : Heap} {t : State} (hP : va_P g.1 vwCl ws H) (hD : va_D A0 ws) (hp : ws.Perm (wr ++ wc)) (hz : (wr ++ wf).Perm wz)
    (hk : ∀ q : Nat, q < H.size → ¬ va_A wc H.size q → H1[q]? = H[q]?) (hF : ∀ q, va_A wc H.size q → A0 q) (hB : PostB g (va_A wc H.size) wf t) (ht : t.heap = H1) : va_P g.1 vwCl wz H1 ∧ va_D A0 wz := by
  subst ht
  obtain ⟨d1, d2⟩ := wd_iff.mp hD
  have d3 := (hp.map Prod.fst).nodup_iff.mp d1
  rw [List.map_append, List.nodup_append] at d3
  obtain ⟨e1, e2⟩ := wd_iff.mp hB.2
  have apart : ∀ q ∈ wr, q.1 < H.size ∧ ¬ va_A wc H.size q.1 := by
    intro q hq
    have hl := (wp_iff.mp hP q (hp.mem_iff.mpr (List.mem_append_left _ hq))).lt
    refine ⟨hl, fun h => ?_⟩
    rcases h with ⟨k, e, h⟩ | h
    · exact d3.2.2 q.1 (List.mem_map.mpr ⟨q, hq, rfl⟩) q.1 (List.mem_map.mpr ⟨(q.1, e), List.mem_of_getElem? h, rfl⟩) rfl
    · omega
  refine ⟨wp_iff.mpr fun q hq => ?_, wd_iff.mpr ⟨(hz.map Prod.fst).nodup_iff.mp ?_, fun q hq => ?_⟩⟩
  · rcases List.mem_append.mp (hz.mem_iff.mpr hq) with h | h
    · exact (wp_iff.mp hP q (hp.mem_iff.mpr (List.mem_append_left _ h))).kept (hk q.1 (apart q h).1 (apart q h).2)
    · exact wp_iff.mp hB.1 q h
  · rw [List.map_append, List.nodup_append]
    refine ⟨d3.1, e1, fun x hx y hy hxy => ?_⟩
    obtain ⟨q, hq, rfl⟩ := List.mem_map.mp hx
    obtain ⟨r, hr, rfl⟩ := List.mem_map.mp hy
    exact (apart q hq).2 (by rw [hxy]; exact e2 r hr)
  · rcases List.mem_append.mp (hz.mem_iff.mpr hq) with h | h
    · exact d2 q (hp.mem_iff.mpr (List.mem_append_left _ h))
    · exact hF q.1 (e2 q h)
theorem pmI0 {α : Type} (a b c d s0 s1 s2 s3 s4 : List α) : (a ++ (b ++ (c ++ (d ++ (s0 ++ (s1 ++ (s2 ++ (s3 ++ (s4))))))))).Perm ((a ++ (b ++ (c ++ (s1 ++ (s2 ++ (s3 ++ (s4))))))) ++ (s0 ++ d)) := by
  classical
  rw [List.perm_iff_count]
  intro x
  simp only [List.count_append]
  omega
theorem pmO0 {α : Type} (a b c d s0 s1 s2 s3 s4 : List α) : (a ++ (b ++ (c ++ (d ++ (s0 ++ (s1 ++ (s2 ++ (s3 ++ (s4))))))))).Perm ((a ++ (b ++ (c ++ (s1 ++ (s2 ++ (s3 ++ (s4))))))) ++ (d ++ s0)) := by
  classical
  rw [List.perm_iff_count]
  intro x
  simp only [List.count_append]
  omega
theorem pmI1 {α : Type} (a b c d s0 s1 s2 s3 s4 : List α) : (a ++ (b ++ (c ++ (d ++ (s0 ++ (s1 ++ (s2 ++ (s3 ++ (s4))))))))).Perm ((a ++ (b ++ (c ++ (s0 ++ (s2 ++ (s3 ++ (s4))))))) ++ (s1 ++ d)) := by
  classical
  rw [List.perm_iff_count]
  intro x
  simp only [List.count_append]
  omega
theorem pmO1 {α : Type} (a b c d s0 s1 s2 s3 s4 : List α) : (a ++ (b ++ (c ++ (d ++ (s0 ++ (s1 ++ (s2 ++ (s3 ++ (s4))))))))).Perm ((a ++ (b ++ (c ++ (s0 ++ (s2 ++ (s3 ++ (s4))))))) ++ (d ++ s1)) := by
  classical
  rw [List.perm_iff_count]
  intro x
  simp only [List.count_append]
  omega
theorem pmI2 {α : Type} (a b c d s0 s1 s2 s3 s4 : List α) : (a ++ (b ++ (c ++ (d ++ (s0 ++ (s1 ++ (s2 ++ (s3 ++ (s4))))))))).Perm ((a ++ (b ++ (c ++ (s0 ++ (s1 ++ (s3 ++ (s4))))))) ++ (s2 ++ d)) := by
  classical
  rw [List.perm_iff_count]
  intro x
  simp only [List.count_append]
  omega
theorem pmO2 {α : Type} (a b c d s0 s1 s2 s3 s4 : List α) : (a ++ (b ++ (c ++ (d ++ (s0 ++ (s1 ++ (s2 ++ (s3 ++ (s4))))))))).Perm ((a ++ (b ++ (c ++ (s0 ++ (s1 ++ (s3 ++ (s4))))))) ++ (d ++ s2)) := by
  classical
  rw [List.perm_iff_count]
  intro x
  simp only [List.count_append]
  omega
theorem pmI3 {α : Type} (a b c d s0 s1 s2 s3 s4 : List α) : (a ++ (b ++ (c ++ (d ++ (s0 ++ (s1 ++ (s2 ++ (s3 ++ (s4))))))))).Perm ((a ++ (b ++ (c ++ (s0 ++ (s1 ++ (s2 ++ (s4))))))) ++ (s3 ++ d)) := by
  classical
  rw [List.perm_iff_count]
  intro x
  simp only [List.count_append]
  omega
theorem pmO3 {α : Type} (a b c d s0 s1 s2 s3 s4 : List α) : (a ++ (b ++ (c ++ (d ++ (s0 ++ (s1 ++ (s2 ++ (s3 ++ (s4))))))))).Perm ((a ++ (b ++ (c ++ (s0 ++ (s1 ++ (s2 ++ (s4))))))) ++ (d ++ s3)) := by
  classical
  rw [List.perm_iff_count]
  intro x
  simp only [List.count_append]
  omega
theorem pmI4 {α : Type} (a b c d s0 s1 s2 s3 s4 : List α) : (a ++ (b ++ (c ++ (d ++ (s0 ++ (s1 ++ (s2 ++ (s3 ++ (s4))))))))).Perm ((a ++ (b ++ (c ++ (s0 ++ (s1 ++ (s2 ++ (s3))))))) ++ (s4 ++ d)) := by
  classical
  rw [List.perm_iff_count]
  intro x
  simp only [List.count_append]
  omega
theorem pmO4 {α : Type} (a b c d s0 s1 s2 s3 s4 : List α) : (a ++ (b ++ (c ++ (d ++ (s0 ++ (s1 ++ (s2 ++ (s3 ++ (s4))))))))).Perm ((a ++ (b ++ (c ++ (s0 ++ (s1 ++ (s2 ++ (s3))))))) ++ (d ++ s4)) := by
  classical
  rw [List.perm_iff_count]
  intro x
  simp only [List.count_append]
  omega
