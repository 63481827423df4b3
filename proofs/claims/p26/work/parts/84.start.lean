theorem KK_start {s : State} {b : Nat} (hts : ∀ w ∈ lw_tbl, w.before #[Value.ref b] s = true) : ∃ g : GG, KK g s := by
  obtain ⟨c0, i0, k0⟩ := u_known (C := RX0) (T := TX0) (N := 5) (n := 5) hts inX0 (hts (.instantiable RX0 5) (by decide +kernel))
  obtain ⟨c1, i1, k1⟩ := u_known (C := RX1) (T := TX1) (N := 6) (n := 6) hts inX1 (hts (.instantiable RX1 6) (by decide +kernel))
  obtain ⟨c2, i2, k2⟩ := u_known (C := RX2) (T := TX2) (N := 11) (n := 11) hts inX2 (hts (.instantiable RX2 11) (by decide +kernel))
  obtain ⟨c3, i3, k3⟩ := u_known (C := RX3) (T := TX3) (N := 11) (n := 11) hts inX3 (hts (.instantiable RX3 11) (by decide +kernel))
  obtain ⟨c4, i4, k4⟩ := u_known (C := RX4) (T := TX4) (N := 9) (n := 9) hts inX4 (hts (.instantiable RX4 9) (by decide +kernel))
  obtain ⟨a0, ka0, co0, f0, g0, h0⟩ := Cond.arrayClass_spec (hts (.arrayClass .int) (by decide +kernel))
  obtain ⟨a1, ka1, co1, f1, g1, h1⟩ := Cond.arrayClass_spec (hts (.arrayClass .long) (by decide +kernel))
  obtain ⟨a2, ka2, co2, f2, g2, h2⟩ := Cond.arrayClass_spec (hts (.arrayClass .char) (by decide +kernel))
  have ho3 := hts (.arrayOver (.object RX0)) (by decide +kernel)
  have ho4 := hts (.arrayOver (.object RX2)) (by decide +kernel)
  obtain ⟨co3, a3, ka3, e3, -, g3, h3, f3⟩ := Cond.arrayOver_spec ho3
  obtain ⟨co4, a4, ka4, e4, -, g4, h4, f4⟩ := Cond.arrayOver_spec ho4
  refine ⟨((fun k => if k = 0 then c0 else if k = 1 then c1 else if k = 2 then c2 else if k = 3 then c3 else c4, fun k => if k = 0 then i0 else if k = 1 then i1 else if k = 2 then i2 else if k = 3 then i3 else i4), fun k => if k = 0 then a0 else if k = 1 then a1 else if k = 2 then a2 else if k = 3 then a3 else a4), ⟨?_, ?_⟩, ?_⟩
  · intro k q hq
    match k, hq with
    | 0, hq => cases hq; exact k0
    | 1, hq => cases hq; exact k1
    | 2, hq => cases hq; exact k2
    | 3, hq => cases hq; exact k3
    | 4, hq => cases hq; exact k4
    | k + 5, hq => simp [vwCl] at hq
  · intro k q hq
    match k, hq with
    | 0, hq => cases hq; exact ⟨fun n z => ⟨fun k h => (by cases h), ka0, g0, co0, h0⟩, f0⟩
    | 1, hq => cases hq; exact ⟨fun n z => ⟨fun k h => (by cases h), ka1, g1, co1, h1⟩, f1⟩
    | 2, hq => cases hq; exact ⟨fun n z => ⟨fun k h => (by cases h), ka2, g2, co2, h2⟩, f2⟩
    | 3, hq => cases hq; exact ⟨fun n z => ⟨fun k h => (by cases h), ka3, g3, co3, h3⟩, ka3, co3, g3, h3, e3, f3⟩
    | 4, hq => cases hq; exact ⟨fun n z => ⟨fun k h => (by cases h), ka4, g4, co4, h4⟩, ka4, co4, g4, h4, e4, f4⟩
    | k + 5, hq => simp [tyG] at hq
  · exact ⟨va_Nw.of rfl (hts (.methodLinkNest RX0 55 yX4_notDark RX4) (by decide +kernel)), va_Nw.of rfl (hts (.methodLinkNest RX1 52 yX4_withColor RX4) (by decide +kernel)), va_Nw.of rfl (hts (.methodLinkNest RX2 63 yX4_within RX4) (by decide +kernel)), va_Nw.of rfl (hts (.methodLinkNest RX3 44 yX4_notDark RX4) (by decide +kernel)), va_Nw.of rfl (hts (.methodLinkNest RX2 52 yX0_init RX4) (by decide +kernel)), va_Nw.of rfl (hts (.methodLinkNest RX4 36 yX1_init RX4) (by decide +kernel)), va_Nw.of rfl (hts (.methodLinkNest RX4 43 yX3_init RX4) (by decide +kernel)), ho3, ho4⟩
theorem STs_start {s : State} {b : Nat} (hts : ∀ w ∈ lw_tbl, w.before #[Value.ref b] s = true) (hgv : (Jvm.Cond.and given_1 narrow_1).before #[Value.ref b] s = true) : ST (fun q : Nat => s.heap.size ≤ q) s := by
  have hs := flat_of_before _ hgv
  have hA : ∀ a : Nat, a < s.heap.size → ¬ (fun q : Nat => s.heap.size ≤ q) a := fun a h => Nat.not_le.mpr h
  obtain ⟨t0, e0, hT0⟩ := va_Tof (tm := .static "LightWheel" "LOWEST" "[I") (ty := .int) (N := 4) (f := fun j => .int (tabLO j)) (A := (fun q : Nat => s.heap.size ≤ q)) (by decide) (hs _ (by decide +kernel)) (va_eqt (hs (Jvm.Cond.eq (Jvm.Term.length (Jvm.Term.static "LightWheel" "LOWEST" "[I")) (Jvm.Term.int (4 : Int32))) (by decide +kernel))) (fun j hj => by
    rcases pk4 hj with rfl | rfl | rfl | rfl
    · exact va_eqt (hs (Jvm.Cond.eq (Jvm.Term.elem (Jvm.Term.static "LightWheel" "LOWEST" "[I") (Jvm.Term.int (0 : Int32))) (Jvm.Term.int (-60 : Int32))) (by decide +kernel))
    · exact va_eqt (hs (Jvm.Cond.eq (Jvm.Term.elem (Jvm.Term.static "LightWheel" "LOWEST" "[I") (Jvm.Term.int (1 : Int32))) (Jvm.Term.int (1 : Int32))) (by decide +kernel))
    · exact va_eqt (hs (Jvm.Cond.eq (Jvm.Term.elem (Jvm.Term.static "LightWheel" "LOWEST" "[I") (Jvm.Term.int (2 : Int32))) (Jvm.Term.int (1 : Int32))) (by decide +kernel))
    · exact va_eqt (hs (Jvm.Cond.eq (Jvm.Term.elem (Jvm.Term.static "LightWheel" "LOWEST" "[I") (Jvm.Term.int (3 : Int32))) (Jvm.Term.int (1 : Int32))) (by decide +kernel))) hA
  obtain ⟨t1, e1, hT1⟩ := va_Tof (tm := .static "LightWheel" "HIGHEST" "[I") (ty := .int) (N := 4) (f := fun j => .int (tabHI j)) (A := (fun q : Nat => s.heap.size ≤ q)) (by decide) (hs _ (by decide +kernel)) (va_eqt (hs (Jvm.Cond.eq (Jvm.Term.length (Jvm.Term.static "LightWheel" "HIGHEST" "[I")) (Jvm.Term.int (4 : Int32))) (by decide +kernel))) (fun j hj => by
    rcases pk4 hj with rfl | rfl | rfl | rfl
    · exact va_eqt (hs (Jvm.Cond.eq (Jvm.Term.elem (Jvm.Term.static "LightWheel" "HIGHEST" "[I") (Jvm.Term.int (0 : Int32))) (Jvm.Term.int (60 : Int32))) (by decide +kernel))
    · exact va_eqt (hs (Jvm.Cond.eq (Jvm.Term.elem (Jvm.Term.static "LightWheel" "HIGHEST" "[I") (Jvm.Term.int (1 : Int32))) (Jvm.Term.int (20 : Int32))) (by decide +kernel))
    · exact va_eqt (hs (Jvm.Cond.eq (Jvm.Term.elem (Jvm.Term.static "LightWheel" "HIGHEST" "[I") (Jvm.Term.int (2 : Int32))) (Jvm.Term.int (9999 : Int32))) (by decide +kernel))
    · exact va_eqt (hs (Jvm.Cond.eq (Jvm.Term.elem (Jvm.Term.static "LightWheel" "HIGHEST" "[I") (Jvm.Term.int (3 : Int32))) (Jvm.Term.int (99 : Int32))) (by decide +kernel))) hA
  have hini := hts (.initialized RX4) (by decide +kernel)
  exact ⟨t0, t1, va_Zref (hts (.laysStatic "LightWheel" "LOWEST" "[I") (by decide +kernel)) hini e0 hA, hT0, va_Zref (hts (.laysStatic "LightWheel" "HIGHEST" "[I") (by decide +kernel)) hini e1 hA, hT1⟩
theorem RAC_start : RAC (S00, 0, fun _ => S00) 0 0 stc0.1 stc0.2.1 stc0.2.2.1 stc0.2.2.2.1 stc0.2.2.2.2.1 stc0.2.2.2.2.2.1 stc0.2.2.2.2.2.2.1 stc0.2.2.2.2.2.2.2.1 stc0.2.2.2.2.2.2.2.2.1 stc0.2.2.2.2.2.2.2.2.2.1 stc0.2.2.2.2.2.2.2.2.2.2.1 stc0.2.2.2.2.2.2.2.2.2.2.2.1 stc0.2.2.2.2.2.2.2.2.2.2.2.2.1 stc0.2.2.2.2.2.2.2.2.2.2.2.2.2.1 stc0.2.2.2.2.2.2.2.2.2.2.2.2.2.2 (fun _ => stc0) := by
  refine ⟨S00_ok, ?_, 0, ⟨by decide, by decide, fun i hi => absurd (show i < 0 from hi) (Nat.not_lt_zero i)⟩, fun i hi => absurd (show i < 0 from hi) (Nat.not_lt_zero i), rfl, rfl⟩
  refine ⟨rfl, rfl, by decide, rfl, rfl, rfl, stg00, ⟨fun a ha => ?_, fun a _ => l_zero, fun a l _ _ => rfl⟩, ⟨fun p hp => absurd hp (by show ¬ p < 0; omega), fun p _ => ⟨rfl, rfl, rfl⟩, fun p c _ _ => l_zero⟩⟩
  rcases (show a = 0 ∨ a = 1 by omega) with z | z <;> rw [z] <;> exact l_ones
set_option maxHeartbeats 8000000 in
set_option maxRecDepth 100000 in
theorem law_open (h : PL_law (S00, 0, fun _ => S00)) {p : Program} {e : Env} {s : State} {m : MethodId} {below : List Frame} {meth : Method} {c : Code} (l : Launch) {b L : Nat} {xs : Nat → Int32} (hL : L ≤ 260) (C0 : lw_At p s m meth c b L xs) : W p l e room_1 s m #[Value.ref b] below meth c s.heap [] 0 0 (lw_Z below #[Value.ref b] s) (entryFrame m ([Value.ref b] : List Value).toArray 13) := by
  obtain ⟨hx, hb, hr, hml, hown, hts0, hX, hbl, hlocks, hgv⟩ := id C0
  have hown : s.vm.findClass RL = some m.cls := hown
  have hts : ∀ w ∈ wsL_law, w.before #[Value.ref b] s = true := fun w h => hts0 w (wsL_law_in w h)
  have hA : ∀ q : Nat, s.heap.size ≤ q → (fun q : Nat => s.heap.size ≤ q) q := fun _ h => h
  obtain ⟨g, hK⟩ := KK_start hts0
  have hZT := STs_start hts0 hgv
  have hS : va_S (fun q : Nat => s.heap.size ≤ q) s.heap s.heap [] := va_S.rf
  have hP : va_P g.1 vwCl [] s.heap := fun k q h => by simp at h
  have hD : va_D (fun q : Nat => s.heap.size ≤ q) [] := ⟨fun i j p q h => by simp at h, fun k q h => by simp at h⟩
  have hl := lv_entry ([.ref b]) (n := 13) (Nat.le_of_ble_eq_true rfl)
  rw [lg_entry_eq]
  generalize (lg_sl ([.ref b]) ++ List.replicate (13 - (lg_sl ([.ref b])).length) Slot.unset).toArray = ls at hl ⊢
  have hl : lv_has ls 13 [(0, .ref b)] := hl
  refine va_new (ci := 4) (fs := [.null, .null, .int 0, .int 0, .null, .int 0, .null, .null, .null]) (C := RX4) (T := TX4) (N := 9) hx hb hts0 inX4 tyX4 tyX4_ok hown (hts (.classLink RL 16 RX4) (by decide +kernel)) (hts (.instantiable RX4 9) (by decide +kernel)) (hts (.initialized RX4) (by decide +kernel)) hK.1 hP hD hS hA rfl (fun j hj => by rcases (show j = 0 ∨ j = 1 ∨ j = 2 ∨ j = 3 ∨ j = 4 ∨ j = 5 ∨ j = 6 ∨ j = 7 ∨ j = 8 by omega) with rfl | rfl | rfl | rfl | rfl | rfl | rfl | rfl | rfl <;> rfl) (Nat.le_of_ble_eq_true rfl) (Nat.le_of_ble_eq_true rfl) dL_law_0 (fun q1 H hP hD hS => ?_)
  replace hP : va_P g.1 vwCl ([(q1, .inr (4, [.null, .null, .int 0, .int 0, .null, .int 0, .null, .null, .null]))] : va_W) H := hP
  replace hD : va_D (fun q : Nat => s.heap.size ≤ q) ([(q1, .inr (4, [.null, .null, .int 0, .int 0, .null, .int 0, .null, .null, .null]))] : va_W) := hD
  refine W.widen (k := 1) (n := 9) (Nat.le_of_ble_eq_true rfl) (Nat.le_of_ble_eq_true rfl) ?_
  refine lv_dup hx hb dL_law_3 rfl ?_
  have hFc : ∀ z9 : Nat, va_A [(q1, .inr (4, [.null, .null, .int 0, .int 0, .null, .int 0, .null, .null, .null]))] H.size z9 → (fun q : Nat => s.heap.size ≤ q) z9 := va_freeA hD hS hA
  refine va_callv (va_runI (As := []) (rest := [.ref q1]) ⟨hx, hb, hml, hown, hts⟩ (kX4_init l g q1 H.size) (cwI 0 hts gL_law_X4_init rfl rfl rfl (hts (.initialized RX4) (by decide +kernel)) (hts (.methodLink RL 87 yX4_init) (by decide +kernel)) (hts (.instanceMethod yX4_init) (by decide +kernel)) rfl (by decide +kernel) ⟨(Nat.le_of_ble_eq_true rfl), (Nat.le_of_ble_eq_true rfl)⟩) (preI_M hK hP hD) rfl rfl hl.1 rfl (lv_room (Nat.le_of_ble_eq_true rfl)) dL_law_4 ⟨(Nat.le_of_ble_eq_true rfl), (Nat.le_of_ble_eq_true rfl)⟩) hS (fun z9 _ h9 => hFc z9 h9) hFc (fun u t H1 locs ht hvm hw hB hz1 hk1 hS => ?_)
  have hJ := jn0 (wf := wInit g u) hB ht hFc
  clear hP hD hFc hk1 hz1 hB ht
  obtain ⟨hP, hD⟩ := hJ
  generalize H1 = H at hP hS ⊢
  obtain ⟨lq, nq, rq, wq, hq⟩ := u
  replace hw : lq 0 = q1 := hw
  subst hw
  refine W.widen (k := 600000) (n := 7302250) (Nat.le_of_ble_eq_true rfl) (Nat.le_of_ble_eq_true rfl) ?_
  refine lv_astore_n (lv' := [(1, .ref (lq 0)), (0, .ref b)]) hx hb dL_law_7 rfl hl (by decide) rfl (fun ls hl => ?_)
  exact law_body l hL C0 g hK hZT (lq, nq, rq, wq, hq) (S00, 0, fun _ => S00) h _ H _ ls ⟨0, 0, (fun _ => 0), 0, (fun _ => 0), (fun _ => 0), 0, 0, 0, 0, 0, (fun _ => 0), (fun _ => 0), (fun _ => 0), 0, 0, 0, 0, 0, 0, 0, 0, stc0.1, stc0.2.1, stc0.2.2.1, stc0.2.2.2.1, stc0.2.2.2.2.1, stc0.2.2.2.2.2.1, stc0.2.2.2.2.2.2.1, stc0.2.2.2.2.2.2.2.1, stc0.2.2.2.2.2.2.2.2.1, stc0.2.2.2.2.2.2.2.2.2.1, stc0.2.2.2.2.2.2.2.2.2.2.1, stc0.2.2.2.2.2.2.2.2.2.2.2.1, stc0.2.2.2.2.2.2.2.2.2.2.2.2.1, stc0.2.2.2.2.2.2.2.2.2.2.2.2.2.1, stc0.2.2.2.2.2.2.2.2.2.2.2.2.2.2, (fun _ => stc0), RAC_start, rfl⟩ hP hD hS hl
