/-! the law's own calls: before a static method that writes, behind a call -/
theorem ST.at {A : Nat → Prop} {s U : State} {H : Heap} {locs : List Loc} {B : Nat → Prop} (h : ST A s) (hS : va_S A s.heap H locs) (hF : ∀ q, B q → A q) (hU : U.heap = H) (hW : s.WarmedH U.vm) : ST B U := by
  obtain ⟨t0, t1, h1, h2, h3, h4⟩ := h
  exact ⟨t0, t1, by rw [hU]; exact ((h1.kept hS.2.1).narrow hF).moved hW.alike, by rw [hU]; exact ((h2.kept hS.2.1).narrow hF).moved hW.alike, by rw [hU]; exact ((h3.kept hS.2.1).narrow hF).moved hW.alike, by rw [hU]; exact ((h4.kept hS.2.1).narrow hF).moved hW.alike⟩
theorem preV_MSg {s : State} {H : Heap} {g : GG} {A A1 : Nat → Prop} {wc : va_W} {locs : List Loc} {b ci q0 : Nat} {r : vw_C} {fs As : List Value} (hK : KK g s) (hP : va_P g.1 vwCl wc H) (hD : va_D A1 wc) (hZT : ST A s) (hS : va_S A s.heap H locs) (hF : ∀ q, va_A wc H.size q → A q) (hc : vwCl[ci]? = some r) (he : wc[q0]? = some (b, .inr (ci, fs))) : PreV s H r.1 b (PreMS g (.ref b :: As) wc H.size) As :=
  ⟨PreMS_blind, va_recv hK.1 hP hc he, fun U hU hW => ⟨rfl, by rw [hU], by rw [hU]; exact hP, hK.moved hW, hD.weaken (fun _ _ _ _ => trivial), hZT.at hS hF hU hW⟩⟩
theorem preS_MSg {s : State} {H : Heap} {g : GG} {A A1 : Nat → Prop} {wc : va_W} {locs : List Loc} {As : List Value} (hK : KK g s) (hP : va_P g.1 vwCl wc H) (hD : va_D A1 wc) (hZT : ST A s) (hS : va_S A s.heap H locs) (hF : ∀ q, va_A wc H.size q → A q) : PreS s H (PreMS g As wc H.size) As :=
  ⟨PreMS_blind, fun U hU hW => ⟨rfl, by rw [hU], by rw [hU]; exact hP, hK.moved hW, hD.weaken (fun _ _ _ _ => trivial), hZT.at hS hF hU hW⟩⟩
section VL
variable {p : Program} {l : Launch} {e : Env} {R : Room} {s : State} {m : MethodId} {args : Array Value} {below : List Frame} {meth : Method} {c : Code} {H : Heap} {locs : List Loc} {cells slots : Nat} {Q : State → Prop}
theorem vl_calli {pc : Nat} {ls : Array Slot} {rest st0 : List Value} {aa : Array Value} {A : Nat → Prop} {g : GG} {a : QS} {V : VS} {ws : va_W} {k : Int32 → VS → Prop}
    (hr : va_Run p l e R s m args below meth c H locs cells slots 0 0 (F0 m pc ls st0) rest (va_Qi (fun (r : Int32) (u : va_W) => ∃ V' : VS, AW g a V' u ∧ k r V') (fun u t => PostB g (va_A ws H.size) u t) (va_A ws H.size) aa) (va_A ws H.size)) (hS : va_S A s.heap H locs) (hF : ∀ q, va_A ws H.size q → A q)
    (kk : ∀ (r : Int32) (V' : VS) (ws1 : va_W) (H1 : Heap) (locs1 : List Loc), AW g a V' ws1 → va_P g.1 vwCl ws1 H1 → va_D A ws1 → va_S A s.heap H1 locs1 → k r V' → W p l e R s m args below meth c H1 locs1 cells slots Q (F0 m (pc + 3) ls (.int r :: rest))) : W p l e R s m args below meth c H locs cells slots Q (F0 m pc ls st0) := by
  refine va_calli hr hS (fun q _ h9 => hF q h9) hF (fun r u t H1 locs1 ht hvm hw hB hz1 hk1 hS1 => ?_)
  obtain ⟨V', hA', hk'⟩ := hw
  obtain ⟨hP, hD⟩ := jn0 (wf := u) hB ht hF
  exact kk r V' u H1 locs1 hA' hP hD hS1 hk'
end VL
def PL_low  (a_1 : Int32) (a_2 : Int32) (k : Int32 → Prop) : Prop := (¬ a_2 = 0 ∧ (k ((a_1 &&& (2147483647 : Int32)) - (a_1 &&& (2147483647 : Int32)) / a_2 * a_2)))
def PL_size  (a_1 : Int32) (k : Int32 → Prop) : Prop := ((0 ≤ a_1 → (k a_1)) ∧ (¬ 0 ≤ a_1 → (k (-a_1))))
theorem hdL_low : yL_low.cls = RL ∧ yL_low.cls ≠ "java/lang/invoke/MethodHandle" ∧ yL_low.cls ≠ "java/lang/invoke/VarHandle" ∧ (parseMethodDescriptor yL_low.desc).map (fun d => d.parameters.length) = some 2 := by decide +kernel
set_option maxHeartbeats 4000000 in
set_option maxRecDepth 100000 in
theorem kL_low (l : Launch) (g : GG)  (a_1 : Int32) (a_2 : Int32) (k : Int32 → Prop) (h : PL_low  a_1 a_2 k) : Met l yL_low wsL_low ({ frames := 0, cells := 0, slots := 0, locals := 0 }) (PreR g [.int a_1, .int a_2] []) (vp_Si k) 0 0 (fun _ => False) := by
  refine Met_ofWF (cc := cL_low) (maxL := 2) (ret := (some .int)) (by decide +kernel) rfl ?_
  intro p e s m args below meth c s₁ B hml hv
  obtain ⟨rfl, hP, hK⟩ := hv
  have hx := B.exec
  have hb := B.bytes
  have hr := B.returns
  have hts := atoms_spec (ws := wsL_low) B.pre
  have hown : s.vm.findClass RL = some m.cls := findClass_of_methodNamed B.named
  have hlocks := B.notSynchronized
  have hl := lv_entry ([.int a_1, .int a_2]) (n := 2) (Nat.le_of_ble_eq_true rfl)
  rw [lg_entry_eq]
  generalize (lg_sl ([.int a_1, .int a_2]) ++ List.replicate (2 - (lg_sl ([.int a_1, .int a_2])).length) Slot.unset).toArray = ls at hl ⊢
  have hl : lv_has ls 2 [(0, .int a_1), (1, .int a_2)] := hl
  unfold PL_low at h
  refine lv_iload_n hx hb dL_low_0 rfl (lv_at hl 0 rfl) ?_
  refine lv_ldc (v := (2147483647 : Int32)) hx hb hown (hts (.constant RL 8 (2147483647)) (by decide +kernel)) dL_low_1 ?_
  refine lv_iand hx hb dL_low_3 ?_
  refine lv_iload_n hx hb dL_low_4 rfl (lv_at hl 1 rfl) ?_
  have o_5_0 := h.1
  replace h := h.2
  refine lv_irem hx hb dL_low_5 o_5_0 ?_
  exact W.iret hx hb hr (fun t ht hW => ⟨((a_1 &&& (2147483647 : Int32)) - (a_1 &&& (2147483647 : Int32)) / a_2 * a_2), rfl, h, ht⟩) (fun _ h9 => by cases h9) dL_low_6
theorem hdL_size : yL_size.cls = RL ∧ yL_size.cls ≠ "java/lang/invoke/MethodHandle" ∧ yL_size.cls ≠ "java/lang/invoke/VarHandle" ∧ (parseMethodDescriptor yL_size.desc).map (fun d => d.parameters.length) = some 1 := by decide +kernel
set_option maxHeartbeats 4000000 in
set_option maxRecDepth 100000 in
theorem kL_size (l : Launch) (g : GG)  (a_1 : Int32) (k : Int32 → Prop) (h : PL_size  a_1 k) : Met l yL_size wsL_size ({ frames := 0, cells := 0, slots := 0, locals := 0 }) (PreR g [.int a_1] []) (vp_Si k) 0 0 (fun _ => False) := by
  refine Met_ofWF (cc := cL_size) (maxL := 1) (ret := (some .int)) (by decide +kernel) rfl ?_
  intro p e s m args below meth c s₁ B hml hv
  obtain ⟨rfl, hP, hK⟩ := hv
  have hx := B.exec
  have hb := B.bytes
  have hr := B.returns
  have hts := atoms_spec (ws := wsL_size) B.pre
  have hown : s.vm.findClass RL = some m.cls := findClass_of_methodNamed B.named
  have hlocks := B.notSynchronized
  have hl := lv_entry ([.int a_1]) (n := 1) (Nat.le_of_ble_eq_true rfl)
  rw [lg_entry_eq]
  generalize (lg_sl ([.int a_1]) ++ List.replicate (1 - (lg_sl ([.int a_1])).length) Slot.unset).toArray = ls at hl ⊢
  have hl : lv_has ls 1 [(0, .int a_1)] := hl
  unfold PL_size at h
  refine lv_iload_n hx hb dL_size_0 rfl (lv_at hl 0 rfl) ?_
  refine lv_if_ge (tgt := 9) hx hb dL_size_1 (by decide) (fun c_1_0 => ?_) (fun c_1_0 => ?_)
  · replace h := h.1 c_1_0
    refine lv_iload_n hx hb dL_size_9 rfl (lv_at hl 0 rfl) ?_
    exact W.iret hx hb hr (fun t ht hW => ⟨a_1, rfl, h, ht⟩) (fun _ h9 => by cases h9) dL_size_10
  · replace h := h.2 c_1_0
    refine lv_iload_n hx hb dL_size_4 rfl (lv_at hl 0 rfl) ?_
    refine lv_ineg hx hb dL_size_5 ?_
    refine lv_goto (tgt := 10) hx hb dL_size_6 (by decide) ?_
    exact W.iret hx hb hr (fun t ht hW => ⟨(-a_1), rfl, h, ht⟩) (fun _ h9 => by cases h9) dL_size_10
