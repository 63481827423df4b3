/-! The state of the two classes in our own words: the global context, the worlds, the pre- and postconditions. -/
abbrev GG : Type := va_G × (Nat → ClassId)
abbrev tyG (g : GG) : List (ClassId × FieldType) := [(g.2 0, .int), (g.2 1, .long), (g.2 2, .char), (g.2 3, .object RX0), (g.2 4, .object RX2)]
/-- the links to a nest mate's own members, carried from call to call -/
def NW (U : State) : Prop := va_Nw (.methodLinkNest RX0 55 yX4_notDark RX4) U ∧ va_Nw (.methodLinkNest RX1 52 yX4_withColor RX4) U ∧ va_Nw (.methodLinkNest RX2 63 yX4_within RX4) U ∧ va_Nw (.methodLinkNest RX3 44 yX4_notDark RX4) U ∧ va_Nw (.methodLinkNest RX2 52 yX0_init RX4) U ∧ va_Nw (.methodLinkNest RX4 36 yX1_init RX4) U ∧ va_Nw (.methodLinkNest RX4 43 yX3_init RX4) U ∧ va_AO RX0 U ∧ va_AO RX2 U
theorem NW.moved {s U : State} (hW : s.WarmedH U.vm) (h : NW s) : NW U := ⟨va_Nw.warmM hW h.1, va_Nw.warmM hW h.2.1, va_Nw.warmM hW h.2.2.1, va_Nw.warmM hW h.2.2.2.1, va_Nw.warmM hW h.2.2.2.2.1, va_Nw.warmM hW h.2.2.2.2.2.1, va_Nw.warmM hW h.2.2.2.2.2.2.1, va_AO.moved hW.alike h.2.2.2.2.2.2.2.1, va_AO.moved hW.alike h.2.2.2.2.2.2.2.2⟩
theorem NW.same {u U : State} (e : u.vm = U.vm) (h : NW u) : NW U := ⟨va_Nw.same rfl e h.1, va_Nw.same rfl e h.2.1, va_Nw.same rfl e h.2.2.1, va_Nw.same rfl e h.2.2.2.1, va_Nw.same rfl e h.2.2.2.2.1, va_Nw.same rfl e h.2.2.2.2.2.1, va_Nw.same rfl e h.2.2.2.2.2.2.1, va_AO.moved (by rw [e]; exact Vm.Alike.refl _) h.2.2.2.2.2.2.2.1, va_AO.moved (by rw [e]; exact Vm.Alike.refl _) h.2.2.2.2.2.2.2.2⟩
/-- for the constructors: the array classes are not yet known -/
def K0 (g : GG) (U : State) : Prop := va_K g.1 vwCl [] U ∧ NW U
def KK (g : GG) (U : State) : Prop := va_K g.1 vwCl (tyG g) U ∧ NW U
theorem KK.moved {g : GG} {s U : State} (h : KK g s) (hW : s.WarmedH U.vm) : KK g U := ⟨va_K.moved hW.alike h.1, h.2.moved hW⟩
theorem KK.calling {g : GG} {U : State} {f : JFrame} {mk : MethodId} {a : Array Value} (h : KK g U) : KK g (U.calling f mk a) := ⟨va_K.moved (u := U) (U := U.calling f mk a) (Vm.Alike.refl U.vm) h.1, NW.same (u := U) (U := U.calling f mk a) rfl h.2⟩
/-- before a method that only reads -/
def PreR (g : GG) (av : List Value) (ws : va_W) : Array Value → State → Prop := va_Pc av (fun U => va_P g.1 vwCl ws U.heap ∧ KK g U)
/-- before a method that writes -/
def PreM (g : GG) (av : List Value) (ws : va_W) (sz : Nat) : Array Value → State → Prop := va_Pc av (fun U => U.heap.size = sz ∧ va_P g.1 vwCl ws U.heap ∧ KK g U ∧ va_D (fun _ => True) ws)
theorem PreR_blind {g : GG} {av : List Value} {ws : va_W} : FrameBlind (PreR g av ws) := fun _ _ _ _ h => ⟨h.1, h.2.1, h.2.2.calling⟩
theorem PreM_blind {g : GG} {av : List Value} {ws : va_W} {sz : Nat} : FrameBlind (PreM g av ws sz) := fun _ _ _ _ h => ⟨h.1, h.2.1, h.2.2.1, h.2.2.2.1.calling, h.2.2.2.2⟩
/-- behind a method that writes: its world -/
def PostB (g : GG) (A : Nat → Prop) (wf : va_W) (t : State) : Prop := va_P g.1 vwCl wf t.heap ∧ va_D A wf
theorem preV_R {s : State} {H : Heap} {g : GG} {wc : va_W} {b ci q0 : Nat} {r : vw_C} {fs As : List Value} (hK : KK g s) (hP : va_P g.1 vwCl wc H) (hc : vwCl[ci]? = some r) (he : wc[q0]? = some (b, .inr (ci, fs))) : PreV s H r.1 b (PreR g (.ref b :: As) wc) As :=
  ⟨PreR_blind, va_recv hK.1 hP hc he, fun U hU hW => ⟨rfl, by rw [hU]; exact hP, hK.moved hW⟩⟩
theorem preS_R {s : State} {H : Heap} {g : GG} {wc : va_W} {As : List Value} (hK : KK g s) (hP : va_P g.1 vwCl wc H) : PreS s H (PreR g As wc) As :=
  ⟨PreR_blind, fun U hU hW => ⟨rfl, by rw [hU]; exact hP, hK.moved hW⟩⟩
theorem preV_M {s : State} {H : Heap} {g : GG} {A : Nat → Prop} {wc : va_W} {b ci q0 : Nat} {r : vw_C} {fs As : List Value} (hK : KK g s) (hP : va_P g.1 vwCl wc H) (hD : va_D A wc) (hc : vwCl[ci]? = some r) (he : wc[q0]? = some (b, .inr (ci, fs))) : PreV s H r.1 b (PreM g (.ref b :: As) wc H.size) As :=
  ⟨PreM_blind, va_recv hK.1 hP hc he, fun U hU hW => ⟨rfl, by rw [hU], by rw [hU]; exact hP, hK.moved hW, hD.weaken (fun _ _ _ _ => trivial)⟩⟩
theorem va_P_nil {D : va_G} {cl : List vw_C} {H : Heap} : va_P D cl [] H := fun k q h => by simp at h
/-- behind a call whose world is all of the caller's -/
theorem jn0 {g : GG} {A0 : Nat → Prop} {wc wf : va_W} {H H1 : Heap} {t : State} (hB : PostB g (va_A wc H.size) wf t) (ht : t.heap = H1) (hF : ∀ q, va_A wc H.size q → A0 q) : va_P g.1 vwCl wf H1 ∧ va_D A0 wf :=
  ⟨by rw [← ht]; exact hB.1, hB.2.weaken (fun _ q _ h => hF q.1 h)⟩
/-- behind a call whose world is a part of the caller's -/
theorem jn1 {g : GG} {A0 : Nat → Prop} {ws wc wr wf pl : va_W} {H H1 : Heap} {t : State} (hP : va_P g.1 vwCl (ws ++ pl) H) (hD : va_D A0 (ws ++ pl)) (isC isR : List Nat) (hC : isC.map (fun i => ws[i]?) = wc.map some) (hR : isR.map (fun i => ws[i]?) = wr.map some) (hn : va_nd isR = true) (hdis : ∀ i ∈ isR, i ∉ isC)
    (hk : ∀ q : Nat, q < H.size → ¬ va_A wc H.size q → H1[q]? = H[q]?) (hF : ∀ q, va_A wc H.size q → A0 q) (hB : PostB g (va_A wc H.size) wf t) (ht : t.heap = H1) : va_P g.1 vwCl ((wr ++ wf) ++ pl) H1 ∧ va_D A0 ((wr ++ wf) ++ pl) :=
  va_joinQ hP hD isC isR hC hR hn hdis hk hF (by rw [← ht]; exact hB.1) hB.2
theorem clamp_lt {i : Int32} {n : Nat} (h : vp_in i n) : i.toNatClampNeg < n := Nat.not_le.mp fun q => h (Or.inr q)
theorem pk4 {j : Nat} (h : j < 4) : j = 0 ∨ j = 1 ∨ j = 2 ∨ j = 3 := by omega
theorem pk5 {j : Nat} (h : j < 5) : j = 0 ∨ j = 1 ∨ j = 2 ∨ j = 3 ∨ j = 4 := by omega
theorem sw_of {x : Int32} {n : Nat} (h : ¬ (x.toInt < 0 ∨ (n : Int) < x.toInt)) (hn : n < 2 ^ 31) : ∃ j : Nat, j ≤ n ∧ x = nI j := by
  refine ⟨x.toInt.toNat, by omega, ?_⟩
  apply Int32.toInt_inj.mp
  rw [nI_toInt (by omega)]
  omega
section XR
variable {p : Program} {l : Launch} {e : Env} {R : Room} {s : State} {m : MethodId} {args : Array Value} {below : List Frame} {meth : Method} {c : Code} {H : Heap} {locs : List Loc} {cells slots : Nat} {Q : State → Prop}
variable {cc : ByteArray} {pc : Nat} {ls : Array Slot} {rest : List Value} {D : va_G} {cl : List vw_C} {A : Nat → Prop} {a : Nat} {tys : List (ClassId × FieldType)} {ws : va_W} {H0 : Heap}
theorem xr_iald (hexec : p.tables.exec = Jvm.exec) (hb : c.code = cc) (hK : va_K D cl tys s) (hP : va_P D cl ws H) (q0 t0 : Nat) {cA : ClassId} {n : Nat} {f : Nat → Int32} (ha : ws[q0]? = some (a, .inl (cA, n, .inl f))) (ht : tys[t0]? = some (cA, .int)) {i : Int32} (j : Nat) (hi : i = nI j) (hj : j < n) (hn : n < 2 ^ 31) (hdg : decode cc pc = .ok (.iaload, 1))
    (kk : W p l e R s m args below meth c H locs cells slots Q (F0 m (pc + 1) ls (.int (f j) :: rest))) : W p l e R s m args below meth c H locs cells slots Q (F0 m pc ls (.int i :: .ref a :: rest)) := by
  subst hi
  refine va_iald hexec hb hK hP q0 t0 ha ht (vp_in_nI hj hn) hdg ?_
  rw [nI_clamp (by omega)]
  exact kk
theorem xr_lald (hexec : p.tables.exec = Jvm.exec) (hb : c.code = cc) (hK : va_K D cl tys s) (hP : va_P D cl ws H) (q0 t0 : Nat) {cA : ClassId} {n : Nat} {f : Nat → Int64} (ha : ws[q0]? = some (a, .inl (cA, n, .inr (.inl f)))) (ht : tys[t0]? = some (cA, .long)) {i : Int32} (j : Nat) (hi : i = nI j) (hj : j < n) (hn : n < 2 ^ 31) (hdg : decode cc pc = .ok (.laload, 1))
    (kk : W p l e R s m args below meth c H locs cells slots Q (F0 m (pc + 1) ls (.long (f j) :: rest))) : W p l e R s m args below meth c H locs cells slots Q (F0 m pc ls (.int i :: .ref a :: rest)) := by
  subst hi
  refine va_lald hexec hb hK hP q0 t0 ha ht (vp_in_nI hj hn) hdg ?_
  rw [nI_clamp (by omega)]
  exact kk
theorem xr_aald (hexec : p.tables.exec = Jvm.exec) (hb : c.code = cc) (hK : va_K D cl tys s) (hP : va_P D cl ws H) (q0 t0 : Nat) {cA : ClassId} {C : String} {n : Nat} {f : Nat → Option Nat} (ha : ws[q0]? = some (a, .inl (cA, n, .inr (.inr (.inr (.inr f)))))) (ht : tys[t0]? = some (cA, .object C)) (ad : Nat → Nat) (had : ∀ j, va_rf (f j) = .ref (ad j)) {i : Int32} (hin : vp_in i n) (hdg : decode cc pc = .ok (.aaload, 1))
    (kk : ∀ j : Nat, j < n → i.toNatClampNeg = j → W p l e R s m args below meth c H locs cells slots Q (F0 m (pc + 1) ls (.ref (ad j) :: rest))) : W p l e R s m args below meth c H locs cells slots Q (F0 m pc ls (.int i :: .ref a :: rest)) := by
  refine va_aldq hexec hb hK hP q0 t0 ha ht hin hdg ?_
  rw [had]
  exact kk _ (clamp_lt hin) rfl
theorem xs_iast (hexec : p.tables.exec = Jvm.exec) (hb : c.code = cc) (hK : va_K D cl tys s) (hP : va_P D cl ws H) (hD : va_D A ws) (hS : va_S A H0 H locs) (q0 t0 : Nat) {cA : ClassId} {n : Nat} {f : Nat → Int32} (ha : ws[q0]? = some (a, .inl (cA, n, .inl f))) (ht : tys[t0]? = some (cA, .int)) {i : Int32} {x : Int32} (hin : vp_in i n) (hdg : decode cc pc = .ok (.iastore, 1))
    (kk : ∀ (f1 : Nat → Int32), f1 = upd f i.toNatClampNeg x → ∀ (H1 : Heap) (locs1 : List Loc), va_P D cl (ws.set q0 (a, .inl (cA, n, .inl f1))) H1 → va_D A (ws.set q0 (a, .inl (cA, n, .inl f1))) → va_S A H0 H1 locs1 → W p l e R s m args below meth c H1 locs1 cells slots Q (F0 m (pc + 1) ls rest)) : W p l e R s m args below meth c H locs cells slots Q (F0 m pc ls (.int x :: .int i :: .ref a :: rest)) :=
  va_iast hexec hb hK hP hD hS q0 t0 ha ht hin hdg (fun H1 locs1 h1 h2 h3 => kk _ rfl H1 locs1 h1 h2 h3)
theorem xr_iast (hexec : p.tables.exec = Jvm.exec) (hb : c.code = cc) (hK : va_K D cl tys s) (hP : va_P D cl ws H) (hD : va_D A ws) (hS : va_S A H0 H locs) (q0 t0 : Nat) {cA : ClassId} {n : Nat} {f : Nat → Int32} (ha : ws[q0]? = some (a, .inl (cA, n, .inl f))) (ht : tys[t0]? = some (cA, .int)) {i : Int32} {x : Int32} (j : Nat) (hi : i = nI j) (hj : j < n) (hn : n < 2 ^ 31) (hdg : decode cc pc = .ok (.iastore, 1))
    (kk : ∀ (f1 : Nat → Int32), f1 = upd f j x → ∀ (H1 : Heap) (locs1 : List Loc), va_P D cl (ws.set q0 (a, .inl (cA, n, .inl f1))) H1 → va_D A (ws.set q0 (a, .inl (cA, n, .inl f1))) → va_S A H0 H1 locs1 → W p l e R s m args below meth c H1 locs1 cells slots Q (F0 m (pc + 1) ls rest)) : W p l e R s m args below meth c H locs cells slots Q (F0 m pc ls (.int x :: .int i :: .ref a :: rest)) := by
  subst hi
  exact va_iast hexec hb hK hP hD hS q0 t0 ha ht (vp_in_nI hj hn) hdg (fun H1 locs1 h1 h2 h3 => kk _ (by rw [nI_clamp (by omega)]) H1 locs1 h1 h2 h3)
theorem xs_last (hexec : p.tables.exec = Jvm.exec) (hb : c.code = cc) (hK : va_K D cl tys s) (hP : va_P D cl ws H) (hD : va_D A ws) (hS : va_S A H0 H locs) (q0 t0 : Nat) {cA : ClassId} {n : Nat} {f : Nat → Int64} (ha : ws[q0]? = some (a, .inl (cA, n, .inr (.inl f)))) (ht : tys[t0]? = some (cA, .long)) {i : Int32} {x : Int64} (hin : vp_in i n) (hdg : decode cc pc = .ok (.lastore, 1))
    (kk : ∀ (f1 : Nat → Int64), f1 = vp_updL f i.toNatClampNeg x → ∀ (H1 : Heap) (locs1 : List Loc), va_P D cl (ws.set q0 (a, .inl (cA, n, .inr (.inl f1)))) H1 → va_D A (ws.set q0 (a, .inl (cA, n, .inr (.inl f1)))) → va_S A H0 H1 locs1 → W p l e R s m args below meth c H1 locs1 cells slots Q (F0 m (pc + 1) ls rest)) : W p l e R s m args below meth c H locs cells slots Q (F0 m pc ls (.long x :: .int i :: .ref a :: rest)) :=
  va_last hexec hb hK hP hD hS q0 t0 ha ht hin hdg (fun H1 locs1 h1 h2 h3 => kk _ rfl H1 locs1 h1 h2 h3)
theorem xs_cast (hexec : p.tables.exec = Jvm.exec) (hb : c.code = cc) (hK : va_K D cl tys s) (hP : va_P D cl ws H) (hD : va_D A ws) (hS : va_S A H0 H locs) (q0 t0 : Nat) {cA : ClassId} {n : Nat} {f : Nat → Int32} (ha : ws[q0]? = some (a, .inl (cA, n, .inl f))) (ht : tys[t0]? = some (cA, .char)) {i : Int32} {x : Int32} (hin : vp_in i n) (hdg : decode cc pc = .ok (.castore, 1))
    (kk : ∀ (f1 : Nat → Int32), f1 = upd f i.toNatClampNeg (vp_nar .char x) → ∀ (H1 : Heap) (locs1 : List Loc), va_P D cl (ws.set q0 (a, .inl (cA, n, .inl f1))) H1 → va_D A (ws.set q0 (a, .inl (cA, n, .inl f1))) → va_S A H0 H1 locs1 → W p l e R s m args below meth c H1 locs1 cells slots Q (F0 m (pc + 1) ls rest)) : W p l e R s m args below meth c H locs cells slots Q (F0 m pc ls (.int x :: .int i :: .ref a :: rest)) :=
  va_cast hexec hb hK hP hD hS q0 t0 ha ht hin hdg (fun H1 locs1 h1 h2 h3 => kk _ rfl H1 locs1 h1 h2 h3)
end XR
theorem va_freeA {A0 : Nat → Prop} {ws : va_W} {H0 H : Heap} {locs : List Loc} (hD : va_D A0 ws) (hS : va_S A0 H0 H locs) (hA : ∀ q, H0.size ≤ q → A0 q) : ∀ q, va_A ws H.size q → A0 q := by
  intro q h
  rcases h with ⟨k, e, h⟩ | h
  · exact hD.2 k (q, e) h
  · exact hA q (Nat.le_trans hS.1 h)
/-- behind a call: the callee's cells and the rest, in the caller's order again -/
theorem jn3 {g : GG} {A0 : Nat → Prop} {ws wc wf wz pl : va_W} {H H1 : Heap} {t : State} (hP : va_P g.1 vwCl (ws ++ pl) H) (hD : va_D A0 (ws ++ pl)) (isC isR perm : List Nat) (hC : isC.map (fun i => ws[i]?) = wc.map some) (hR : isR.map (fun i => ws[i]?) = (isR.filterMap (fun i => ws[i]?)).map some) (hn : va_nd isR = true) (hdis : ∀ i ∈ isR, i ∉ isC) (hnp : va_nd perm = true) (hz : perm.map (fun i => (isR.filterMap (fun i => ws[i]?) ++ wf)[i]?) = wz.map some)
    (hk : ∀ q : Nat, q < H.size → ¬ va_A wc H.size q → H1[q]? = H[q]?) (hF : ∀ q, va_A wc H.size q → A0 q) (hB : PostB g (va_A wc H.size) wf t) (ht : t.heap = H1) : va_P g.1 vwCl (wz ++ pl) H1 ∧ va_D A0 (wz ++ pl) := by
  obtain ⟨h1, h2⟩ := jn1 hP hD isC isR hC hR hn hdis hk hF hB ht
  exact ⟨fun k q hq => h1 _ q (va_part perm hz k q hq), h2.part perm hnp hz⟩
section XC
variable {p : Program} {l : Launch} {e : Env} {R : Room} {s : State} {m : MethodId} {args : Array Value} {below : List Frame} {meth : Method} {c : Code} {H : Heap} {locs : List Loc} {cells slots : Nat} {Q : State → Prop}
variable {pc : Nat} {ls : Array Slot} {rest : List Value} {D : va_G} {cl : List vw_C} {A : Nat → Prop} {a : Nat} {tys : List (ClassId × FieldType)} {ws : va_W} {H0 : Heap}
theorem xs_copyi {cc : ByteArray} (hexec : p.tables.exec = Jvm.exec) (hb : c.code = cc) (hml : c.maxLocals = ls.size) {own : String} {index : Nat} (hown : s.vm.findClass own = some m.cls) (hlink : (Cond.methodLink own index arraycopyName).before args s = true) (hnat : (Cond.native arraycopyName).before args s = true) (hstat : (Cond.static arraycopyName).before args s = true) (hini : (Cond.initialized "java/lang/System").before args s = true)
    (hK : va_K D cl tys s) (hP : va_P D cl ws H) (hD : va_D A ws) (hS : va_S A H0 H locs) (q0 q1 t0 t1 : Nat) {a0 : Nat} {c0 c1 : ClassId} {n0 n1 : Nat} {f g : Nat → Int32} (ha0 : ws[q0]? = some (a0, .inl (c0, n0, .inl f))) (ha1 : ws[q1]? = some (a, .inl (c1, n1, .inl g))) (ht0 : tys[t0]? = some (c0, .int)) (ht1 : tys[t1]? = some (c1, .int))
    (nn : Nat) {n : Int32} (hi : n = nI nn) (hn : nn < 2 ^ 31) (h4 : nn ≤ n0) (h5 : nn ≤ n1)
    (hframes : 1 ≤ R.frames) (hlocals : (rest.map fun v => v.category).sum + (nativeFrameWords "java/lang/System" "arraycopy" 5 + 11) ≤ R.locals) (hdg : decode cc pc = .ok (.invokestatic index, 3))
    (kk : ∀ f1 : Nat → Int32, f1 = va_cpy f g 0 0 nn → ∀ (H1 : Heap) (locs1 : List Loc), va_P D cl (ws.set q1 (a, .inl (c1, n1, .inl f1))) H1 → va_D A (ws.set q1 (a, .inl (c1, n1, .inl f1))) → va_S A H0 H1 locs1 → W p l e R s m args below meth c H1 locs1 cells slots Q (F0 m (pc + 3) ls rest)) : W p l e R s m args below meth c H locs cells slots Q (F0 m pc ls (.int n :: .int (0 : Int32) :: .ref a :: .int (0 : Int32) :: .ref a0 :: rest)) := by
  subst hi
  have e0 : (0 : Int32).toNatClampNeg = 0 := by decide
  have e1 : (nI nn).toNatClampNeg = nn := nI_clamp hn
  refine va_copyi hexec hb hml hown hlink hnat hstat hini hK hP hD hS q0 q1 t0 t1 ha0 ha1 ht0 ht1 rfl (by decide) (by decide) (nI_pos hn) (by rw [e0, e1]; omega) (by rw [e0, e1]; omega) (fun _ _ => rfl) hframes hlocals hdg (fun H1 locs1 h1 h2 h3 => ?_)
  rw [e0, e1] at h1 h2
  exact kk _ rfl H1 locs1 h1 h2 h3
theorem xs_copyl {cc : ByteArray} (hexec : p.tables.exec = Jvm.exec) (hb : c.code = cc) (hml : c.maxLocals = ls.size) {own : String} {index : Nat} (hown : s.vm.findClass own = some m.cls) (hlink : (Cond.methodLink own index arraycopyName).before args s = true) (hnat : (Cond.native arraycopyName).before args s = true) (hstat : (Cond.static arraycopyName).before args s = true) (hini : (Cond.initialized "java/lang/System").before args s = true)
    (hK : va_K D cl tys s) (hP : va_P D cl ws H) (hD : va_D A ws) (hS : va_S A H0 H locs) (q0 q1 t0 t1 : Nat) {a0 : Nat} {c0 c1 : ClassId} {n0 n1 : Nat} {f g : Nat → Int64} (ha0 : ws[q0]? = some (a0, .inl (c0, n0, .inr (.inl f)))) (ha1 : ws[q1]? = some (a, .inl (c1, n1, .inr (.inl g)))) (ht0 : tys[t0]? = some (c0, .long)) (ht1 : tys[t1]? = some (c1, .long))
    (nn : Nat) {n : Int32} (hi : n = nI nn) (hn : nn < 2 ^ 31) (h4 : nn ≤ n0) (h5 : nn ≤ n1)
    (hframes : 1 ≤ R.frames) (hlocals : (rest.map fun v => v.category).sum + (nativeFrameWords "java/lang/System" "arraycopy" 5 + 11) ≤ R.locals) (hdg : decode cc pc = .ok (.invokestatic index, 3))
    (kk : ∀ f1 : Nat → Int64, f1 = va_cpy f g 0 0 nn → ∀ (H1 : Heap) (locs1 : List Loc), va_P D cl (ws.set q1 (a, .inl (c1, n1, .inr (.inl f1)))) H1 → va_D A (ws.set q1 (a, .inl (c1, n1, .inr (.inl f1)))) → va_S A H0 H1 locs1 → W p l e R s m args below meth c H1 locs1 cells slots Q (F0 m (pc + 3) ls rest)) : W p l e R s m args below meth c H locs cells slots Q (F0 m pc ls (.int n :: .int (0 : Int32) :: .ref a :: .int (0 : Int32) :: .ref a0 :: rest)) := by
  subst hi
  have e0 : (0 : Int32).toNatClampNeg = 0 := by decide
  have e1 : (nI nn).toNatClampNeg = nn := nI_clamp hn
  refine va_copyl hexec hb hml hown hlink hnat hstat hini hK hP hD hS q0 q1 t0 t1 ha0 ha1 ht0 ht1 rfl (by decide) (by decide) (nI_pos hn) (by rw [e0, e1]; omega) (by rw [e0, e1]; omega) (fun _ _ => rfl) hframes hlocals hdg (fun H1 locs1 h1 h2 h3 => ?_)
  rw [e0, e1] at h1 h2
  exact kk _ rfl H1 locs1 h1 h2 h3
end XC
abbrev wP (g : GG) (q : Nat → Nat) (p_width : Int32) (p_first : Int32) (p_step : Int32) (p_kind : Int32) (p_columns : Nat → Int64) : va_W := [(q 0, .inr (0, [.int p_width, .int p_first, .int p_step, .int p_kind, .ref (q 1)])), (q 1, .inl (g.2 1, 40, .inr (.inl p_columns)))]
abbrev wR (g : GG) (q : Nat → Nat) (r_columns : Nat → Int64) (r_columnCount : Int32) (r_awaited : Int32) (r_told : Int32) (r_number : Int32) (r_numberStart : Int32) : va_W := [(q 0, .inr (1, [.ref (q 1), .int r_columnCount, .int r_awaited, .int r_told, .int r_number, .int r_numberStart])), (q 1, .inl (g.2 1, 40, .inr (.inl r_columns)))]
abbrev wS (g : GG) (q : Nat → Nat) (n_pictureCount : Int32) (n_angle : Int32) (n_speed : Int32) (n_ticks : Int32) (n_load : Int32) (n_secondArm : Int32) (n_settings : Nat → Int32) (n_working : Nat → Int64) (n_written : Nat → Int64) (n_writtenIn : Nat → Int32) (n_width : Nat → Int32) (n_first : Nat → Int32) (n_step : Nat → Int32) (n_kind : Nat → Int32) (n_columns : Nat → Nat → Int64) : va_W := [(q 0, .inr (2, [.int n_pictureCount, .ref (q 1), .int n_angle, .int n_speed, .int n_ticks, .int n_load, .int n_secondArm, .ref (q 2), .ref (q 3), .ref (q 4), .ref (q 5)])), (q 1, .inl (g.2 3, 4, .inr (.inr (.inr (.inr (fun i => some (q (6 + 2 * i)))))))), (q 2, .inl (g.2 0, 4, .inl n_settings)), (q 3, .inl (g.2 1, 2, .inr (.inl n_working))), (q 4, .inl (g.2 1, 720, .inr (.inl n_written))), (q 5, .inl (g.2 0, 8640, .inl n_writtenIn)), (q 6, .inr (0, [.int (n_width 0), .int (n_first 0), .int (n_step 0), .int (n_kind 0), .ref (q 7)])), (q 7, .inl (g.2 1, 40, .inr (.inl (n_columns 0)))), (q 8, .inr (0, [.int (n_width 1), .int (n_first 1), .int (n_step 1), .int (n_kind 1), .ref (q 9)])), (q 9, .inl (g.2 1, 40, .inr (.inl (n_columns 1)))), (q 10, .inr (0, [.int (n_width 2), .int (n_first 2), .int (n_step 2), .int (n_kind 2), .ref (q 11)])), (q 11, .inl (g.2 1, 40, .inr (.inl (n_columns 2)))), (q 12, .inr (0, [.int (n_width 3), .int (n_first 3), .int (n_step 3), .int (n_kind 3), .ref (q 13)])), (q 13, .inl (g.2 1, 40, .inr (.inl (n_columns 3))))]
abbrev wW (g : GG) (q : Nat → Nat) (w_wanted : Nat → Int64) (w_loadAt : Nat → Int32) (w_passedIn : Nat → Int32) (w_secondArm : Int32) (w_power : Int32) (w_limit : Int32) (w_wantedSpeed : Int32) (w_angle : Int32) (w_speed : Int32) (w_load : Int32) (w_ticks : Int32) : va_W := [(q 0, .inr (3, [.ref (q 1), .ref (q 2), .ref (q 3), .int w_secondArm, .int w_power, .int w_limit, .int w_wantedSpeed, .int w_angle, .int w_speed, .int w_load, .int w_ticks])), (q 1, .inl (g.2 1, 720, .inr (.inl w_wanted))), (q 2, .inl (g.2 0, 720, .inl w_loadAt)), (q 3, .inl (g.2 0, 720, .inl w_passedIn))]
abbrev wL (g : GG) (q : Nat → Nat) (nq rq wq : Nat → Nat) (hq : Nat → Nat → Nat) (l_oldest : Int32) (l_historySize : Int32) (l_text : Nat → Int32) (l_textLength : Int32) (l_rightAlone : Nat → Int64) : va_W := [(q 0, .inr (4, [.ref (nq 0), .ref (q 1), .int l_oldest, .int l_historySize, .ref (q 2), .int l_textLength, .ref (rq 0), .ref (wq 0), .ref (q 3)])), (q 1, .inl (g.2 4, 5, .inr (.inr (.inr (.inr (fun i => some (hq i 0))))))), (q 2, .inl (g.2 2, 160, .inl l_text)), (q 3, .inl (g.2 1, 720, .inr (.inl l_rightAlone)))]
abbrev wT (g : GG) (q : Nat → Nat) (t_text : Nat → Int32) : va_W := [(q 0, .inl (g.2 2, 160, .inl t_text))]
