/-! lot: any number of the script, or any other -/
def PreX (b L : Nat) (xs : Nat → Int32) (av : List Value) : Array Value → State → Prop := va_Pc av (fun U => va_X b L xs U U.heap ∧ b < U.heap.size)
theorem PreX_blind {b L : Nat} {xs : Nat → Int32} {av : List Value} : FrameBlind (PreX b L xs av) := fun _ U g mk h => ⟨h.1, va_X.moved (U := U.calling g mk _) (Vm.Alike.refl U.vm) h.2.1, h.2.2⟩
theorem preS_X {s : State} {H : Heap} {b L : Nat} {xs : Nat → Int32} {A : Nat → Prop} {locs : List Loc} {As : List Value} (hX : va_X b L xs s s.heap) (hbl : b < s.heap.size) (hbA : ¬ A b) (hS : va_S A s.heap H locs) : PreS s H (PreX b L xs As) As :=
  ⟨PreX_blind, fun U hU hW => ⟨rfl, by rw [hU]; exact (hX.kept (hS.2.1 b hbl hbA)).moved hW.alike, by rw [hU]; exact Nat.lt_of_lt_of_le hbl hS.1⟩⟩
theorem hdL_lot : yL_lot.cls = RL ∧ yL_lot.cls ≠ "java/lang/invoke/MethodHandle" ∧ yL_lot.cls ≠ "java/lang/invoke/VarHandle" ∧ (parseMethodDescriptor yL_lot.desc).map (fun d => d.parameters.length) = some 2 := by decide +kernel
set_option maxHeartbeats 2000000 in
set_option maxRecDepth 100000 in
theorem kL_lot (l : Launch) (b L : Nat) (xs : Nat → Int32) (k : Int32) (hL : L ≤ 260) (hk : (0 : Int32) ≤ k) : Met l yL_lot wsL_lot ({ frames := 0, cells := 0, slots := 0, locals := 0 }) (PreX b L xs [.ref b, .int k]) (vp_Si (fun _ => True)) 0 0 (fun _ => False) := by
  refine Met_ofWF (cc := cL_lot) (maxL := 2) (ret := (some .int)) (by decide +kernel) rfl ?_
  intro p e s m args below meth c s₁ B hml hv
  obtain ⟨rfl, hX, hbl⟩ := hv
  have hx := B.exec
  have hb := B.bytes
  have hr := B.returns
  have hts := atoms_spec (ws := wsL_lot) B.pre
  have hown : s.vm.findClass RL = some m.cls := findClass_of_methodNamed B.named
  have hlocks := B.notSynchronized
  have hS : va_S (fun _ : Nat => False) s.heap s.heap [] := va_S.rf
  have hbA : ¬ (fun _ : Nat => False) b := fun h => h
  have hl := lv_entry ([.ref b, .int k]) (n := 2) (Nat.le_of_ble_eq_true rfl)
  rw [lg_entry_eq]
  generalize (lg_sl ([.ref b, .int k]) ++ List.replicate (2 - (lg_sl ([.ref b, .int k])).length) Slot.unset).toArray = ls at hl ⊢
  have hl : lv_has ls 2 [(0, .ref b), (1, .int k)] := hl
  refine lv_iload_n hx hb dL_lot_0 rfl (lv_at hl 1 rfl) ?_
  refine lv_aload_n hx hb dL_lot_1 rfl (lv_at hl 0 rfl) ?_
  refine va_slen hx hb hX hbl hbA hS dL_lot_2 ?_
  refine lv_icmp_ge (tgt := 12) hx hb dL_lot_3 (by decide) (fun c_3 => ?_) (fun c_3 => ?_)
  · refine lv_ldc (v := (1908658101 : Int32)) hx hb hown (hts (.constant RL 7 (1908658101)) (by decide +kernel)) dL_lot_12 ?_
    refine lv_iload_n hx hb dL_lot_14 rfl (lv_at hl 1 rfl) ?_
    refine lv_sipush (v := (1933 : Int32)) hx hb dL_lot_15 (by decide) ?_
    refine lv_iadd hx hb dL_lot_18 ?_
    refine lv_imul hx hb dL_lot_19 ?_
    refine lv_sipush (v := (1741 : Int32)) hx hb dL_lot_20 (by decide) ?_
    refine lv_iadd hx hb dL_lot_23 ?_
    exact W.iret hx hb hr (fun t ht hW => ⟨_, rfl, trivial, ht⟩) (fun _ h9 => by cases h9) dL_lot_24
  · have hin : vp_in k L := by
      have h1 : ¬ (L : Int) ≤ k.toInt := by
        intro z
        apply c_3
        rw [Int32.le_iff_toInt_le]
        have : (Int32.ofNat L).toInt = (L : Int) := nI_toInt (by omega)
        rw [this]
        exact z
      have h0 : 0 ≤ k.toInt := Int32.le_iff_toInt_le.mp hk
      have e : k = nI k.toInt.toNat := i_of (by omega)
      rw [e]
      exact vp_in_nI (by omega) (by omega)
    refine lv_aload_n hx hb dL_lot_6 rfl (lv_at hl 0 rfl) ?_
    refine lv_iload_n hx hb dL_lot_7 rfl (lv_at hl 1 rfl) ?_
    refine va_sld hx hb hX hbl hbA hS hin dL_lot_8 ?_
    refine lv_goto (tgt := 24) hx hb dL_lot_9 (by decide) ?_
    exact W.iret hx hb hr (fun t ht hW => ⟨_, rfl, trivial, ht⟩) (fun _ h9 => by cases h9) dL_lot_24
