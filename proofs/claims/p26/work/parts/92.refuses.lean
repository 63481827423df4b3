/-! what is refused -/
theorem cnt_no {c : Nat} (h : c ≤ 4) : ¬ (0 ≤ (nI c).toInt ∧ (nI c).toInt ≤ (c : Int) - 1) := by
  rw [i_nI (by omega)]
  omega
theorem neg_no (c : Nat) : ¬ (0 ≤ (-1 : Int32).toInt ∧ (-1 : Int32).toInt ≤ (c : Int) - 1) := by
  have : (-1 : Int32).toInt = -1 := by decide
  omega
theorem tL_refuses {S : AS} {n : Nat} {h : Nat → AS} (hS : okS 5000 S) {k : Int32 → VS → Prop} (hk : k 1 (S, n, h)) : PL_refuses (S, n, h) k := by
  have hc := hS.1
  have hno := cnt_no hc
  have hm : (-1 : Int32).toInt = -1 := by decide
  unfold PL_refuses
  refine tA_count8 (tA_count0 ?_)
  refine tA_addPictureX (by decide) ⟨fun c => absurd rfl c, fun _ => ?_⟩
  refine tA_addPictureX (by decide) ⟨fun c => absurd rfl c, fun _ => ?_⟩
  refine tA_paintX hno ⟨fun c => absurd rfl c, fun _ => ?_⟩
  refine tA_setPlaceX hno ⟨fun c => absurd rfl c, fun _ => ?_⟩
  refine tA_setKindX (neg_no _) ⟨fun c => absurd rfl c, fun _ => ?_⟩
  refine tA_load hno ⟨fun c => absurd rfl c, fun _ => ?_⟩
  refine tA_setSecondArmX (by decide) ⟨fun c => absurd rfl c, fun _ => ?_⟩
  refine tA_setBrokenX (x := 0) (by omega) (by decide) ⟨fun c => absurd rfl c, fun _ => ?_⟩
  refine tA_setX (x := 0) (by omega) (fun z => absurd (show -60 ≤ (-61 : Int32).toInt from z.1) (by decide)) ⟨fun c => absurd rfl c, fun _ => ?_⟩
  refine tA_setX (x := 1) (by omega) (fun z => absurd (show 1 ≤ (0 : Int32).toInt from z.1) (by decide)) ⟨fun c => absurd rfl c, fun _ => ?_⟩
  refine tA_setX (x := 3) (by omega) (fun z => absurd (show 1 ≤ (0 : Int32).toInt from z.1) (by decide)) ⟨fun c => absurd rfl c, fun _ => ?_⟩
  refine tA_setX (x := 2) (by omega) (fun z => absurd (show (10000 : Int32).toInt ≤ 9999 from z.2) (by decide)) ⟨fun c => absurd rfl c, fun _ => ?_⟩
  refine tA_runX (by decide) ⟨fun c => absurd rfl c, fun _ => ?_⟩
  refine tA_append (by decide) ⟨fun c => absurd rfl c, fun _ => ?_⟩
  unfold PL_refuses_J1
  refine ⟨fun c => absurd c (by decide), fun _ => ?_⟩
  refine tA_countX ⟨fun c => absurd rfl c, fun _ => ?_⟩
  refine tA_settingX (by decide) ⟨fun c => absurd rfl c, fun _ => ?_⟩
  refine tA_pictureX hno ⟨fun c => absurd rfl c, fun _ => ?_⟩
  refine tA_colorX hno ⟨fun c => absurd rfl c, fun _ => ?_⟩
  refine tA_brokenX (by decide) ⟨fun c => absurd rfl c, fun _ => ?_⟩
  refine tA_placeX (by decide) ⟨fun c => absurd rfl c, fun _ => ?_⟩
  refine tA_columnAtX hno ⟨fun c => absurd rfl c, fun _ => ?_⟩
  refine tA_gapsX (by decide) ⟨fun c => absurd rfl c, fun _ => ?_⟩
  refine tA_bestSpeedX (by decide) ⟨fun c => absurd rfl c, fun _ => ?_⟩
  refine tA_meetingsX hno ⟨fun c => absurd rfl c, fun _ => ?_⟩
  unfold PL_refuses_J2
  refine ⟨fun c => absurd c (by decide), fun _ => ?_⟩
  exact tA_count8 ⟨fun c => absurd rfl c, fun _ => tA_count0 ⟨fun c => absurd rfl c, fun _ => hk⟩⟩
