/-! at the start both say the same -/
def S00 : AS := (0, 0, 10, 0, 0, 0, nu (nu (nu (nu (fun _ => 0) 0 10) 1 5) 2 9999) 3 20, fun _ _ => 1, fun _ _ => 0, fun _ _ => 0, fun _ => 1, fun _ => 0, fun _ => 6, fun _ => 0, fun _ _ _ => 0)
theorem stg00 : ∀ j, j < 4 → ((upd (upd (upd (upd (fun _ => 0) 0 (10 : Int32)) 1 (5 : Int32)) 2 (9999 : Int32)) 3 (20 : Int32)) j).toInt = s_stg S00 j := by decide +kernel
theorem stg00m : ∀ j, j < 4 → ((upd (upd (upd (upd (upd (fun _ => 0) 0 (10 : Int32)) 1 (5 : Int32)) 2 (9999 : Int32)) 3 (20 : Int32)) 5 (10 : Int32)) j).toInt = s_stg S00 j := by decide +kernel
theorem S00_ok : okS 5000 S00 := by
  refine ⟨by decide, by decide, ⟨by decide, by decide⟩, by decide, by decide, ⟨⟨by decide, by decide⟩, ⟨by decide, by decide⟩, ⟨by decide, by decide⟩, ⟨by decide, by decide⟩⟩, ⟨fun p hp => absurd hp (by show ¬ p < 0; omega), fun p _ => ⟨show 0 < 720 by omega, show 1 ≤ 6 by omega, show 6 ≤ 18 by omega, show 0 ≤ 2 by omega⟩, fun p c l _ _ _ => show 0 < 8 by omega, fun p _ _ => ⟨rfl, rfl, rfl, fun _ _ _ _ => rfl⟩⟩, ⟨by decide, fun a l _ _ => show 1 ≤ 1 by omega, fun a l _ _ => show 0 < 8 by omega, fun a l _ _ => show 0 ≤ 0 by omega⟩⟩
