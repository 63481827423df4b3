theorem l_orW {d : Nat → Nat} {l : Nat} (hd : ∀ l, l < 12 → d l ≤ 1) (hl : l < 12) : lN (dg 8 12 d) ||| lN (8 ^ l) = lN (dg 8 12 (nu d l 1)) := by
  have hd8 : ∀ l, l < 12 → d l < 8 := fun l hl => by have := hd l hl; omega
  have e7 : ∀ j, j < 12 → (if j = l then 1 else 0) < 8 := fun j _ => by split <;> omega
  have q1 : dg 8 12 (fun j => if j = l then 1 else 0) = 1 * 8 ^ l := dg_one hl
  have b1 := l_lt hd8
  have b2 := l_lt e7
  rw [show 8 ^ l = 1 * 8 ^ l by omega, ← q1, wb_or (by omega) (by omega), dg8_or hd8 e7]
  refine congrArg lN (dg_congr fun j hj => ?_)
  have hdj := hd j hj
  show d j ||| (if j = l then 1 else 0) = nu d l 1 j
  by_cases e : j = l
  · rw [if_pos e, e, nu_s]
    rw [e] at hdj
    rcases (show d l = 0 ∨ d l = 1 by omega) with z | z <;> rw [z] <;> rfl
  · rw [if_neg e, nu_n e, Nat.or_zero]
theorem l_andW {d : Nat → Nat} {l : Nat} (hd : ∀ l, l < 12 → d l ≤ 1) (hl : l < 12) : lN (dg 8 12 d) &&& (lN (8 ^ l) ^^^ (-1 : Int64)) = lN (dg 8 12 (nu d l 0)) := by
  have hd8 : ∀ l, l < 12 → d l < 8 := fun l hl => by have := hd l hl; omega
  have e7 : ∀ j, j < 12 → (if j = l then 1 else 0) < 8 := fun j _ => by split <;> omega
  have q1 : dg 8 12 (fun j => if j = l then 1 else 0) = 1 * 8 ^ l := dg_one hl
  have b1 := l_lt hd8
  have b2 := l_lt e7
  have b5 : dg 8 12 (fun j => if j = l then 1 else 0) ^^^ (2 ^ 64 - 1) < 2 ^ 64 := Nat.xor_lt_two_pow (n := 64) (by omega) (by decide)
  rw [show 8 ^ l = 1 * 8 ^ l by omega, ← q1, l_all1, l_xor, wb_and (by omega) b5, dg8_andn (n := 12) (w := 64) (by decide) hd8 e7]
  refine congrArg lN (dg_congr fun j hj => ?_)
  have hdj := hd j hj
  show d j &&& ((if j = l then 1 else 0) ^^^ 7) = nu d l 0 j
  by_cases e : j = l
  · rw [if_pos e, e, nu_s]
    rw [e] at hdj
    rcases (show d l = 0 ∨ d l = 1 by omega) with z | z <;> rw [z] <;> rfl
  · rw [if_neg e, nu_n e]
    rcases (show d j = 0 ∨ d j = 1 by omega) with z | z <;> rw [z] <;> rfl
theorem sim_setBroken : SIM_setBroken RR := by
  intro l_oldest l_historySize l_text l_textLength n_pictureCount n_angle n_speed n_ticks n_load n_secondArm n_settings n_working n_written n_writtenIn n_width n_first n_step n_kind n_columns hist b_m b_written b_states b_fifth b_oldest b_stateCount b_text b_textLength a_1 a_2 a_3 hR
  obtain ⟨S, o, n, h, tl, tx, hS, hC, hM, hO, hHC, hHM, e1, e2, e3, e4, hT⟩ := id hR
  obtain ⟨c1, c2, c3, c4, c5, c6, c7, cW, cP⟩ := id hC
  obtain ⟨m1, m2, m3, m4, m5, m6, m7, mW, mP⟩ := id hM
  obtain ⟨k1, k2, k3, k4, k5, k6, k7, ⟨k8, hb, k9⟩⟩ := id hS
  unfold PX4_setBroken PX5_setBroken
  refine pick4 (L := 0) (H := 1) (by decide) (by decide) (fun x _ hx ex => ⟨fun c => absurd c (by decide), fun _ => ?_⟩) (fun c => ⟨fun _ => ?_, fun q => absurd rfl q⟩)
  · subst ex
    have hx2 : x < 2 := by omega
    refine pick4 (L := 0) (H := 11) (by decide) (by decide) (fun y _ hy ey => ⟨fun c => absurd c (by decide), fun _ => ?_⟩) (fun c => ⟨fun _ => ?_, fun q => absurd rfl q⟩)
    · subst ey
      have hy12 : y < 12 := by omega
      refine pick4 (L := 0) (H := 1) (by decide) (by decide) (fun z _ hz ez => ⟨fun _ => ?_, fun c => absurd c (by decide)⟩) (fun c => ⟨fun q => absurd rfl q, fun _ => ?_⟩)
      · subst ez
        refine tC_record hS hC hO hHC e1 e3 fun hist' hH' => ?_
        have fin : ∀ (r : Int32) (nw : Nat → Int64), nw = vp_updL n_working x (lN (dg 8 12 (nu (s_wk S x) y (1 - z)))) → r = nI (1 - s_wk S x y) → PX5_in (nI x) (0 : Int32) (1 : Int32) (fun r3_1 => ((r3_1 = 0 → (r = (-101 : Int32) ∧ RR (nI (po o n)) (nI (pn n)) l_text l_textLength n_pictureCount n_angle n_speed n_ticks n_load n_secondArm n_settings nw n_written n_writtenIn n_width n_first n_step n_kind n_columns hist' b_m b_written b_states b_fifth b_oldest b_stateCount b_text b_textLength)) ∧ (¬ r3_1 = 0 → PX5_isLight (nI y) (fun r10_3 => ((r10_3 = 0 → (r = (-101 : Int32) ∧ RR (nI (po o n)) (nI (pn n)) l_text l_textLength n_pictureCount n_angle n_speed n_ticks n_load n_secondArm n_settings nw n_written n_writtenIn n_width n_first n_step n_kind n_columns hist' b_m b_written b_states b_fifth b_oldest b_stateCount b_text b_textLength)) ∧ (¬ r10_3 = 0 → PX5_in (nI z) (0 : Int32) (1 : Int32) (fun r19_5 => ((¬ r19_5 = 0 → PX5_record b_m b_written b_states b_fifth b_oldest b_stateCount  (fun b_states_7 b_fifth_8 b_oldest_9 b_stateCount_10 => PX5_isBroken b_m (nI x) (nI y) (fun r35_11 => ((r35_11 = 0 → (vp_in ((9 : Int32) + (nI x)) 348 ∧ (vp_in ((9 : Int32) + (nI x)) 348 ∧ (∀ b_m_15 : Nat → Int32, b_m_15 = upd b_m (Int32.toNatClampNeg ((9 : Int32) + (nI x))) (((b_m (Int32.toNatClampNeg ((9 : Int32) + (nI x)))) &&& (((1 : Int32) <<< ((nI y) &&& 31)) ^^^ (-1 : Int32))) ||| ((nI z) <<< ((nI y) &&& 31))) → (r = (0 : Int32) ∧ RR (nI (po o n)) (nI (pn n)) l_text l_textLength n_pictureCount n_angle n_speed n_ticks n_load n_secondArm n_settings nw n_written n_writtenIn n_width n_first n_step n_kind n_columns hist' b_m_15 b_written b_states_7 b_fifth_8 b_oldest_9 b_stateCount_10 b_text b_textLength))))) ∧ (¬ r35_11 = 0 → (vp_in ((9 : Int32) + (nI x)) 348 ∧ (vp_in ((9 : Int32) + (nI x)) 348 ∧ (∀ b_m_18 : Nat → Int32, b_m_18 = upd b_m (Int32.toNatClampNeg ((9 : Int32) + (nI x))) (((b_m (Int32.toNatClampNeg ((9 : Int32) + (nI x)))) &&& (((1 : Int32) <<< ((nI y) &&& 31)) ^^^ (-1 : Int32))) ||| ((nI z) <<< ((nI y) &&& 31))) → (r = (1 : Int32) ∧ RR (nI (po o n)) (nI (pn n)) l_text l_textLength n_pictureCount n_angle n_speed n_ticks n_load n_secondArm n_settings nw n_written n_writtenIn n_width n_first n_step n_kind n_columns hist' b_m_18 b_written b_states_7 b_fifth_8 b_oldest_9 b_stateCount_10 b_text b_textLength))))))))) ∧ (r19_5 = 0 → (r = (-101 : Int32) ∧ RR (nI (po o n)) (nI (pn n)) l_text l_textLength n_pictureCount n_angle n_speed n_ticks n_load n_secondArm n_settings nw n_written n_writtenIn n_width n_first n_step n_kind n_columns hist' b_m b_written b_states b_fifth b_oldest b_stateCount b_text b_textLength)))))))))) := by
          intro r nw enw er
          refine yes5 (L := 0) (H := 1) (by decide) (by decide) (by omega) hx ⟨fun c => absurd c (by decide), fun _ => ?_⟩
          refine yes5l hy ⟨fun c => absurd c (by decide), fun _ => ?_⟩
          refine yes5 (L := 0) (H := 1) (by decide) (by decide) (by omega) hz ⟨fun _ => ?_, fun c => absurd c (by decide)⟩
          refine tM_record hM hO hHM e2 e4 fun st' fi' hM' => ?_
          have e9 : (9 : Int32) + nI x = nI (9 + x) := nI_add 9 x
          have hd : ∀ l, l < 12 → 1 - s_wk S x l < 2 := fun l hl => by omega
          rw [e9, nI_clamp (by omega), mW.1 x hx2, dg_set2 hd hy12 (by omega)]
          have hvp : vp_in (nI (9 + x)) 348 := vp_in_nI (by omega) (by decide)
          have main : ∀ m', m' = upd b_m (9 + x) (nI (dg 2 12 (nu (fun l => 1 - s_wk S x l) y z))) → RR (nI (po o n)) (nI (pn n)) l_text l_textLength n_pictureCount n_angle n_speed n_ticks n_load n_secondArm n_settings nw n_written n_writtenIn n_width n_first n_step n_kind n_columns hist' m' b_written st' fi' (nI (po o n)) (nI (pn n)) b_text b_textLength := by
            intro m' em'
            refine ⟨(s_cnt S, s_ang S, s_spd S, s_tck S, s_ld S, s_sec S, s_stg S, nu (s_wk S) x (nu (s_wk S x) y (1 - z)), S.2.2.2.2.2.2.2.2), po o n, pn n, ph n h S, tl, tx, ⟨k1, k2, k3, k4, k5, k6, k7, ⟨k8, fun a l ha hl => ?_, k9⟩⟩, ⟨c1, c2, c3, c4, c5, c6, c7, rcW_cong cW fun a ha => ?_, cP⟩, ?_, HO_push hO hS, hH', hM', rfl, rfl, rfl, rfl, hT⟩
            · show nu (s_wk S) x (nu (s_wk S x) y (1 - z)) a l ≤ 1
              by_cases w : a = x
              · rw [w, nu_s]
                by_cases v : l = y
                · rw [v, nu_s]; omega
                · rw [nu_n v]; exact hb x l hx2 hl
              · rw [nu_n w]; exact hb a l ha hl
            · show nw a = lN (dg 8 12 (nu (s_wk S) x (nu (s_wk S x) y (1 - z)) a))
              rw [enw]
              by_cases w : a = x
              · rw [w, nu_s, pk_uLs]
              · rw [nu_n w, pk_uLn w]; exact cW.1 a ha
            · subst em'
              refine ⟨by rw [pk_un (by omega)]; exact m1, by rw [pk_un (by omega)]; exact m2, by rw [pk_un (by omega)]; exact m3, by rw [pk_un (by omega)]; exact m4, by rw [pk_un (by omega)]; exact m5, by rw [pk_un (by omega)]; exact m6, fun j hj => by rw [pk_un (by omega)]; exact m7 j hj, ⟨fun a ha => ?_, mW.2⟩, rmP_upd (by omega) mP⟩
              show upd b_m (9 + x) (nI (dg 2 12 (nu (fun l => 1 - s_wk S x l) y z))) (9 + a) = nI (dg 2 12 (fun l => 1 - nu (s_wk S) x (nu (s_wk S x) y (1 - z)) a l))
              by_cases w : a = x
              · rw [w, pk_us, nu_s]
                refine congrArg nI (dg_congr fun j hj => ?_)
                by_cases v : j = y
                · rw [v, nu_s, nu_s]; omega
                · rw [nu_n v, nu_n v]
              · rw [nu_n w, pk_un (by omega)]; exact mW.1 a ha
          refine tM_isBroken mW hb hx2 hy12 (fun w => ⟨fun _ => ⟨hvp, hvp, fun m' em' => ⟨?_, main m' em'⟩⟩, fun q => absurd rfl q⟩) (fun w => ⟨fun c => absurd c (by decide), fun _ => ⟨hvp, hvp, fun m' em' => ⟨?_, main m' em'⟩⟩⟩)
          · rw [er, w]; rfl
          · rw [er, w]; rfl
        have hbx : ∀ l, l < 12 → s_wk S x l ≤ 1 := fun l hl => hb x l hx2 hl
        have ebit : ((1 : Int64) <<< (((nI y) * (3 : Int32)).toInt64 &&& 63)) = lN (8 ^ y) := by
          have := l_shl 1 y hy12
          rwa [Nat.one_mul] at this
        have hvp : vp_in (nI x) 2 := vp_in_nI hx2 (by decide)
        rw [nI_clamp (by omega), cW.1 x hx2]
        have hz1 : nI z = (1 : Int32) ↔ z = 1 := nI_eq (b := 1) (by omega) (by omega)
        refine tC_works cW.1 hb hx2 hy12 (fun w => ⟨fun c => absurd c (by decide), fun _ v ev => ?_⟩) (fun w => ⟨fun _ v ev => ?_, fun q => absurd rfl q⟩)
        · rw [ebit] at ev
          subst ev
          rw [l_orW hbx hy12, l_andW hbx hy12]
          refine ⟨fun c => ⟨hvp, hvp, fun nw enw => fin _ nw ?_ (by rw [w]; rfl)⟩, fun c => ⟨hvp, hvp, fun nw enw => fin _ nw ?_ (by rw [w]; rfl)⟩⟩
          · rw [hz1] at c
            rw [enw, show 1 - z = 1 by omega]
          · rw [hz1] at c
            rw [enw, show 1 - z = 0 by omega]
        · rw [ebit] at ev
          subst ev
          rw [l_orW hbx hy12, l_andW hbx hy12]
          refine ⟨fun c => ⟨hvp, hvp, fun nw enw => fin _ nw ?_ (by rw [w]; rfl)⟩, fun c => ⟨hvp, hvp, fun nw enw => fin _ nw ?_ (by rw [w]; rfl)⟩⟩
          · rw [hz1] at c
            rw [enw, show 1 - z = 1 by omega]
          · rw [hz1] at c
            rw [enw, show 1 - z = 0 by omega]
      · unfold PX4_setBroken_J1
        refine yes5 (L := 0) (H := 1) (by decide) (by decide) (by omega) hx ⟨fun c => absurd c (by decide), fun _ => ?_⟩
        refine yes5l hy ⟨fun c => absurd c (by decide), fun _ => ?_⟩
        exact no5 (A := 0) (B := 1) (by decide) (by decide) c ⟨fun q => absurd rfl q, fun _ => ⟨rfl, hR⟩⟩
    · unfold PX4_setBroken_J1
      refine yes5 (L := 0) (H := 1) (by decide) (by decide) (by omega) hx ⟨fun c => absurd c (by decide), fun _ => ?_⟩
      exact no5l c ⟨fun _ => ⟨rfl, hR⟩, fun q => absurd rfl q⟩
  · unfold PX4_setBroken_J1
    exact no5 (A := 0) (B := 1) (by decide) (by decide) c ⟨fun _ => ⟨rfl, hR⟩, fun q => absurd rfl q⟩
