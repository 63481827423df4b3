/-! the class's actions, over the one mathematical value -/
theorem pickp {cnt p : Nat} {P1 : Prop} {P2 : Nat → Prop} (hc : cnt ≤ 4) (hp : p < cnt) (h : P2 p) : PX2_pictureNumbered (nI cnt) (nI p) (fun o => (o = none → P1) ∧ (∀ j : Nat, j < 4 → o = some j → P2 j)) := by
  refine pick4p hc (fun q hq eq => ?_) (fun c => absurd ?_ c)
  · have e : p = q := (nI_eq (by omega) (by omega)).mp eq
    subst e
    exact ⟨fun c => absurd c (by simp), fun j hj ej => by obtain rfl : p = j := by simpa using ej
                                                          exact h⟩
  · rw [i_nI (by omega)]; omega
theorem pickno {cnt : Nat} {a : Int32} {P1 : Prop} {P2 : Nat → Prop} (hc : cnt ≤ 4) (h0 : ¬ (0 ≤ a.toInt ∧ a.toInt ≤ (cnt : Int) - 1)) (h : P1) : PX2_pictureNumbered (nI cnt) a (fun o => (o = none → P1) ∧ (∀ j : Nat, j < 4 → o = some j → P2 j)) := by
  refine pick4p hc (fun q hq eq => absurd ?_ h0) (fun c => ⟨fun _ => h, fun j _ ej => absurd ej (by simp)⟩)
  rw [eq, i_nI (by omega)]; omega
theorem yes4 {lo hi : Int32} {x L H : Nat} {k : Int32 → Prop} (hlo : lo.toInt = (L : Int)) (hhi : hi.toInt = (H : Int)) (h1 : L ≤ x) (h2 : x ≤ H) (h : k 1) : PX4_within (nI x) lo hi k := by
  have hH := Int32.toInt_lt hi
  refine pX4_within hlo hhi (fun _ _ => h) (fun c => absurd ?_ c)
  rw [i_nI (show x < 2 ^ 31 by omega)]
  omega
theorem no4 {lo hi a : Int32} {A B : Int} {k : Int32 → Prop} (hlo : lo.toInt = A) (hhi : hi.toInt = B) (h : ¬ (A ≤ a.toInt ∧ a.toInt ≤ B)) (hk : k 0) : PX4_within a lo hi k :=
  pX4_within hlo hhi (fun c1 c2 => absurd ⟨c1, c2⟩ h) (fun _ => hk)
abbrev act (S : AS) (n : Nat) (h : Nat → AS) (S' : AS) : VS := (S', pn n, ph n h S)
theorem RAC_out {S : AS} {n : Nat} {h : Nat → AS} {l_oldest : Int32} {l_historySize : Int32} {n_pictureCount : Int32} {n_angle : Int32} {n_speed : Int32} {n_ticks : Int32} {n_load : Int32} {n_secondArm : Int32} {n_settings : Nat → Int32} {n_working : Nat → Int64} {n_written : Nat → Int64} {n_writtenIn : Nat → Int32} {n_width : Nat → Int32} {n_first : Nat → Int32} {n_step : Nat → Int32} {n_kind : Nat → Int32} {n_columns : Nat → Nat → Int64} {hist : Nat → StC} (hR : RAC (S, n, h) l_oldest l_historySize n_pictureCount n_angle n_speed n_ticks n_load n_secondArm n_settings n_working n_written n_writtenIn n_width n_first n_step n_kind n_columns hist) : okS 5000 S ∧ repC S n_pictureCount n_angle n_speed n_ticks n_load n_secondArm n_settings n_working n_written n_writtenIn n_width n_first n_step n_kind n_columns ∧ ∃ o : Nat, HO o n h ∧ HC o n h hist ∧ l_oldest = nI o ∧ l_historySize = nI n := hR
abbrev kdS (S : AS) (p x : Nat) : AS := sP S (s_cnt S) (s_wd S) (s_fs S) (s_sp S) (nu (s_kd S) p x) (s_co S)
theorem tA_setKind {S : AS} {n : Nat} {h : Nat → AS} {k : Int32 → VS → Prop} {p x : Nat} (hp : p < s_cnt S) (hx : x ≤ 2) (hk : okS 5000 (kdS S p x) → k (nI (s_kd S p)) (act S n h (kdS S p x))) : PA_setKind (S, n, h) (nI p) (nI x) k := by
  intro l_oldest l_historySize n_pictureCount n_angle n_speed n_ticks n_load n_secondArm n_settings n_working n_written n_writtenIn n_width n_first n_step n_kind n_columns hist hR
  obtain ⟨hS, hC, o, hO, hHC, e1, e3⟩ := RAC_out hR
  have hcnt := hS.1
  have hpc := hC.1
  subst hpc
  unfold PX4_setKind
  refine pickp hcnt hp ?_
  refine yes4 (L := 0) (H := 2) (by decide) (by decide) (by omega) hx ⟨fun _ => ?_, fun c => absurd c (by decide)⟩
  refine tC_record hS hC hO hHC e1 e3 fun hist' hH' => ?_
  intro v ev nk ek
  obtain ⟨-, -, -, -, -, -, -, -, cP⟩ := id hC
  have hok : okS 5000 (kdS S p x) := by
    refine sP_ok hS hcnt ?_
    obtain ⟨-, -, -, -, -, -, ⟨k1, k2, k3, k4⟩, -⟩ := hS
    refine ⟨k1, fun q hq => ⟨(k2 q hq).1, (k2 q hq).2.1, (k2 q hq).2.2.1, ?_⟩, k3, fun q h1 h2 => ?_⟩
    · by_cases z : q = p
      · rw [z, nu_s]; exact hx
      · rw [nu_n z]; exact (k2 q hq).2.2.2
    · rw [nu_n (by omega)]; exact k4 q h1 h2
  refine ⟨act S n h (kdS S p x), ⟨hok, sP_C hC rfl ?_, po o n, HO_push hO hS, hH', rfl, rfl⟩, ?_⟩
  · refine ⟨cP.1, fun q hq => ⟨(cP.2.1 q hq).1, (cP.2.1 q hq).2.1, ?_⟩, cP.2.2⟩
    rw [ek]
    by_cases z : q = p
    · rw [z, nu_s, pk_us]
    · rw [nu_n z, pk_un z]; exact (cP.2.1 q hq).2.2
  · rw [ev, (cP.2.1 p (by omega)).2.2]
    exact hk hok
theorem tA_setKindX {S : AS} {n : Nat} {h : Nat → AS} {k : Int32 → VS → Prop} {a b : Int32} (h0 : ¬ (0 ≤ a.toInt ∧ a.toInt ≤ (s_cnt S : Int) - 1)) (hk : k (-101) (S, n, h)) : PA_setKind (S, n, h) a b k := by
  intro l_oldest l_historySize n_pictureCount n_angle n_speed n_ticks n_load n_secondArm n_settings n_working n_written n_writtenIn n_width n_first n_step n_kind n_columns hist hR
  obtain ⟨hS, hC, o, hO, hHC, e1, e3⟩ := RAC_out hR
  have hcnt := hS.1
  have hpc := hC.1
  subst hpc
  unfold PX4_setKind
  exact pickno hcnt h0 ⟨(S, n, h), hR, hk⟩
abbrev plS (S : AS) (p x y : Nat) : AS := sP S (s_cnt S) (s_wd S) (nu (s_fs S) p x) (nu (s_sp S) p y) (s_kd S) (s_co S)
theorem tA_setPlace {S : AS} {n : Nat} {h : Nat → AS} {k : Int32 → VS → Prop} {p x y : Nat} (hp : p < s_cnt S) (hx : x ≤ 719) (hy0 : 1 ≤ y) (hy : y ≤ 18) (hk : okS 5000 (plS S p x y) → k (nI (s_fs S p)) (act S n h (plS S p x y))) : PA_setPlace (S, n, h) (nI p) (nI x) (nI y) k := by
  intro l_oldest l_historySize n_pictureCount n_angle n_speed n_ticks n_load n_secondArm n_settings n_working n_written n_writtenIn n_width n_first n_step n_kind n_columns hist hR
  obtain ⟨hS, hC, o, hO, hHC, e1, e3⟩ := RAC_out hR
  have hcnt := hS.1
  have hpc := hC.1
  subst hpc
  unfold PX4_setPlace
  refine pickp hcnt hp ?_
  refine yes4 (L := 0) (H := 719) (by decide) (by decide) (by omega) hx ⟨fun c => absurd c (by decide), fun _ => ?_⟩
  refine yes4 (L := 1) (H := 18) (by decide) (by decide) hy0 hy ⟨fun _ => ?_, fun c => absurd c (by decide)⟩
  refine tC_record hS hC hO hHC e1 e3 fun hist' hH' => ?_
  intro v ev nk ek nk2 ek2
  obtain ⟨-, -, -, -, -, -, -, -, cP⟩ := id hC
  have hok : okS 5000 (plS S p x y) := by
    refine sP_ok hS hcnt ?_
    obtain ⟨-, -, -, -, -, -, ⟨k1, k2, k3, k4⟩, -⟩ := hS
    refine ⟨k1, fun q hq => ?_, k3, fun q h1 h2 => ?_⟩
    · by_cases z : q = p
      · rw [z, nu_s, nu_s]; exact ⟨by omega, by omega, by omega, (k2 p (by omega)).2.2.2⟩
      · rw [nu_n z, nu_n z]; exact k2 q hq
    · rw [nu_n (by omega), nu_n (by omega)]; exact k4 q h1 h2
  refine ⟨act S n h (plS S p x y), ⟨hok, sP_C hC rfl ?_, po o n, HO_push hO hS, hH', rfl, rfl⟩, ?_⟩
  · refine ⟨cP.1, fun q hq => ?_, cP.2.2⟩
    rw [ek, ek2]
    by_cases z : q = p
    · rw [z, nu_s, nu_s, pk_us, pk_us]; exact ⟨rfl, rfl, (cP.2.1 p (by omega)).2.2⟩
    · rw [nu_n z, nu_n z, pk_un z, pk_un z]; exact cP.2.1 q hq
  · rw [ev, (cP.2.1 p (by omega)).1]
    exact hk hok
theorem tA_setPlaceX {S : AS} {n : Nat} {h : Nat → AS} {k : Int32 → VS → Prop} {a b c : Int32} (h0 : ¬ (0 ≤ a.toInt ∧ a.toInt ≤ (s_cnt S : Int) - 1)) (hk : k (-101) (S, n, h)) : PA_setPlace (S, n, h) a b c k := by
  intro l_oldest l_historySize n_pictureCount n_angle n_speed n_ticks n_load n_secondArm n_settings n_working n_written n_writtenIn n_width n_first n_step n_kind n_columns hist hR
  obtain ⟨hS, hC, o, hO, hHC, e1, e3⟩ := RAC_out hR
  have hcnt := hS.1
  have hpc := hC.1
  subst hpc
  unfold PX4_setPlace
  exact pickno hcnt h0 ⟨(S, n, h), hR, hk⟩
abbrev seS (S : AS) (x : Nat) : AS := (s_cnt S, s_ang S, s_spd S, s_tck S, s_ld S, x, S.2.2.2.2.2.2)
theorem tA_setSecondArm {S : AS} {n : Nat} {h : Nat → AS} {k : Int32 → VS → Prop} {x : Nat} (hx : x ≤ 1) (hk : okS 5000 (seS S x) → k (nI (s_sec S)) (act S n h (seS S x))) : PA_setSecondArm (S, n, h) (nI x) k := by
  intro l_oldest l_historySize n_pictureCount n_angle n_speed n_ticks n_load n_secondArm n_settings n_working n_written n_writtenIn n_width n_first n_step n_kind n_columns hist hR
  obtain ⟨hS, hC, o, hO, hHC, e1, e3⟩ := RAC_out hR
  unfold PX4_setSecondArm
  refine yes4 (L := 0) (H := 1) (by decide) (by decide) (by omega) hx ⟨fun _ => ?_, fun c => absurd c (by decide)⟩
  refine tC_record hS hC hO hHC e1 e3 fun hist' hH' => ?_
  obtain ⟨c1, c2, c3, c4, c5, c6, c7⟩ := id hC
  obtain ⟨k1, k2, k3, k4, k5, k6⟩ := id hS
  have hok : okS 5000 (seS S x) := ⟨k1, k2, k3, k4, hx, k6⟩
  refine ⟨act S n h (seS S x), ⟨hok, ⟨c1, c2, c3, c4, c5, rfl, c7⟩, po o n, HO_push hO hS, hH', rfl, rfl⟩, ?_⟩
  rw [c6]
  exact hk hok
theorem tA_setSecondArmX {S : AS} {n : Nat} {h : Nat → AS} {k : Int32 → VS → Prop} {a : Int32} (h0 : ¬ (0 ≤ a.toInt ∧ a.toInt ≤ 1)) (hk : k (-101) (S, n, h)) : PA_setSecondArm (S, n, h) a k := by
  intro l_oldest l_historySize n_pictureCount n_angle n_speed n_ticks n_load n_secondArm n_settings n_working n_written n_writtenIn n_width n_first n_step n_kind n_columns hist hR
  obtain ⟨hS, hC, o, hO, hHC, e1, e3⟩ := RAC_out hR
  unfold PX4_setSecondArm
  exact no4 (A := 0) (B := 1) (by decide) (by decide) h0 ⟨fun q => absurd rfl q, fun _ => ⟨(S, n, h), hR, hk⟩⟩
abbrev stS (S : AS) (x : Nat) (y : Int) : AS := (s_cnt S, s_ang S, s_spd S, s_tck S, s_ld S, s_sec S, nu (s_stg S) x y, S.2.2.2.2.2.2.2)
def inG (x : Nat) (y : Int) : Prop := if x = 0 then -60 ≤ y ∧ y ≤ 60 else if x = 1 then 1 ≤ y ∧ y ≤ 20 else if x = 2 then 1 ≤ y ∧ y ≤ 9999 else 1 ≤ y ∧ y ≤ 99
theorem set_keyC {x : Nat} (hx : x < 4) : ∃ lo hi : Int, (tabLO x).toInt = lo ∧ (tabHI x).toInt = hi ∧ (∀ g : Nat → Int, okG g → ∀ y : Int, lo ≤ y → y ≤ hi → okG (nu g x y)) ∧ ∀ y, inG x y ↔ (lo ≤ y ∧ y ≤ hi) := by
  rcases pk4 hx with rfl | rfl | rfl | rfl
  · exact ⟨(-60), 60, by decide, by decide, fun g hg y y1 y2 => ⟨⟨y1, y2⟩, hg.2⟩, fun y => Iff.rfl⟩
  · exact ⟨1, 20, by decide, by decide, fun g hg y y1 y2 => ⟨hg.1, ⟨y1, y2⟩, hg.2.2⟩, fun y => Iff.rfl⟩
  · exact ⟨1, 9999, by decide, by decide, fun g hg y y1 y2 => ⟨hg.1, hg.2.1, ⟨y1, y2⟩, hg.2.2.2⟩, fun y => Iff.rfl⟩
  · exact ⟨1, 99, by decide, by decide, fun g hg y y1 y2 => ⟨hg.1, hg.2.1, hg.2.2.1, ⟨y1, y2⟩⟩, fun y => Iff.rfl⟩
theorem tA_set {S : AS} {n : Nat} {h : Nat → AS} {k : Int32 → VS → Prop} {x : Nat} {b : Int32} (hx : x < 4) (hy : inG x b.toInt) (hk : okS 5000 (stS S x b.toInt) → ∀ r : Int32, r.toInt = s_stg S x → k r (act S n h (stS S x b.toInt))) : PA_set (S, n, h) (nI x) b k := by
  intro l_oldest l_historySize n_pictureCount n_angle n_speed n_ticks n_load n_secondArm n_settings n_working n_written n_writtenIn n_width n_first n_step n_kind n_columns hist hR
  obtain ⟨hS, hC, o, hO, hHC, e1, e3⟩ := RAC_out hR
  unfold PX4_set
  refine yes4 (L := 0) (H := 3) (by decide) (by decide) (by omega) (by omega) ⟨fun c => absurd c (by decide), fun _ => ⟨vp_in_nI (by omega) (by decide), vp_in_nI (by omega) (by decide), ?_⟩⟩
  obtain ⟨lo, hi, hlo, hhi, hok, hin⟩ := set_keyC hx
  rw [hin] at hy
  rw [nI_clamp (by omega)]
  refine pX4_within hlo hhi (fun q1 q2 => ⟨fun _ => ?_, fun c => absurd c (by decide)⟩) (fun c => absurd hy c)
  refine tC_record hS hC hO hHC e1 e3 fun hist' hH' => ?_
  refine ⟨vp_in_nI (by omega) (by decide), fun v ev => ⟨vp_in_nI (by omega) (by decide), fun ns es => ?_⟩⟩
  obtain ⟨c1, c2, c3, c4, c5, c6, c7, c8⟩ := id hC
  obtain ⟨k1, k2, k3, k4, k5, k6, k7⟩ := id hS
  have ho : okS 5000 (stS S x b.toInt) := ⟨k1, k2, k3, k4, k5, hok _ k6 _ q1 q2, k7⟩
  refine ⟨act S n h (stS S x b.toInt), ⟨ho, ⟨c1, c2, c3, c4, c5, c6, fun j hj => ?_, c8⟩, po o n, HO_push hO hS, hH', rfl, rfl⟩, hk ho v (by rw [ev, c7 x hx])⟩
  subst es
  by_cases z : j = x
  · rw [z, pk_us]; exact nu_s.symm
  · rw [pk_un z]; exact (c7 j hj).trans (nu_n z).symm
theorem tA_setX {S : AS} {n : Nat} {h : Nat → AS} {k : Int32 → VS → Prop} {x : Nat} {b : Int32} (hx : x < 4) (hy : ¬ inG x b.toInt) (hk : k (-101) (S, n, h)) : PA_set (S, n, h) (nI x) b k := by
  intro l_oldest l_historySize n_pictureCount n_angle n_speed n_ticks n_load n_secondArm n_settings n_working n_written n_writtenIn n_width n_first n_step n_kind n_columns hist hR
  obtain ⟨hS, hC, o, hO, hHC, e1, e3⟩ := RAC_out hR
  unfold PX4_set
  refine yes4 (L := 0) (H := 3) (by decide) (by decide) (by omega) (by omega) ⟨fun c => absurd c (by decide), fun _ => ⟨vp_in_nI (by omega) (by decide), vp_in_nI (by omega) (by decide), ?_⟩⟩
  obtain ⟨lo, hi, hlo, hhi, hok, hin⟩ := set_keyC hx
  rw [hin] at hy
  rw [nI_clamp (by omega)]
  exact no4 hlo hhi hy ⟨fun q => absurd rfl q, fun _ => ⟨(S, n, h), hR, hk⟩⟩
abbrev cdS (S : AS) (p x y z : Nat) : AS := sP S (s_cnt S) (s_wd S) (s_fs S) (s_sp S) (s_kd S) (nu2 (s_co S) p x y z)
theorem tA_paint {S : AS} {n : Nat} {h : Nat → AS} {k : Int32 → VS → Prop} {p x y z : Nat} (hp : p < s_cnt S) (hx : x < s_wd S p) (hy : y < 12) (hz : z < 8) (hk : okS 5000 (cdS S p x y z) → k (nI (s_co S p x y)) (act S n h (cdS S p x y z))) : PA_paint (S, n, h) (nI p) (nI x) (nI y) (nI z) k := by
  intro l_oldest l_historySize n_pictureCount n_angle n_speed n_ticks n_load n_secondArm n_settings n_working n_written n_writtenIn n_width n_first n_step n_kind n_columns hist hR
  obtain ⟨hS, hC, o, hO, hHC, e1, e3⟩ := RAC_out hR
  have hcnt := hS.1
  have hpc := hC.1
  subst hpc
  unfold PX4_paint
  refine pickp hcnt hp ?_
  obtain ⟨q1, q2, q3, q4, q5, q6, q7⟩ := okQ_of hS hp
  obtain ⟨c1, c2, c3, c4, c5⟩ := cP_of hC hcnt hp
  have htop : (nI (s_wd S p) - (1 : Int32)).toInt = ((s_wd S p - 1 : Nat) : Int) := by
    rw [show (1 : Int32) = nI 1 from rfl, pk_sub q1]
    exact i_nI (by omega)
  rw [c1]
  have hx40 : x < 40 := by omega
  refine yes4 (L := 0) (H := s_wd S p - 1) (by decide) htop (by omega) (by omega) ⟨fun c => absurd c (by decide), fun _ => ?_⟩
  refine yes4 (L := 0) (H := 11) (by decide) (by decide) (by omega) (by omega) ⟨fun c => absurd c (by decide), fun _ => ?_⟩
  refine yes4 (L := 0) (H := 7) (by decide) (by decide) (by omega) (by omega) ⟨fun _ => ?_, fun c => absurd c (by decide)⟩
  refine tC_record hS hC hO hHC e1 e3 fun hist' hH' => ⟨vp_in_nI (by omega) (by decide), ?_⟩
  rw [nI_clamp (by omega), c5 x hx40]
  refine pX4_colorIn (fun l hl => q7 x l hx40 hl) hy ⟨vp_in_nI (by omega) (by decide), ?_⟩
  refine pX4_withColor (fun l hl => q7 x l hx40 hl) hy hz ⟨vp_in_nI (by omega) (by decide), fun nc enc => ?_⟩
  obtain ⟨-, -, -, -, -, -, -, -, cP⟩ := id hC
  have hok : okS 5000 (cdS S p x y z) := by
    refine sP_ok hS hcnt ?_
    obtain ⟨-, -, -, -, -, -, ⟨k1, k2, k3, k4⟩, -⟩ := hS
    refine ⟨k1, k2, fun q c l hq hc hl => ?_, fun q h1 h2 => ⟨(k4 q h1 h2).1, (k4 q h1 h2).2.1, (k4 q h1 h2).2.2.1, fun c l hc hl => ?_⟩⟩
    · rw [nu2_at]
      split
      · omega
      · exact k3 q c l hq hc hl
    · rw [nu2_at, if_neg (fun w => by have := w.1; omega)]
      exact (k4 q h1 h2).2.2.2 c l hc hl
  refine ⟨act S n h (cdS S p x y z), ⟨hok, sP_C hC rfl ⟨cP.1, cP.2.1, fun q c hq hc => ?_⟩, po o n, HO_push hO hS, hH', rfl, rfl⟩, hk hok⟩
  subst enc
  by_cases w : q = p
  · subst w
    rw [va_up_self]
    by_cases v : c = x
    · subst v
      rw [pk_uLs]
      refine congrArg lN (dg_congr fun j hj => ?_)
      rw [nu2_at]
      by_cases u : j = y
      · rw [if_pos u, if_pos ⟨rfl, rfl, u⟩]
      · rw [if_neg u, if_neg (fun t => u t.2.2)]
    · rw [pk_uLn v, cP.2.2 q c hq hc]
      refine congrArg lN (dg_congr fun j hj => ?_)
      rw [nu2_at, if_neg (fun t => v t.2.1)]
  · rw [va_up_ne _ _ w, cP.2.2 q c hq hc]
    refine congrArg lN (dg_congr fun j hj => ?_)
    rw [nu2_at, if_neg (fun t => w t.1)]
theorem tA_paintX {S : AS} {n : Nat} {h : Nat → AS} {k : Int32 → VS → Prop} {a b c d : Int32} (h0 : ¬ (0 ≤ a.toInt ∧ a.toInt ≤ (s_cnt S : Int) - 1)) (hk : k (-101) (S, n, h)) : PA_paint (S, n, h) a b c d k := by
  intro l_oldest l_historySize n_pictureCount n_angle n_speed n_ticks n_load n_secondArm n_settings n_working n_written n_writtenIn n_width n_first n_step n_kind n_columns hist hR
  obtain ⟨hS, hC, o, hO, hHC, e1, e3⟩ := RAC_out hR
  have hcnt := hS.1
  have hpc := hC.1
  subst hpc
  unfold PX4_paint
  exact pickno hcnt h0 ⟨(S, n, h), hR, hk⟩
theorem tA_append {S : AS} {n : Nat} {h : Nat → AS} {k : Int32 → VS → Prop} {a : Int32} (h0 : ¬ (1 ≤ a.toInt ∧ a.toInt ≤ 255)) (hk : k (-101) (S, n, h)) : PA_append (S, n, h) a k := by
  intro l_oldest l_historySize l_text l_textLength n_pictureCount n_angle n_speed n_ticks n_load n_secondArm n_settings n_working n_written n_writtenIn n_width n_first n_step n_kind n_columns hist hR
  obtain ⟨hS, hC, o, hO, hHC, e1, e3⟩ := RAC_out hR
  unfold PX4_append
  exact no4 (A := 1) (B := 255) (by decide) (by decide) h0 ⟨fun q => absurd rfl q, fun _ => ⟨(S, n, h), hR, hk⟩⟩
theorem tA_load {S : AS} {n : Nat} {h : Nat → AS} {k : Int32 → VS → Prop} {a : Int32} (h0 : ¬ (0 ≤ a.toInt ∧ a.toInt ≤ (s_cnt S : Int) - 1)) (hk : k (-101) (S, n, h)) : PA_load (S, n, h) a k := by
  intro l_oldest l_historySize l_text l_textLength r_columns r_columnCount r_awaited r_told r_number r_numberStart n_pictureCount n_angle n_speed n_ticks n_load n_secondArm n_settings n_working n_written n_writtenIn n_width n_first n_step n_kind n_columns hist hR
  obtain ⟨hS, hC, o, hO, hHC, e1, e3⟩ := RAC_out hR
  have hcnt := hS.1
  have hpc := hC.1
  subst hpc
  unfold PX4_load
  exact pickno hcnt h0 ⟨(S, n, h), hR, hk⟩
abbrev adS (S : AS) (x : Nat) : AS := sP S (s_cnt S + 1) (nu (s_wd S) (s_cnt S) x) (s_fs S) (s_sp S) (s_kd S) (s_co S)
theorem tA_addPicture {S : AS} {n : Nat} {h : Nat → AS} {k : Int32 → VS → Prop} {x : Nat} (hx0 : 1 ≤ x) (hx : x ≤ 40) (hk : s_cnt S < 4 → okS 5000 (adS S x) → k (nI (s_cnt S)) (act S n h (adS S x))) (hf : s_cnt S = 4 → k (-103) (S, n, h)) : PA_addPicture (S, n, h) (nI x) k := by
  intro l_oldest l_historySize n_pictureCount n_angle n_speed n_ticks n_load n_secondArm n_settings n_working n_written n_writtenIn n_width n_first n_step n_kind n_columns hist hR
  obtain ⟨hS, hC, o, hO, hHC, e1, e3⟩ := RAC_out hR
  have hcnt := hS.1
  have hpc := hC.1
  subst hpc
  unfold PX4_addPicture
  refine yes4 (L := 1) (H := 40) (by decide) (by decide) hx0 hx ⟨fun _ => ⟨fun c => ?_, fun c => ?_⟩, fun c => absurd c (by decide)⟩ <;> rw [show (4 : Int32) = nI 4 from rfl, nI_ltI (by omega) (by omega)] at c
  · have hp4 : s_cnt S < 4 := c
    refine tC_record hS hC hO hHC e1 e3 fun hist' hH' => ⟨vp_in_nI (by omega) (by decide), fun j hj ej nw ew fc ef => ?_⟩
    rw [nI_clamp (by omega)] at ej
    obtain ⟨c1, c2, c3, c4, c5, c6, c7, c8, cP⟩ := id hC
    obtain ⟨k1, k2, k3, k4⟩ := hS.2.2.2.2.2.2.1
    have hok : okS 5000 (adS S x) := by
      refine sP_ok hS (by omega) ⟨fun q hq => ?_, k2, k3, fun q h1 h2 => k4 q (by omega) h2⟩
      by_cases z : q = s_cnt S
      · rw [z, nu_s]; exact ⟨hx0, hx⟩
      · rw [nu_n z]; exact k1 q (by omega)
    refine ⟨act S n h (adS S x), ⟨hok, sP_C hC (by rw [ef, nI_1]) ⟨fun q hq => ?_, cP.2.1, cP.2.2⟩, po o n, HO_push hO hS, hH', rfl, rfl⟩, hk hp4 hok⟩
    rw [ew, ← ej]
    by_cases z : q = s_cnt S
    · rw [z, nu_s, pk_us]
    · rw [nu_n z, pk_un z]; exact cP.1 q (by omega)
  · exact ⟨(S, n, h), hR, hf (by omega)⟩
theorem tA_addPictureX {S : AS} {n : Nat} {h : Nat → AS} {k : Int32 → VS → Prop} {a : Int32} (h0 : ¬ (1 ≤ a.toInt ∧ a.toInt ≤ 40)) (hk : k (-101) (S, n, h)) : PA_addPicture (S, n, h) a k := by
  intro l_oldest l_historySize n_pictureCount n_angle n_speed n_ticks n_load n_secondArm n_settings n_working n_written n_writtenIn n_width n_first n_step n_kind n_columns hist hR
  obtain ⟨hS, hC, o, hO, hHC, e1, e3⟩ := RAC_out hR
  unfold PX4_addPicture
  exact no4 (A := 1) (B := 40) (by decide) (by decide) h0 ⟨fun q => absurd rfl q, fun _ => ⟨(S, n, h), hR, hk⟩⟩
abbrev wkS (S : AS) (x y z : Nat) : AS := (s_cnt S, s_ang S, s_spd S, s_tck S, s_ld S, s_sec S, s_stg S, nu (s_wk S) x (nu (s_wk S x) y (1 - z)), S.2.2.2.2.2.2.2.2)
theorem tA_setBroken {S : AS} {n : Nat} {h : Nat → AS} {k : Int32 → VS → Prop} {x y z : Nat} (hx : x < 2) (hy : y < 12) (hz : z ≤ 1) (hk : okS 5000 (wkS S x y z) → k (nI (1 - s_wk S x y)) (act S n h (wkS S x y z))) : PA_setBroken (S, n, h) (nI x) (nI y) (nI z) k := by
  intro l_oldest l_historySize n_pictureCount n_angle n_speed n_ticks n_load n_secondArm n_settings n_working n_written n_writtenIn n_width n_first n_step n_kind n_columns hist hR
  obtain ⟨hS, hC, o, hO, hHC, e1, e3⟩ := RAC_out hR
  obtain ⟨c1, c2, c3, c4, c5, c6, c7, cW, cP⟩ := id hC
  obtain ⟨k1, k2, k3, k4, k5, k6, k7, ⟨k8, hb, k9⟩⟩ := id hS
  unfold PX4_setBroken
  refine yes4 (L := 0) (H := 1) (by decide) (by decide) (by omega) (by omega) ⟨fun c => absurd c (by decide), fun _ => ?_⟩
  refine yes4 (L := 0) (H := 11) (by decide) (by decide) (by omega) (by omega) ⟨fun c => absurd c (by decide), fun _ => ?_⟩
  refine yes4 (L := 0) (H := 1) (by decide) (by decide) (by omega) hz ⟨fun _ => ?_, fun c => absurd c (by decide)⟩
  refine tC_record hS hC hO hHC e1 e3 fun hist' hH' => ?_
  have hok : okS 5000 (wkS S x y z) := by
    refine ⟨k1, k2, k3, k4, k5, k6, k7, ⟨k8, fun a l ha hl => ?_, k9⟩⟩
    show nu (s_wk S) x (nu (s_wk S x) y (1 - z)) a l ≤ 1
    by_cases w : a = x
    · rw [w, nu_s]
      by_cases v : l = y
      · rw [v, nu_s]; omega
      · rw [nu_n v]; exact hb x l hx hl
    · rw [nu_n w]; exact hb a l ha hl
  have fin : ∀ (r : Int32) (nw : Nat → Int64), nw = vp_updL n_working x (lN (dg 8 12 (nu (s_wk S x) y (1 - z)))) → r = nI (1 - s_wk S x y) → ∃ V' : VS, RAC V' (nI (po o n)) (nI (pn n)) n_pictureCount n_angle n_speed n_ticks n_load n_secondArm n_settings nw n_written n_writtenIn n_width n_first n_step n_kind n_columns hist' ∧ k r V' := by
    intro r nw enw er
    refine ⟨act S n h (wkS S x y z), ⟨hok, ⟨c1, c2, c3, c4, c5, c6, c7, rcW_cong cW fun a ha => ?_, cP⟩, po o n, HO_push hO hS, hH', rfl, rfl⟩, by rw [er]; exact hk hok⟩
    show nw a = lN (dg 8 12 (nu (s_wk S) x (nu (s_wk S x) y (1 - z)) a))
    rw [enw]
    by_cases w : a = x
    · rw [w, nu_s, pk_uLs]
    · rw [nu_n w, pk_uLn w]; exact cW.1 a ha
  have hbx : ∀ l, l < 12 → s_wk S x l ≤ 1 := fun l hl => hb x l hx hl
  have ebit : ((1 : Int64) <<< (((nI y) * (3 : Int32)).toInt64 &&& 63)) = lN (8 ^ y) := by
    have := l_shl 1 y hy
    rwa [Nat.one_mul] at this
  have hvp : vp_in (nI x) 2 := vp_in_nI hx (by decide)
  rw [nI_clamp (by omega), cW.1 x hx]
  have hz1 : nI z = (1 : Int32) ↔ z = 1 := nI_eq (b := 1) (by omega) (by omega)
  refine tC_works cW.1 hb hx hy (fun w => ⟨fun c => absurd c (by decide), fun _ v ev => ?_⟩) (fun w => ⟨fun _ v ev => ?_, fun q => absurd rfl q⟩)
  · rw [ebit] at ev
    subst ev
    rw [l_orW hbx hy, l_andW hbx hy]
    refine ⟨fun c => ⟨hvp, hvp, fun nw enw => fin _ nw ?_ (by rw [w]; rfl)⟩, fun c => ⟨hvp, hvp, fun nw enw => fin _ nw ?_ (by rw [w]; rfl)⟩⟩
    · rw [hz1] at c
      rw [enw, show 1 - z = 1 by omega]
    · rw [hz1] at c
      rw [enw, show 1 - z = 0 by omega]
  · rw [ebit] at ev
    subst ev
    rw [l_orW hbx hy, l_andW hbx hy]
    refine ⟨fun c => ⟨hvp, hvp, fun nw enw => fin _ nw ?_ (by rw [w]; rfl)⟩, fun c => ⟨hvp, hvp, fun nw enw => fin _ nw ?_ (by rw [w]; rfl)⟩⟩
    · rw [hz1] at c
      rw [enw, show 1 - z = 1 by omega]
    · rw [hz1] at c
      rw [enw, show 1 - z = 0 by omega]
theorem tA_setBrokenX {S : AS} {n : Nat} {h : Nat → AS} {k : Int32 → VS → Prop} {x : Nat} {b c : Int32} (hx : x < 2) (h0 : ¬ (0 ≤ b.toInt ∧ b.toInt ≤ 11)) (hk : k (-101) (S, n, h)) : PA_setBroken (S, n, h) (nI x) b c k := by
  intro l_oldest l_historySize n_pictureCount n_angle n_speed n_ticks n_load n_secondArm n_settings n_working n_written n_writtenIn n_width n_first n_step n_kind n_columns hist hR
  obtain ⟨hS, hC, o, hO, hHC, e1, e3⟩ := RAC_out hR
  unfold PX4_setBroken
  refine yes4 (L := 0) (H := 1) (by decide) (by decide) (by omega) (by omega) ⟨fun c => absurd c (by decide), fun _ => ?_⟩
  exact no4 (A := 0) (B := 11) (by decide) (by decide) h0 ⟨fun _ => ⟨(S, n, h), hR, hk⟩, fun q => absurd rfl q⟩
theorem tA_undo {S : AS} {n : Nat} {h : Nat → AS} {k : Int32 → VS → Prop} (hk : okS 5000 (h n) → n < 5 → k (nI n) (h n, n, h)) : PA_undo (S, n + 1, h) k := by
  intro l_oldest l_historySize n_pictureCount n_angle n_speed n_ticks n_load n_secondArm n_settings n_working n_written n_writtenIn n_width n_first n_step n_kind n_columns hist hR
  obtain ⟨hS, hC, o, hO, hHC, e1, e3⟩ := RAC_out hR
  unfold PX4_undo
  have h0 : (0 : Int32).toInt = 0 := by decide
  have hn : l_historySize.toInt = ((n + 1 : Nat) : Int) := by rw [e3]; exact i_nI (by have := hO.2.1; omega)
  refine ⟨fun c => ?_, fun c => ?_⟩ <;> rw [i_eq hn h0] at c
  · intro s' es
    have es' : s' = nI n := by rw [es, e3]; exact nI_pred n
    subst es'
    rw [e1, rem5 o n (by have := hO.1; omega) (by have := hO.2.1; omega)]
    refine ⟨vp_in_nI (Nat.mod_lt _ (by decide)) (by decide), fun j hj ej => ?_⟩
    rw [nI_clamp (by omega)] at ej
    subst ej
    refine tC_copy (h n) (hO.2.2 n (by omega)).1 (hHC n (by omega)) fun z1 z2 z3 z4 z5 z6 z7 z8 z9 z10 z11 z12 z13 z14 z15 hz => ?_
    have hO2 : HO o n h := ⟨hO.1, by have := hO.2.1; omega, fun i hi => hO.2.2 i (by omega)⟩
    have hH2 : HC o n h hist := fun i hi => hHC i (by omega)
    exact ⟨(h n, n, h), ⟨hO.2.2 n (by omega), hz, o, hO2, hH2, rfl, rfl⟩, hk (hO.2.2 n (by omega)) (by have := hO.2.1; omega)⟩
  · omega
theorem tA_undo0 {S : AS} {h : Nat → AS} {k : Int32 → VS → Prop} (hk : k (-102) (S, 0, h)) : PA_undo (S, 0, h) k := by
  intro l_oldest l_historySize n_pictureCount n_angle n_speed n_ticks n_load n_secondArm n_settings n_working n_written n_writtenIn n_width n_first n_step n_kind n_columns hist hR
  obtain ⟨hS, hC, o, hO, hHC, e1, e3⟩ := RAC_out hR
  unfold PX4_undo
  refine ⟨fun c => absurd ?_ c, fun _ => ⟨(S, 0, h), hR, hk⟩⟩
  rw [e3]; rfl
abbrev ruS (S : AS) (x : Nat) : AS := runS S (s_stg S 0) x (zs (ldA S) (pwN S) (lmN S) (s_stg S 0) (Z0S S) x)
theorem tA_run {S : AS} {n : Nat} {h : Nat → AS} {k : Int32 → VS → Prop} {x : Nat} (hx0 : 1 ≤ x) (hx : x ≤ 100) (ht : s_tck S + x ≤ 5000) (hk : okS 5000 (ruS S x) → k (nI (s_ld (ruS S x))) (act S n h (ruS S x))) : PA_run (S, n, h) (nI x) k := by
  intro l_oldest l_historySize w_wanted w_loadAt w_passedIn w_secondArm w_power w_limit w_wantedSpeed w_angle w_speed w_load w_ticks n_pictureCount n_angle n_speed n_ticks n_load n_secondArm n_settings n_working n_written n_writtenIn n_width n_first n_step n_kind n_columns hist hR
  obtain ⟨hS, hC, o, hO, hHC, e1, e3⟩ := RAC_out hR
  obtain ⟨c1, c2, c3, c4, c5, c6, cG, cW, cP⟩ := id hC
  have kG := hS.2.2.2.2.2.1
  unfold PX4_run
  refine yes4 (L := 1) (H := 100) (by decide) (by decide) hx0 hx ⟨fun _ => ?_, fun c => absurd c (by decide)⟩
  have hsum : n_ticks + nI x ≤ (5000 : Int32) ↔ s_tck S + x ≤ 5000 := by
    rw [c4, nI_add, show (5000 : Int32) = nI 5000 from rfl, nI_leI (by omega) (by omega)]
  refine ⟨fun c => ?_, fun c => absurd (hsum.mpr ht) c⟩
  refine tC_record hS hC hO hHC e1 e3 fun hist' hH' => ?_
  refine tC_prepare hS hC fun ww wl hww hwl => tC_start fun wp hwp => ?_
  have hws : (n_settings 0).toInt = s_stg S 0 := cG 0 (by omega)
  have hz := Z0S_ok hS
  refine tC_goOn (f := ldA S) (j0 := 0) (Z0 := Z0S S) (ldA_le S) hwl (pwN_le hS) (lmN_le hS) hws kG.1 (by omega) hz ⟨hwp, c2, c3, c5, rfl⟩ fun wp' wa' wv' wl' wt' hZ => ?_
  rw [Nat.zero_add] at hZ
  obtain ⟨g1, g2, g3, g4, g5⟩ := hZ
  have hzx := zs_ok (f := ldA S) (pw := pwN S) (lm := lmN S) (ldA_le S) kG.1 hz x
  refine tC_write (by decide) hS hC hww g1 hzx.2.2.2 (by omega) g5 fun w' i' hw' hi' => ?_
  have hok : okS 5000 (ruS S x) := runS_ok hS hzx kG.1 ht
  refine ⟨act S n h (ruS S x), ⟨hok, ⟨c1, g2, g3, rfl, g4, c6, fun j hj => ?_, ⟨cW.1, hw', hi'⟩, cP⟩, po o n, HO_push hO hS, hH', rfl, rfl⟩, ?_⟩
  · show (n_settings j).toInt = nu (s_stg S) 0 (s_stg S 0) j
    by_cases z : j = 0
    · rw [z, nu_s]; exact hws
    · rw [nu_n z]; exact cG j hj
  · rw [g4]
    exact hk hok
theorem tA_runX {S : AS} {n : Nat} {h : Nat → AS} {k : Int32 → VS → Prop} {a : Int32} (h0 : ¬ (1 ≤ a.toInt ∧ a.toInt ≤ 100)) (hk : k (-101) (S, n, h)) : PA_run (S, n, h) a k := by
  intro l_oldest l_historySize w_wanted w_loadAt w_passedIn w_secondArm w_power w_limit w_wantedSpeed w_angle w_speed w_load w_ticks n_pictureCount n_angle n_speed n_ticks n_load n_secondArm n_settings n_working n_written n_writtenIn n_width n_first n_step n_kind n_columns hist hR
  obtain ⟨hS, hC, o, hO, hHC, e1, e3⟩ := RAC_out hR
  unfold PX4_run
  exact no4 (A := 1) (B := 100) (by decide) (by decide) h0 ⟨fun q => absurd rfl q, fun _ => ⟨(S, n, h), hR, hk⟩⟩
