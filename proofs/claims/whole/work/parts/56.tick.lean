/-! the reference's tick -/
def mid (S : AS) (ws v : Int) (t a L : Nat) (P : Nat → Nat) : AS := (s_cnt S, a, v, s_tck S + t, L, s_sec S, nu (s_stg S) 0 ws, s_wk S, wcP S P, wiP S P, s_wd S, s_fs S, s_sp S, s_kd S, s_co S)
def runS (S : AS) (ws : Int) (j : Nat) (Z : ZS) : AS := mid S ws Z.2.1 j Z.1 Z.2.2.1 Z.2.2.2
theorem mid_M {S : AS} {ws v ws2 v2 : Int} {t a L t2 a2 L2 : Nat} {P P2 : Nat → Nat} {m wr m2 wr2 : Nat → Int32} (h : repM (mid S ws v t a L P) m wr) (h0 : (m2 0).toInt = ws2) (h4 : m2 4 = nI a2) (h5 : (m2 5).toInt = v2) (h6 : m2 6 = nI (s_tck S + t2)) (h7 : m2 7 = nI L2) (hr : ∀ k, k ≠ 0 → k ≠ 4 → k ≠ 5 → k ≠ 6 → k ≠ 7 → m2 k = m k) (hw : ∀ a l, a < 720 → l < 12 → wr2 (12 * a + l) = nI (wN (wiP S P2 a l) (wcP S P2 a l))) : repM (mid S ws2 v2 t2 a2 L2 P2) m2 wr2 := by
  obtain ⟨q1, q2, q3, q4, q5, q6, q7, ⟨q8, q9⟩, q10⟩ := h
  refine ⟨by rw [hr _ (by decide) (by decide) (by decide) (by decide) (by decide)]; exact q1, h4, h5, h6, h7, by rw [hr _ (by decide) (by decide) (by decide) (by decide) (by decide)]; exact q6, fun j hj => ?_, ⟨fun b hb => by rw [hr _ (by omega) (by omega) (by omega) (by omega) (by omega)]; exact q8 b hb, hw⟩, fun p hp => ?_⟩
  · show (m2 j).toInt = nu (s_stg S) 0 ws2 j
    by_cases z : j = 0
    · rw [z, nu_s]; exact h0
    · rw [nu_n z, hr _ z (by omega) (by omega) (by omega) (by omega), q7 j hj]
      exact nu_n z
  · obtain ⟨b1, b2, b3, b4, b5⟩ := q10 p hp
    exact ⟨by rw [hr _ (by omega) (by omega) (by omega) (by omega) (by omega)]; exact b1, by rw [hr _ (by omega) (by omega) (by omega) (by omega) (by omega)]; exact b2, by rw [hr _ (by omega) (by omega) (by omega) (by omega) (by omega)]; exact b3, by rw [hr _ (by omega) (by omega) (by omega) (by omega) (by omega)]; exact b4, fun c h hc hh => by rw [hr _ (by omega) (by omega) (by omega) (by omega) (by omega)]; exact b5 c h hc hh⟩
theorem tM_newSpeed {m : Nat → Int32} {pw lm L : Nat} {ws v : Int} {k : (Nat → Int32) → Prop} (h1 : pw ≤ 20) (h2 : lm ≤ 9999) (h3 : L ≤ 1440) (e1 : m 1 = nI pw) (e2 : m 2 = nI lm) (e7 : m 7 = nI L) (hw : (m 0).toInt = ws) (hv : (m 5).toInt = v) (hw2 : -60 ≤ ws ∧ ws ≤ 60) (hv2 : -60 ≤ v ∧ v ≤ 60) (h : ∀ s : Int32, s.toInt = nsp pw lm ws v L → k (upd m 5 s)) : PX5_newSpeed m k := by
  have hx : ((m 0) - (m 5)).toInt = ws - v := i_sub hw hv (by omega) (by omega)
  have hn := nsp_in (pw := pw) (lm := lm) (L := L) hw2 hv2
  unfold PX5_newSpeed
  have fin : ∀ {P : Nat} (hP : P ≤ 20) (hM : ((P : Nat) : Int) = if L ≤ lm then (pw : Int) else ((pw / 2 : Nat) : Int)), (((m 0) - (m 5) ≤ nI P → (((-(nI P)) ≤ (m 0) - (m 5) → (∀ b_m_6 : Nat → Int32, b_m_6 = upd m 5 ((m 5) + ((m 0) - (m 5))) → (k b_m_6))) ∧ (¬ (-(nI P)) ≤ (m 0) - (m 5) → (∀ b_m_7 : Nat → Int32, b_m_7 = upd m 5 ((m 5) + (-(nI P))) → (k b_m_7))))) ∧ (¬ (m 0) - (m 5) ≤ nI P → (∀ b_m_8 : Nat → Int32, b_m_8 = upd m 5 ((m 5) + nI P) → (k b_m_8)))) := by
    intro P hP hM
    have hp : (nI P).toInt = (P : Int) := i_nI (by omega)
    have hnp : (-(nI P)).toInt = -(P : Int) := i_neg hp (by omega) (by omega)
    unfold nsp at h hn
    rw [← hM] at h hn
    dsimp only at h hn
    refine ⟨fun c => ⟨fun c2 m6 e6 => ?_, fun c2 m6 e6 => ?_⟩, fun c m6 e6 => ?_⟩ <;> rw [e6]
    · rw [i_le hx hp] at c
      rw [i_le hnp hx] at c2
      rw [if_neg (by omega), if_neg (by omega)] at h hn
      exact h _ (i_add hv hx (by omega) (by omega))
    · rw [i_le hx hp] at c
      rw [i_le hnp hx] at c2
      rw [if_neg (by omega), if_pos (by omega)] at h hn
      exact h _ (i_add hv hnp (by omega) (by omega))
    · rw [i_le hx hp] at c
      rw [if_pos (by omega)] at h hn
      exact h _ (i_add hv hp (by omega) (by omega))
  rw [e1, e2, e7]
  refine ⟨fun c v1 f1 v2 f2 => ?_, fun c v1 f1 v2 f2 => ?_⟩ <;> rw [nI_leI (by omega) (by omega)] at c
  · subst f1 f2
    exact fin h1 (by rw [if_pos c])
  · rw [show (2 : Int32) = nI 2 from rfl, pk_div (by omega) (by omega) (by omega)] at f1
    subst f1 f2
    exact fin (P := pw / 2) (by omega) (by rw [if_neg c])
theorem sg_sm (d : Nat → Nat) : sg 12 d = sm 12 d := by
  rw [sm12]
  show 0 + d 0 + d 1 + d 2 + d 3 + d 4 + d 5 + d 6 + d 7 + d 8 + d 9 + d 10 + d 11 = _
  omega
theorem tM_writes {T : Nat} {S : AS} {wc wi : Nat → Nat → Nat} {m wr0 wr ww : Nat → Int32} {b a t : Nat} {k : Int32 → (Nat → Int32) → Prop} (hS : okS T S) (hW : rmW (s_wk S) wc wi m wr0) (h6 : m 6 = nI t) (hb2 : b < 2) (ha : a < 720) (hw : ∀ a l, a < 720 → l < 12 → ww (12 * a + l) = nI (wantS S a l))
    (h : ∀ wr', (∀ l, l < 12 → wr' (12 * a + l) = if s_wk S b l = 1 then nI (8 * t + wantS S a l) else wr (12 * a + l)) → (∀ q, q < 12 * a ∨ 12 * a + 12 ≤ q → wr' q = wr q) → k (nI (sm 12 (fun l => dk (wantS S a) l &&& s_wk S b l))) wr') : PX5_writes m wr ww (nI b) (nI a) k := by
  have hb : ∀ a l, a < 2 → l < 12 → s_wk S a l ≤ 1 := hS.2.2.2.2.2.2.2.2.1
  unfold PX5_writes
  rw [← sg_sm] at h
  refine lp3 (PX5_writes_L1 m ww (nI b) (nI a) _) (fun n v w => ∃ i, i ≤ 12 ∧ v = nI i ∧ n = nI (sg i (fun l => dk (wantS S a) l &&& s_wk S b l)) ∧ (∀ l, l < 12 → w (12 * a + l) = if l < i ∧ s_wk S b l = 1 then nI (8 * t + wantS S a l) else wr (12 * a + l)) ∧ ∀ q, q < 12 * a ∨ 12 * a + 12 ≤ q → w q = wr q) (fun _ v _ => 12 - v.toNatClampNeg) ?_ _ _ _ ⟨0, by omega, rfl, rfl, fun l hl => by rw [if_neg (fun z => Nat.not_lt_zero l z.1)], fun _ _ => rfl⟩
  rintro g n v w ⟨i, hi, ev, en, hJ, hJ2⟩ ih
  subst ev en
  unfold PX5_writes_L1
  refine ⟨fun c => ?_, fun c => ?_⟩ <;> rw [show (12 : Int32) = nI 12 from rfl, nI_leI (by omega) (by omega)] at c
  · obtain rfl : i = 12 := by omega
    refine h w (fun l hl => ?_) hJ2
    rw [hJ l hl]
    by_cases z : s_wk S b l = 1
    · rw [if_pos ⟨hl, z⟩, if_pos z]
    · rw [if_neg (fun y => z y.2), if_neg z]
  · have hi12 : i < 12 := by omega
    have nxt : ∀ d : Nat, d = dk (wantS S a) i &&& s_wk S b i → ∀ w2 : Nat → Int32, (∀ l, l < 12 → w2 (12 * a + l) = if l < i + 1 ∧ s_wk S b l = 1 then nI (8 * t + wantS S a l) else wr (12 * a + l)) → (∀ q, q < 12 * a ∨ 12 * a + 12 ≤ q → w2 q = wr q) → ∀ n2 : Int32, n2 = nI (sg i (fun l => dk (wantS S a) l &&& s_wk S b l) + d) → ∀ v1 : Int32, v1 = nI i + (1 : Int32) → PX5_writes_L1 m ww (nI b) (nI a) (fun v3_1 v4_2 b_written_3 => (k v3_1 b_written_3)) g n2 v1 w2 := by
      intro d hd w2 q1 q2 n2 en2 v1 f1
      rw [nI_1] at f1
      exact ih _ _ _ ⟨i + 1, by omega, f1, by rw [en2, hd]; rfl, q1, q2⟩ (by rw [f1, nI_clamp (by omega), nI_clamp (by omega)]; omega)
    refine tM_isBroken hW hb hb2 hi12 (fun y => ⟨fun q => absurd rfl q, fun _ => ?_⟩) (fun y => ⟨fun _ v1 f1 => nxt 0 (by rw [y, Nat.and_zero]) w (fun l hl => ?_) hJ2 _ rfl v1 f1, fun q => absurd q (by decide)⟩)
    · rw [pl12m, nI_clamp (by omega), hw a i ha hi12, h6]
      have hin : vp_in (nI (12 * a + i)) 8640 := vp_in_nI (by omega) (by decide)
      refine ⟨hin, fun v5 e5 => ⟨hin, fun w2 ew2 => ?_⟩⟩
      subst e5
      have hwl := want_lt (a := a) hS hi12
      rw [show (8 : Int32) = nI 8 from rfl, pk_mul, nI_add] at ew2
      have q1 : ∀ l, l < 12 → w2 (12 * a + l) = if l < i + 1 ∧ s_wk S b l = 1 then nI (8 * t + wantS S a l) else wr (12 * a + l) := by
        intro l hl
        rw [ew2]
        by_cases z : l = i
        · rw [z, pk_us, if_pos ⟨Nat.lt_succ_self i, y⟩]
        · rw [pk_un (by omega), hJ l hl]
          by_cases x : l < i ∧ s_wk S b l = 1
          · rw [if_pos x, if_pos ⟨by omega, x.2⟩]
          · rw [if_neg x, if_neg (fun u => x ⟨by omega, u.2⟩)]
      have q2 : ∀ q, q < 12 * a ∨ 12 * a + 12 ≤ q → w2 q = wr q := fun q hq => by rw [ew2, pk_un (by omega)]; exact hJ2 q hq
      have hz : nI (wantS S a i) = 0 ↔ wantS S a i = 0 := nI_eq (b := 0) (by omega) (by omega)
      refine ⟨fun c2 n2 e2 v1 f1 => nxt 1 ?_ w2 q1 q2 n2 (by rw [e2]; exact nI_add _ 1) v1 f1, fun c2 n2 e2 v1 f1 => nxt 0 ?_ w2 q1 q2 n2 (by rw [e2]; exact nI_add _ 0) v1 f1⟩ <;> rw [hz] at c2
      · unfold dk
        rw [if_neg c2, y]
        rfl
      · unfold dk
        rw [if_pos c2, y]
        rfl
    · rw [hJ l hl]
      by_cases x : l < i ∧ s_wk S b l = 1
      · rw [if_pos x, if_pos ⟨by omega, x.2⟩]
      · rw [if_neg x, if_neg (fun u => ?_)]
        by_cases z : l = i
        · rw [z, y] at u
          exact absurd u.2 (by decide)
        · exact x ⟨by omega, u.2⟩
