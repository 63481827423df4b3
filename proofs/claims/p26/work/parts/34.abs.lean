/-! THE STATE AS ONE MATHEMATICAL VALUE, what the class's cells say of it, what the reference's cells say of it -/
abbrev AS : Type := Nat × Nat × Int × Nat × Nat × Nat × (Nat → Int) × (Nat → Nat → Nat) × (Nat → Nat → Nat) × (Nat → Nat → Nat) × (Nat → Nat) × (Nat → Nat) × (Nat → Nat) × (Nat → Nat) × (Nat → Nat → Nat → Nat)
abbrev s_cnt (S : AS) : Nat := S.1
abbrev s_ang (S : AS) : Nat := S.2.1
abbrev s_spd (S : AS) : Int := S.2.2.1
abbrev s_tck (S : AS) : Nat := S.2.2.2.1
abbrev s_ld (S : AS) : Nat := S.2.2.2.2.1
abbrev s_sec (S : AS) : Nat := S.2.2.2.2.2.1
abbrev s_stg (S : AS) : Nat → Int := S.2.2.2.2.2.2.1
abbrev s_wk (S : AS) : Nat → Nat → Nat := S.2.2.2.2.2.2.2.1
abbrev s_wc (S : AS) : Nat → Nat → Nat := S.2.2.2.2.2.2.2.2.1
abbrev s_wi (S : AS) : Nat → Nat → Nat := S.2.2.2.2.2.2.2.2.2.1
abbrev s_wd (S : AS) : Nat → Nat := S.2.2.2.2.2.2.2.2.2.2.1
abbrev s_fs (S : AS) : Nat → Nat := S.2.2.2.2.2.2.2.2.2.2.2.1
abbrev s_sp (S : AS) : Nat → Nat := S.2.2.2.2.2.2.2.2.2.2.2.2.1
abbrev s_kd (S : AS) : Nat → Nat := S.2.2.2.2.2.2.2.2.2.2.2.2.2.1
abbrev s_co (S : AS) : Nat → Nat → Nat → Nat := S.2.2.2.2.2.2.2.2.2.2.2.2.2.2
/-- the settings are in their ranges -/
def okG (g : Nat → Int) : Prop := (-60 ≤ g 0 ∧ g 0 ≤ 60) ∧ (1 ≤ g 1 ∧ g 1 ≤ 20) ∧ (1 ≤ g 2 ∧ g 2 ≤ 9999) ∧ (1 ≤ g 3 ∧ g 3 ≤ 99)
/-- the pictures are as they may be; those not yet added are as new -/
def okP (cnt : Nat) (wd fs sp kd : Nat → Nat) (co : Nat → Nat → Nat → Nat) : Prop :=
  (∀ p, p < cnt → 1 ≤ wd p ∧ wd p ≤ 40) ∧ (∀ p, p < 4 → fs p < 720 ∧ 1 ≤ sp p ∧ sp p ≤ 18 ∧ kd p ≤ 2) ∧ (∀ p c l, p < 4 → c < 40 → l < 12 → co p c l < 8) ∧ (∀ p, cnt ≤ p → p < 4 → fs p = 0 ∧ sp p = 6 ∧ kd p = 0 ∧ ∀ c l, c < 40 → l < 12 → co p c l = 0)
/-- what was written, and when -/
def okW (T tck : Nat) (wk wc wi : Nat → Nat → Nat) : Prop := tck ≤ T ∧ (∀ a l, a < 2 → l < 12 → wk a l ≤ 1) ∧ (∀ a l, a < 720 → l < 12 → wc a l < 8) ∧ (∀ a l, a < 720 → l < 12 → wi a l ≤ tck)
def okS (T : Nat) (S : AS) : Prop := s_cnt S ≤ 4 ∧ s_ang S < 720 ∧ (-60 ≤ s_spd S ∧ s_spd S ≤ 60) ∧ s_ld S ≤ 1440 ∧ s_sec S ≤ 1 ∧ okG (s_stg S) ∧ okP (s_cnt S) (s_wd S) (s_fs S) (s_sp S) (s_kd S) (s_co S) ∧ okW T (s_tck S) (s_wk S) (s_wc S) (s_wi S)
/-- the class: its settings, its pictures, its places -/
def rcG (g : Nat → Int) (n_settings : Nat → Int32) : Prop := ∀ j, j < 4 → (n_settings j).toInt = g j
def rcP (cnt : Nat) (wd fs sp kd : Nat → Nat) (co : Nat → Nat → Nat → Nat) (n_width n_first n_step n_kind : Nat → Int32) (n_columns : Nat → Nat → Int64) : Prop :=
  (∀ p, p < cnt → n_width p = nI (wd p)) ∧ (∀ p, p < 4 → n_first p = nI (fs p) ∧ n_step p = nI (sp p) ∧ n_kind p = nI (kd p)) ∧ (∀ p c, p < 4 → c < 40 → n_columns p c = lN (dg 8 12 (co p c)))
def rcW (wk wc wi : Nat → Nat → Nat) (n_working n_written : Nat → Int64) (n_writtenIn : Nat → Int32) : Prop :=
  (∀ a, a < 2 → n_working a = lN (dg 8 12 (wk a))) ∧ (∀ a, a < 720 → n_written a = lN (dg 8 12 (wc a))) ∧ (∀ a l, a < 720 → l < 12 → n_writtenIn (12 * a + l) = nI (wi a l))
def repC (S : AS) (n_pictureCount n_angle n_speed n_ticks n_load n_secondArm : Int32) (n_settings : Nat → Int32) (n_working n_written : Nat → Int64) (n_writtenIn n_width n_first n_step n_kind : Nat → Int32) (n_columns : Nat → Nat → Int64) : Prop :=
  n_pictureCount = nI (s_cnt S) ∧ n_angle = nI (s_ang S) ∧ n_speed.toInt = s_spd S ∧ n_ticks = nI (s_tck S) ∧ n_load = nI (s_ld S) ∧ n_secondArm = nI (s_sec S) ∧ rcG (s_stg S) n_settings ∧ rcW (s_wk S) (s_wc S) (s_wi S) n_working n_written n_writtenIn ∧ rcP (s_cnt S) (s_wd S) (s_fs S) (s_sp S) (s_kd S) (s_co S) n_width n_first n_step n_kind n_columns
def repU (S : AS) (u : StC) : Prop := repC S u.1 u.2.1 u.2.2.1 u.2.2.2.1 u.2.2.2.2.1 u.2.2.2.2.2.1 u.2.2.2.2.2.2.1 u.2.2.2.2.2.2.2.1 u.2.2.2.2.2.2.2.2.1 u.2.2.2.2.2.2.2.2.2.1 u.2.2.2.2.2.2.2.2.2.2.1 u.2.2.2.2.2.2.2.2.2.2.2.1 u.2.2.2.2.2.2.2.2.2.2.2.2.1 u.2.2.2.2.2.2.2.2.2.2.2.2.2.1 u.2.2.2.2.2.2.2.2.2.2.2.2.2.2
/-- the reference: the cells of m, the places -/
def rmP (cnt : Nat) (wd fs sp kd : Nat → Nat) (co : Nat → Nat → Nat → Nat) (m : Nat → Int32) : Prop :=
  ∀ p, p < cnt → m (12 + 4 * p) = nI (wd p) ∧ m (13 + 4 * p) = nI (fs p) ∧ m (14 + 4 * p) = nI (sp p) ∧ m (15 + 4 * p) = nI (kd p) ∧ ∀ c h, c < 40 → h < 2 → m (28 + 80 * p + 2 * c + h) = nI (dg 8 6 (fun i => co p c (6 * h + i)))
/-- what stands at a place: 0, or the tick and the color -/
def wN (wi wc : Nat) : Nat := if wi = 0 then 0 else 8 * wi + wc
def rmW (wk wc wi : Nat → Nat → Nat) (m wr : Nat → Int32) : Prop :=
  (∀ a, a < 2 → m (9 + a) = nI (dg 2 12 (fun l => 1 - wk a l))) ∧ (∀ a l, a < 720 → l < 12 → wr (12 * a + l) = nI (wN (wi a l) (wc a l)))
def repM (S : AS) (m wr : Nat → Int32) : Prop :=
  m 11 = nI (s_cnt S) ∧ m 4 = nI (s_ang S) ∧ (m 5).toInt = s_spd S ∧ m 6 = nI (s_tck S) ∧ m 7 = nI (s_ld S) ∧ m 8 = nI (s_sec S) ∧ (∀ j, j < 4 → (m j).toInt = s_stg S j) ∧ rmW (s_wk S) (s_wc S) (s_wi S) m wr ∧ rmP (s_cnt S) (s_wd S) (s_fs S) (s_sp S) (s_kd S) (s_co S) m
/-- the history: n states, the oldest one at o -/
def HC (o n : Nat) (h : Nat → AS) (hist : Nat → StC) : Prop := ∀ i, i < n → repU (h i) (hist ((o + i) % 5))
def pst (st fi : Nat → Int32) (s k : Nat) : Int32 := if s < 4 then st (4668 * s + k) else fi k
def slotIs (st fi : Nat → Int32) (s : Nat) (m wr : Nat → Int32) : Prop := (∀ k, k < 348 → pst st fi s k = m k) ∧ ∀ k, k < 4320 → pst st fi s (348 + k) = wr (2 * k) ||| (wr (2 * k + 1) <<< ((16 : Int32) &&& 31))
def HM (o n : Nat) (h : Nat → AS) (st fi : Nat → Int32) : Prop := ∀ i, i < n → ∃ m wr : Nat → Int32, repM (h i) m wr ∧ slotIs st fi ((o + i) % 5) m wr
def HO (o n : Nat) (h : Nat → AS) : Prop := o < 5 ∧ n ≤ 5 ∧ ∀ i, i < n → okS 5000 (h i)
/-- the text -/
def TX (tl : Nat) (tx : Nat → Nat) (l_text : Nat → Int32) : Prop := ∀ i, i < tl → l_text i = nI (tx i)
def TO (tl : Nat) (tx : Nat → Nat) : Prop := tl ≤ 160 ∧ ∀ i, i < tl → 1 ≤ tx i ∧ tx i ≤ 255
theorem i_lit (n : Nat) (h : n < 2 ^ 31) : (OfNat.ofNat n : Int32).toInt = (n : Int) := i_nI h
