/-! ZONES OF PATHS, holds -/
theorem d1 {c : Nat} : Int32.ofNat (c + 1) + (-1) = Int32.ofNat c := by
  rw [← n1, Int32.add_assoc]
  show Int32.ofNat c + 0 = _
  rw [Int32.add_zero]
theorem pow_step {v k : Nat} : v / 10 / 10 ^ k = v / 10 ^ (k + 1) := by
  rw [Nat.div_div_eq_div_mul, Nat.pow_succ, Nat.mul_comm]
theorem zy_loop {p0 : Int32} {y : Mem} {q : Nat} (hq : q < 2 ^ 31) : ∀ (m e v : Nat), q ≤ e → e < q + m → e < 2 ^ 31 → v < 2 ^ 31 → m_X12_zoneAt_l17 p0 (Int32.ofNat q) m (Int32.ofNat v) (Int32.ofNat e) y = some (Int32.ofNat (v / 10 ^ (e - q) % 10) - 1) := by
  intro m
  induction m with
  | zero => intro e v h1 h2; omega
  | succ m ih =>
    intro e v h1 h2 h3 h4
    show m_X12_zoneAt_b17 p0 (Int32.ofNat q) (m_X12_zoneAt_l17 p0 (Int32.ofNat q) m) (Int32.ofNat v) (Int32.ofNat e) y = _
    unfold m_X12_zoneAt_b17
    by_cases he : e = q
    · subst he
      rw [if_pos ((le_n h3 h3).mpr (Nat.le_refl _)), show (10 : Int32) = Int32.ofNat 10 from rfl, rem_n h4 (by decide), Nat.sub_self, Nat.pow_zero, Nat.div_one]
    · rw [if_neg (le_f h3 hq (by omega)), e_lt, e_lt, show (10 : Int32) = Int32.ofNat 10 from rfl, div_n h4 (by decide)]
      obtain ⟨c, rfl⟩ : ∃ c, e = c + 1 := ⟨e - 1, by omega⟩
      rw [d1, ih c (v / 10) (by omega) (by omega) (by omega) (by omega), pow_step, show c - q + 1 = c + 1 - q by omega]
theorem zx_loop {p0 : Fin 10 × Fin 31} {x : Mem} {q : Nat} (hq : q < 2 ^ 31) : ∀ (m e v : Nat), q ≤ e → e < q + m → e < 2 ^ 31 → v < 2 ^ 31 → m_X5_zoneAt_l26 p0 (Int32.ofNat q) m (Int32.ofNat v) (Int32.ofNat e) x = some (Int32.ofNat (v / 10 ^ (e - q) % 10) - 1) := by
  intro m
  induction m with
  | zero => intro e v h1 h2; omega
  | succ m ih =>
    intro e v h1 h2 h3 h4
    show m_X5_zoneAt_b26 p0 (Int32.ofNat q) (m_X5_zoneAt_l26 p0 (Int32.ofNat q) m) (Int32.ofNat v) (Int32.ofNat e) x = _
    unfold m_X5_zoneAt_b26
    by_cases he : e = q
    · subst he
      rw [if_pos ((le_n h3 h3).mpr (Nat.le_refl _)), show (10 : Int32) = Int32.ofNat 10 from rfl, rem_n h4 (by decide), Nat.sub_self, Nat.pow_zero, Nat.div_one]
    · rw [if_neg (le_f h3 hq (by omega)), e_lt, e_lt, show (10 : Int32) = Int32.ofNat 10 from rfl, div_n h4 (by decide)]
      obtain ⟨c, rfl⟩ : ∃ c, e = c + 1 := ⟨e - 1, by omega⟩
      rw [d1, ih c (v / 10) (by omega) (by omega) (by omega) (by omega), pow_step, show c - q + 1 = c + 1 - q by omega]
theorem path_lt {p n : Nat} (h : PathOk p n) : p < 100000 := by
  obtain ⟨h1, h2, h3, -⟩ := h
  have : 10 ^ n ≤ 10 ^ 5 := Nat.pow_le_pow_right (by decide) h2
  omega
theorem dgt_ok {p n q : Nat} (h : PathOk p n) (hq : q < n) : dgt p n q < 8 ∧ Int32.ofNat (p / 10 ^ (n - 1 - q) % 10) - 1 = Int32.ofNat (dgt p n q) := by
  obtain ⟨h1, h2⟩ := h.2.2.2 (n - 1 - q) (by omega)
  unfold dgt
  obtain ⟨c, hc⟩ : ∃ c, p / 10 ^ (n - 1 - q) % 10 = c + 1 := ⟨p / 10 ^ (n - 1 - q) % 10 - 1, by omega⟩
  rw [hc, s1, Nat.add_sub_cancel]
  exact ⟨by omega, rfl⟩
theorem zone_y {y : Mem} {j p n q : Nat} (hj : j < 30) (e1 : y 123 0 0 j = Int32.ofNat p) (e2 : y 124 0 0 j = Int32.ofNat n) (h : PathOk p n) (hq : q < n) : m_X12_zoneAt (Int32.ofNat j) (Int32.ofNat q) y = some (Int32.ofNat (dgt p n q)) := by
  have h5 := h.2.1
  have hp := path_lt h
  unfold m_X12_zoneAt
  rw [gd_n hj (by decide), tn (show j < 2 ^ 31 by omega), e_lt, e_lt, e1, e2]
  obtain ⟨c, rfl⟩ : ∃ c, n = c + 1 := ⟨n - 1, by omega⟩
  rw [s1, zy_loop (by omega) FU c p (by omega) (by unfold FU; omega) (by omega) (by omega), ← (dgt_ok h hq).2]
  rfl
theorem zone_x {x : Mem} {c : Fin 10} {j : Fin 31} {p n q : Nat} (e1 : x 12 c j 1 = Int32.ofNat p) (e2 : x 12 c j 2 = Int32.ofNat n) (h : PathOk p n) (hq : q < n) : m_X5_zoneAt (c, j) (Int32.ofNat q) x = some (Int32.ofNat (dgt p n q)) := by
  have h5 := h.2.1
  have hp := path_lt h
  unfold m_X5_zoneAt
  rw [if_neg (ge0 (by omega)), e2, if_pos ((lt_n (by omega) (by omega)).mpr hq), e_lt, e_lt, e1]
  obtain ⟨c, rfl⟩ : ∃ c, n = c + 1 := ⟨n - 1, by omega⟩
  rw [s1, zx_loop (by omega) FU c p (by omega) (by unfold FU; omega) (by omega) (by omega), ← (dgt_ok h hq).2]
  rfl
theorem hold_0 {A : St} {a : Nat} (h : A 114 a = 0) : hold A a = 0 := by
  unfold hold
  rw [if_pos h]
/-- what the state says of an arm that has a job -/
theorem ActOk.path {A : St} {J a : Nat} (hj : ∀ j, j < J → JobOk A j) (h : ActOk A J a) : ∃ j q p n : Nat, j < J ∧ A 113 a = Int32.ofNat j ∧ A 115 a = Int32.ofNat q ∧ A 123 j = Int32.ofNat p ∧ A 124 j = Int32.ofNat n ∧ PathOk p n ∧ q < n ∧ (A 114 a = 1 ∨ (A 114 a = 2 ∧ q + 1 < n) ∨ (A 114 a = 3 ∧ q + 1 < n)) := by
  obtain ⟨j, q, n, h1, h2, h3, h4, h5, h6, h7⟩ := h
  obtain ⟨⟨p, n', g1, g2, g3⟩, -⟩ := hj j h1
  have hn : n = n' := (eq_n (by omega) (by have := g3.2.1; omega)).mp (h4.symm.trans g2)
  subst hn
  refine ⟨j, q, p, n, h1, h2, h3, g1, g2, g3, h6, ?_⟩
  rcases h7 with ⟨w, -⟩ | ⟨w, w2, -⟩ | ⟨w, w2, -⟩
  · exact Or.inl w
  · exact Or.inr (Or.inl ⟨w, w2⟩)
  · exact Or.inr (Or.inr ⟨w, w2⟩)
/-! what holds of a state while an arm's time to go is being changed -/
def ActW (A : St) (J a : Nat) : Prop := ∃ j q n : Nat, j < J ∧ A 113 a = Int32.ofNat j ∧ A 115 a = Int32.ofNat q ∧ A 124 j = Int32.ofNat n ∧ n ≤ 5 ∧ q < n ∧ ((A 114 a = 1 ∧ True) ∨ (A 114 a = 2 ∧ q + 1 < n) ∨ (A 114 a = 3 ∧ q + 1 < n))
def ArmW (A : St) (J a : Nat) : Prop := ((A 114 a = 0 ∧ A 113 a = -1 ∧ A 115 a = 0) ∨ ActW A J a) ∧ ∃ r : Nat, A 111 a = Int32.ofNat r ∧ r ≤ J ∧ ∀ k, k < r → ∃ j : Nat, j < J ∧ A 112 (30 * a + k) = Int32.ofNat j
def InvW (A : St) : Prop := ∃ J : Nat, J ≤ 30 ∧ A 40 34 = Int32.ofNat J ∧ (∀ j, j < J → JobOk A j) ∧ (∀ a, a < 3 → ArmW A J a) ∧ (∀ b, b < 3 → StoreOk A b) ∧ ZonesOk A ∧ Disj A
theorem ActOk.w {A : St} {J a : Nat} (h : ActOk A J a) : ActW A J a := by
  obtain ⟨j, q, n, h1, h2, h3, h4, h5, h6, h7⟩ := h
  refine ⟨j, q, n, h1, h2, h3, h4, h5, h6, ?_⟩
  rcases h7 with ⟨w, -⟩ | ⟨w, w2, -⟩ | ⟨w, w2, -⟩
  · exact Or.inl ⟨w, trivial⟩
  · exact Or.inr (Or.inl ⟨w, w2⟩)
  · exact Or.inr (Or.inr ⟨w, w2⟩)
theorem Inv.w {A : St} (h : Inv A) : InvW A := by
  obtain ⟨J, hJ, eJ, hj, hA, hS, hz, hd⟩ := h
  refine ⟨J, hJ, eJ, hj, fun a ha => ?_, hS, hz, hd⟩
  obtain ⟨g, r⟩ := hA a ha
  refine ⟨?_, r⟩
  rcases g with ⟨g1, g2, g3, -⟩ | g
  · exact Or.inl ⟨g1, g2, g3⟩
  · exact Or.inr g.w
theorem ActW.path {A : St} {J a : Nat} (hj : ∀ j, j < J → JobOk A j) (h : ActW A J a) : ∃ j q p n : Nat, j < J ∧ A 113 a = Int32.ofNat j ∧ A 115 a = Int32.ofNat q ∧ A 123 j = Int32.ofNat p ∧ A 124 j = Int32.ofNat n ∧ PathOk p n ∧ q < n ∧ (A 114 a = 1 ∨ (A 114 a = 2 ∧ q + 1 < n) ∨ (A 114 a = 3 ∧ q + 1 < n)) := by
  obtain ⟨j, q, n, h1, h2, h3, h4, h5, h6, h7⟩ := h
  obtain ⟨⟨p, n', g1, g2, g3⟩, -⟩ := hj j h1
  have hn : n = n' := (eq_n (by omega) (by have := g3.2.1; omega)).mp (h4.symm.trans g2)
  subst hn
  refine ⟨j, q, p, n, h1, h2, h3, g1, g2, g3, h6, ?_⟩
  rcases h7 with ⟨w, -⟩ | ⟨w, w2⟩ | ⟨w, w2⟩
  · exact Or.inl w
  · exact Or.inr (Or.inl ⟨w, w2⟩)
  · exact Or.inr (Or.inr ⟨w, w2⟩)
theorem holds_w {y : Mem} {J a : Nat} (hJ : J ≤ 30) (hj : ∀ j, j < J → JobOk (V y) j) (ha : a < 3) (hA : ArmW (V y) J a) : m_X12_holds (Int32.ofNat a) y = some (hold (V y) a) := by
  unfold m_X12_holds
  rw [gd_n ha (by decide), tn (show a < 2 ^ 31 by omega)]
  rcases hA.1 with ⟨h0, -⟩ | hact
  · rw [if_pos (show y 114 0 0 a = 0 from h0), hold_0 h0]
  obtain ⟨j, q, p, n, h1, h2, h3, g1, g2, g3, h6, h7⟩ := hact.path hj
  have hn5 := g3.2.1
  have e113 : y 113 0 0 a = Int32.ofNat j := h2
  have e115 : y 115 0 0 a = Int32.ofNat q := h3
  have e123 : y 123 0 0 j = Int32.ofNat p := g1
  have e124 : y 124 0 0 j = Int32.ofNat n := g2
  have n0 : ¬ y 114 0 0 a = 0 := by
    have e : y 114 0 0 a = V y 114 a := rfl
    rw [e]
    rcases h7 with w | ⟨w, -⟩ | ⟨w, -⟩ <;> rw [w] <;> decide
  have ez : ∀ i, i < n → znA (V y) (ajob (V y) a) i = dgt p n i := fun i hi => by
    unfold znA ajob
    rw [h2, tn (show j < 2 ^ 31 by omega), g1, g2, tn (show p < 2 ^ 31 by have := path_lt g3; omega), tn (show n < 2 ^ 31 by omega)]
  have ep : apos (V y) a = q := by
    unfold apos
    rw [h3, tn (show q < 2 ^ 31 by omega)]
  unfold m_X12_zoneOf
  rw [if_neg n0, gd_n ha (by decide), tn (show a < 2 ^ 31 by omega), e113, e115, zone_y (show j < 30 by omega) e123 e124 g3 h6, e_bd, e_bd, e_lt]
  unfold hold
  rw [if_neg (show ¬ V y 114 a = 0 from n0), ep, ez q h6]
  rcases h7 with w | ⟨w, w2⟩ | ⟨w, w2⟩
  · have w' : y 114 0 0 a = 1 := w
    rw [if_neg (by rw [w']; decide), if_neg (by rw [w]; decide)]
    rfl
  · have w' : y 114 0 0 a = 2 := w
    rw [if_pos w', if_pos w, n1, zone_y (show j < 30 by omega) e123 e124 g3 w2, e_bd, ez _ w2]
    rfl
  · have w' : y 114 0 0 a = 3 := w
    rw [if_neg (by rw [w']; decide), if_neg (by rw [w]; decide)]
    rfl
theorem holds_n {y : Mem} (hI : InvW (V y)) {a : Nat} (ha : a < 3) : m_X12_holds (Int32.ofNat a) y = some (hold (V y) a) := by
  obtain ⟨J, hJ, eJ, hj, hA, -⟩ := hI
  exact holds_w hJ hj ha (hA a ha)
