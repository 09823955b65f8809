theorem in8 {v : Int32} (h : ¬ (v < 0 ∨ (7 : Int32) < v)) : ∃ z : Nat, z < 8 ∧ v = Int32.ofNat z := by
  obtain ⟨k, hk, e⟩ := ex_n (n := 7) (fun q => h (Or.inl q)) (fun q => h (Or.inr q)) (by decide)
  exact ⟨k, by omega, e⟩
theorem lf_sim {c : Fin 10} {N : Nat} {x0 y0 x y : Mem} {p : Nat → Int32} (h : Ins c N x0 y0 p x y) (hI : Inv (V y)) (p1 p2 p3 : Int32) : ∃ f g, m_X1_interlockFault c p1 p2 p3 x = some f ∧ m_X12_notLocked p1 p2 p3 y = some g ∧ ((f = 0 ∧ g = 0 ∧ ∃ o w : Nat, o < 8 ∧ w < 8 ∧ o ≠ w ∧ p1 = Int32.ofNat o ∧ p2 = Int32.ofNat w) ∨ (f = 1 ∧ g = 1) ∨ (f = 2 ∧ g = 2) ∨ (f = 4 ∧ g = 3)) := by
  unfold m_X1_interlockFault m_X12_notLocked m_X12_isZone
  by_cases h1 : p1 < 0 ∨ (7 : Int32) < p1
  · rw [iw_out h1, e_bd, if_pos rfl, ib_out h1, e_bd, e_gb0, e_bd, if_pos rfl]
    exact ⟨1, 1, rfl, rfl, Or.inr (Or.inl ⟨rfl, rfl⟩)⟩
  rw [iw_in h1, e_bd, if_neg no1, ib_in h1, e_bd, e_gb1, e_bd, if_neg no1]
  by_cases h2 : p2 < 0 ∨ (7 : Int32) < p2
  · rw [iw_out h2, e_bd, if_pos rfl, ib_out h2, e_bd, e_gb0, e_bd, if_pos rfl]
    exact ⟨1, 1, rfl, rfl, Or.inr (Or.inl ⟨rfl, rfl⟩)⟩
  rw [iw_in h2, e_bd, if_neg no1, ib_in h2, e_bd, e_gb1, e_bd, if_neg no1]
  by_cases h3 : p1 = p2
  · rw [if_pos h3, if_pos h3]
    exact ⟨2, 2, rfl, rfl, Or.inr (Or.inr (Or.inl ⟨rfl, rfl⟩))⟩
  rw [if_neg h3, if_neg h3]
  obtain ⟨o, ho, rfl⟩ := in8 h1
  obtain ⟨w, hw, rfl⟩ := in8 h2
  have how : o ≠ w := fun e => h3 (by rw [e])
  have ok : (0 : Int32) = 0 ∧ (0 : Int32) = 0 ∧ ∃ o' w' : Nat, o' < 8 ∧ w' < 8 ∧ o' ≠ w' ∧ Int32.ofNat o = Int32.ofNat o' ∧ Int32.ofNat w = Int32.ofNat w' := ⟨rfl, rfl, o, w, ho, hw, how, rfl, rfl⟩
  have h6 : ∀ b, b < 3 → x 0 c b 6 = hold (V y) b := fun b hb => (h.1.2.2.2.1 b hb).2.2.2.2.2.1.trans hold_ov
  rw [hof_y hI ho, e_bd, e_lt, hof_y hI hw, e_bd, e_lt]
  by_cases h4 : p3 = 0
  · rw [if_pos h4, if_pos h4]
    exact ⟨0, 0, rfl, rfl, Or.inl ok⟩
  rw [if_neg h4, if_neg h4, hasI_x ho hw how (A := V y) h.1.con, e_bd, gd_n ho (by decide), tn (show o < 2 ^ 31 by omega), has_n (by omega), e_bd]
  by_cases t : tb (V y 101 o) w = true
  · rw [if_pos t, if_pos (show tb (y 101 0 0 o) w = true from t), if_neg no1, if_neg no1]
    exact ⟨0, 0, rfl, rfl, Or.inl ok⟩
  rw [if_neg t, if_neg (show ¬ tb (y 101 0 0 o) w = true from t), if_pos rfl, if_pos rfl, hof_x ho h6, e_bd, e_lt, hof_x hw h6, e_bd, e_lt]
  unfold m_X1_interlockFault_j84 m_X1_interlockFault_j85
  rcases hof_cases (hold (V y)) o with q1 | ⟨a, ha, q1⟩
  · rw [if_pos q1, if_pos (by rw [q1]; exact lt0_neg), e_lt, if_pos rfl]
    exact ⟨0, 0, rfl, rfl, Or.inl ok⟩
  · have n1' : ¬ hof (hold (V y)) o = -1 := fun e => by
      rw [q1] at e
      exact neg1 ha e.symm
    have no : ¬ hof (hold (V y)) o < 0 := by rw [q1]; exact ge0 (by omega)
    rcases hof_cases (hold (V y)) w with q2 | ⟨b, hb, q2⟩
    · rw [if_neg n1', if_pos q2, if_neg no, if_pos (show hof (hold (V y)) w < 0 by rw [q2]; exact lt0_neg), e_lt, if_pos rfl]
      exact ⟨0, 0, rfl, rfl, Or.inl ok⟩
    · have n2' : ¬ hof (hold (V y)) w = -1 := fun e => by
        rw [q2] at e
        exact neg1 hb e.symm
      have nw : ¬ hof (hold (V y)) w < 0 := by rw [q2]; exact ge0 (by omega)
      rw [if_neg n1', if_neg n2', if_neg no, if_neg nw]
      by_cases q3 : hof (hold (V y)) o = hof (hold (V y)) w
      · rw [if_pos q3, if_pos q3, e_lt, if_pos rfl]
        exact ⟨0, 0, rfl, rfl, Or.inl ok⟩
      · rw [if_neg q3, if_neg q3, e_lt, if_neg no1]
        exact ⟨4, 3, rfl, rfl, Or.inr (Or.inr (Or.inr ⟨rfl, rfl⟩))⟩
theorem sim_setInterlock : Sim_setInterlock Rel := by
  intro i x y p0 p1 p2 hp hi hR
  obtain ⟨f, g, e1, e2, hc⟩ := lf_sim (c := 0) hR.ins hR.2.1.2 p0 p1 p2
  unfold m_X11_setInterlock m_X12_setInterlock m_X11_throwFor
  rw [e1, e_bd, e2, e_bd, e_lt, up4_eq]
  rcases hc with ⟨rfl, rfl, o, w, ho, hw, how, rfl, rfl⟩ | ⟨rfl, rfl⟩ | ⟨rfl, rfl⟩ | ⟨rfl, rfl⟩
  · obtain ⟨x', y', k1, k2, g1, g2, g3, -, g5, -⟩ := keep_sim (hR.th 0)
    obtain ⟨x2, y2, q1, q2, q3, q4⟩ := lk_sim (c := 0) g1.ins g1.2.1.2 hp ho hw how
    have et : tb (up4 y 40 0 0 0 0 101 0 0 o) w = tb (y' 101 0 0 o) w := by
      rw [show up4 y 40 0 0 0 0 101 0 0 o = V (up4 y 40 0 0 0 0) 101 o from rfl, g2 101 o (mn8 (by decide) ho)]
      rfl
    rw [if_pos rfl, e_bx0, k1, e_bd, q1, e_bd2, if_pos (show (0 : Int32) ≤ 0 by decide), gd_n ho (by decide), tn (show o < 2 ^ 31 by omega), has_n (by omega), e_bd, e_lt, k2, e_bd, q2, e_bd, et]
    refine ⟨0, (if tb (y' 101 0 0 o) w = true then 1 else 0), x2, (if tb (y' 101 0 0 o) w = true then 1 else 0), y2, ?_, ?_, by decide, ?_, fun _ => rfl, Ins.rel g1 (Nat.le_succ _) (q3.mono (by rw [satS]; omega)) q4⟩
    · cases tb (y' 101 0 0 o) w <;> rfl
    · cases tb (y' 101 0 0 o) w <;> rfl
    · rw [q3.2.2.2 _ _ _ _ (by omega), g5, up4_eq]
      rfl
  · rw [if_neg (by decide), if_pos rfl, if_neg (by decide)]
    exact ⟨1, 0, x, 0, _, rfl, rfl, by decide, up4_eq, fun h => absurd h (by decide), (hR.th 1).up⟩
  · rw [if_neg (by decide), if_neg (by decide), if_pos rfl, if_neg (by decide)]
    exact ⟨2, 0, x, 0, _, rfl, rfl, by decide, up4_eq, fun h => absurd h (by decide), (hR.th 2).up⟩
  · rw [if_neg (by decide), if_neg (by decide), if_neg (by decide), if_neg (by decide), if_neg (by decide)]
    exact ⟨3, 0, x, 0, _, rfl, rfl, by decide, up4_eq, fun h => absurd h (by decide), (hR.th 3).up⟩
/-! PATHS -/
def dn : Nat → Nat → Nat
  | 0, _ => 0
  | f + 1, v => if v = 0 then 0 else dn f (v / 10) + 1
theorem dn_0 : ∀ f, dn f 0 = 0
  | 0 => rfl
  | f + 1 => if_pos rfl
theorem dn_same : ∀ f f' v, v < 10 ^ f → v < 10 ^ f' → dn f v = dn f' v
  | 0, f', v, h, _ => by
    have : v = 0 := by simpa using h
    subst this
    rw [dn_0, dn_0]
  | f + 1, 0, v, _, h => by
    have : v = 0 := by simpa using h
    subst this
    rw [dn_0, dn_0]
  | f + 1, f' + 1, v, h, h' => by
    show (if v = 0 then 0 else dn f (v / 10) + 1) = (if v = 0 then 0 else dn f' (v / 10) + 1)
    by_cases e : v = 0
    · rw [if_pos e, if_pos e]
    · rw [if_neg e, if_neg e, dn_same f f' (v / 10) (by rw [Nat.pow_succ] at h; omega) (by rw [Nat.pow_succ] at h'; omega)]
theorem dn_spec : ∀ f v, v < 10 ^ f → v < 10 ^ dn f v ∧ (0 < v → 1 ≤ dn f v ∧ 10 ^ (dn f v - 1) ≤ v) ∧ dn f v ≤ f
  | 0, v, h => by
    have : v = 0 := by simpa using h
    subst this
    exact ⟨by decide, fun q => absurd q (by decide), by decide⟩
  | f + 1, v, h => by
    show v < 10 ^ (if v = 0 then 0 else dn f (v / 10) + 1) ∧ (0 < v → 1 ≤ (if v = 0 then 0 else dn f (v / 10) + 1) ∧ 10 ^ ((if v = 0 then 0 else dn f (v / 10) + 1) - 1) ≤ v) ∧ (if v = 0 then 0 else dn f (v / 10) + 1) ≤ f + 1
    by_cases e : v = 0
    · subst e
      rw [if_pos rfl]
      exact ⟨by decide, fun q => absurd q (by decide), by omega⟩
    · rw [if_neg e]
      obtain ⟨h1, h2, h3⟩ := dn_spec f (v / 10) (by rw [Nat.pow_succ] at h; omega)
      refine ⟨by rw [Nat.pow_succ]; omega, fun _ => ⟨by omega, ?_⟩, by omega⟩
      rw [Nat.add_sub_cancel]
      by_cases q : 0 < v / 10
      · obtain ⟨a, b⟩ := h2 q
        obtain ⟨c, hc⟩ : ∃ c, dn f (v / 10) = c + 1 := ⟨dn f (v / 10) - 1, by omega⟩
        rw [hc, Nat.add_sub_cancel] at b
        rw [hc, Nat.pow_succ]
        omega
      · have : v / 10 = 0 := by omega
        rw [this, dn_0, Nat.pow_zero]
        omega
theorem v_le {v : Nat} (hv : v < 2 ^ 31) : Int32.ofNat v ≤ 0 ↔ v = 0 := by
  rw [show (0 : Int32) = Int32.ofNat 0 from rfl, le_n hv (by decide)]
  omega
theorem dg_l {p0 : Int32} : ∀ (f m a v : Nat), f < m → v < 10 ^ f → v < 2 ^ 31 → m_X12_digitsOf_l4 p0 m (Int32.ofNat a) (Int32.ofNat v) = some (Int32.ofNat (a + dn f v)) := by
  intro f
  induction f with
  | zero =>
    intro m a v hm hv _
    obtain ⟨m, rfl⟩ : ∃ k, m = k + 1 := ⟨m - 1, by omega⟩
    have : v = 0 := by simpa using hv
    subst this
    show m_X12_digitsOf_b4 p0 (m_X12_digitsOf_l4 p0 m) _ _ = _
    unfold m_X12_digitsOf_b4
    rw [if_pos ((v_le (by decide)).mpr rfl)]
    rfl
  | succ f ih =>
    intro m a v hm hv hb
    obtain ⟨m, rfl⟩ : ∃ k, m = k + 1 := ⟨m - 1, by omega⟩
    show m_X12_digitsOf_b4 p0 (m_X12_digitsOf_l4 p0 m) _ _ = _
    unfold m_X12_digitsOf_b4
    by_cases e : v = 0
    · subst e
      rw [if_pos ((v_le (by decide)).mpr rfl), dn_0]
      rfl
    · rw [if_neg (fun q => e ((v_le hb).mp q)), e_lt, e_lt, n1, show (10 : Int32) = Int32.ofNat 10 from rfl, div_n hb (by decide), ih m (a + 1) (v / 10) (by omega) (by rw [Nat.pow_succ] at hv; omega) (by omega), show dn (f + 1) v = dn f (v / 10) + 1 from if_neg e, show a + 1 + dn f (v / 10) = a + (dn f (v / 10) + 1) by omega]
theorem dg_n {v : Nat} (hv : v < 2 ^ 31) : m_X12_digitsOf (Int32.ofNat v) = some (Int32.ofNat (dn 10 v)) := by
  unfold m_X12_digitsOf
  rw [e_lt, e_lt, z0, dg_l 10 FU 0 v (by unfold FU; omega) (by omega) hv, Nat.zero_add]
theorem ln_l {p0 : Int32} : ∀ (k i m a v : Nat), i + k = 5 → k < m → v < 10 ^ k → v < 2 ^ 31 → m_X5_lengthOf_l6 p0 m (Int32.ofNat v) (Int32.ofNat a) (Int32.ofNat i) = some (Int32.ofNat (a + dn k v)) := by
  intro k
  induction k with
  | zero =>
    intro i m a v hi hm hv _
    obtain ⟨m, rfl⟩ : ∃ k, m = k + 1 := ⟨m - 1, by omega⟩
    have : i = 5 := by omega
    subst this
    show m_X5_lengthOf_b6 p0 (m_X5_lengthOf_l6 p0 m) _ _ _ = _
    unfold m_X5_lengthOf_b6
    rw [if_pos (by decide)]
    rfl
  | succ k ih =>
    intro i m a v hi hm hv hb
    obtain ⟨m, rfl⟩ : ∃ k, m = k + 1 := ⟨m - 1, by omega⟩
    show m_X5_lengthOf_b6 p0 (m_X5_lengthOf_l6 p0 m) _ _ _ = _
    unfold m_X5_lengthOf_b6
    rw [if_neg (show ¬ (5 : Int32) ≤ Int32.ofNat i from le_f (a := 5) (by decide) (by omega) (by omega))]
    by_cases e : v = 0
    · subst e
      rw [if_pos ((v_le (by decide)).mpr rfl), dn_0]
      rfl
    · rw [if_neg (fun q => e ((v_le hb).mp q)), e_lt, e_lt, e_lt, n1, n1, show (10 : Int32) = Int32.ofNat 10 from rfl, div_n hb (by decide), ih (i + 1) m (a + 1) (v / 10) (by omega) (by omega) (by rw [Nat.pow_succ] at hv; omega) (by omega), show dn (k + 1) v = dn k (v / 10) + 1 from if_neg e, show a + 1 + dn k (v / 10) = a + (dn k (v / 10) + 1) by omega]
theorem ln_n {v : Nat} (hv : v < 100000) : m_X5_lengthOf (Int32.ofNat v) = some (Int32.ofNat (dn 10 v)) := by
  unfold m_X5_lengthOf
  rw [e_lt, e_lt, e_lt, z0, ln_l 5 0 FU 0 v rfl (by unfold FU; omega) (by omega) (by omega), Nat.zero_add, dn_same 5 10 v (by omega) (by omega)]
/-- the digits of a path, read by both -/
theorem pa_l {p0 p0' : Int32} : ∀ (k i m m' v : Nat) (b b' s : Int32), i + k = 5 → k < m → k < m' → v < 10 ^ k → v < 2 ^ 31 → (∀ d : Nat, 1 ≤ d → d ≤ 8 → (Int32.ofNat d = b ↔ Int32.ofNat d = b')) → (∃ s', m_X5_isPath_l19 p0 m (Int32.ofNat v) b (Int32.ofNat i) = some 1 ∧ m_X12_setOf_l20 p0' m' s b' (Int32.ofNat v) = some s' ∧ (∀ e, 0 < v / 10 ^ e → 1 ≤ v / 10 ^ e % 10 ∧ v / 10 ^ e % 10 ≤ 8) ∧ ∀ z, z < 32 → (tb s' z = true ↔ tb s z = true ∨ ∃ e, 0 < v / 10 ^ e ∧ v / 10 ^ e % 10 - 1 = z)) ∨ (m_X5_isPath_l19 p0 m (Int32.ofNat v) b (Int32.ofNat i) = some 0 ∧ m_X12_setOf_l20 p0' m' s b' (Int32.ofNat v) = some (-1)) := by
  intro k
  induction k with
  | zero =>
    intro i m m' v b b' s hi hm hm' hv _ _
    obtain ⟨m, rfl⟩ : ∃ k, m = k + 1 := ⟨m - 1, by omega⟩
    obtain ⟨m', rfl⟩ : ∃ k, m' = k + 1 := ⟨m' - 1, by omega⟩
    have : i = 5 := by omega
    subst this
    have : v = 0 := by simpa using hv
    subst this
    left
    refine ⟨s, ?_, ?_, fun e q => ?_, fun z _ => ⟨fun q => Or.inl q, fun q => q.resolve_right (fun ⟨e, q, _⟩ => ?_)⟩⟩
    · show m_X5_isPath_b19 p0 (m_X5_isPath_l19 p0 m) _ _ _ = _
      unfold m_X5_isPath_b19
      rw [if_pos (by decide)]
    · show m_X12_setOf_b20 p0' (m_X12_setOf_l20 p0' m') _ _ _ = _
      unfold m_X12_setOf_b20
      rw [if_pos ((v_le (by decide)).mpr rfl)]
    · rw [Nat.zero_div] at q
      exact absurd q (by decide)
    · rw [Nat.zero_div] at q
      exact absurd q (by decide)
  | succ k ih =>
    intro i m m' v b b' s hi hm hm' hv hb hbb
    obtain ⟨m, rfl⟩ : ∃ k, m = k + 1 := ⟨m - 1, by omega⟩
    obtain ⟨m', rfl⟩ : ∃ k, m' = k + 1 := ⟨m' - 1, by omega⟩
    show (∃ s', m_X5_isPath_b19 p0 (m_X5_isPath_l19 p0 m) (Int32.ofNat v) b (Int32.ofNat i) = some 1 ∧ m_X12_setOf_b20 p0' (m_X12_setOf_l20 p0' m') s b' (Int32.ofNat v) = some s' ∧ _) ∨ (m_X5_isPath_b19 p0 (m_X5_isPath_l19 p0 m) (Int32.ofNat v) b (Int32.ofNat i) = some 0 ∧ m_X12_setOf_b20 p0' (m_X12_setOf_l20 p0' m') s b' (Int32.ofNat v) = some (-1))
    unfold m_X5_isPath_b19 m_X12_setOf_b20
    rw [if_neg (show ¬ (5 : Int32) ≤ Int32.ofNat i from le_f (a := 5) (by decide) (by omega) (by omega))]
    by_cases e : v = 0
    · subst e
      left
      rw [if_pos ((v_le (by decide)).mpr rfl), if_pos ((v_le (by decide)).mpr rfl)]
      refine ⟨s, rfl, rfl, fun e q => ?_, fun z _ => ⟨fun q => Or.inl q, fun q => q.resolve_right (fun ⟨e, q, _⟩ => ?_)⟩⟩
      · rw [Nat.zero_div] at q
        exact absurd q (by decide)
      · rw [Nat.zero_div] at q
        exact absurd q (by decide)
    have hm10 : v % 10 < 10 := Nat.mod_lt _ (by decide)
    rw [if_neg (fun q => e ((v_le hb).mp q)), if_neg (fun q => e ((v_le hb).mp q)), e_lt (rem32 (Int32.ofNat v) 10), e_lt (rem32 (Int32.ofNat v) 10), e_lt (rem32 (Int32.ofNat v) 10), show (10 : Int32) = Int32.ofNat 10 from rfl, rem_n hb (by decide), div_n hb (by decide)]
    have l1 : (Int32.ofNat (v % 10) < 1) ↔ v % 10 < 1 := lt_n (b := 1) (by omega) (by decide)
    have l8 : ((8 : Int32) < Int32.ofNat (v % 10)) ↔ 8 < v % 10 := lt_n (a := 8) (by decide) (by omega)
    by_cases h1 : v % 10 < 1
    · right
      rw [if_pos (l1.mpr h1), ib_out (Or.inl (l1.mpr h1)), e_bd, if_pos rfl]
      exact ⟨rfl, rfl⟩
    rw [if_neg (fun q => h1 (l1.mp q))]
    by_cases h8 : 8 < v % 10
    · right
      rw [if_pos (l8.mpr h8), ib_out (Or.inr (l8.mpr h8)), e_bd, if_pos rfl]
      exact ⟨rfl, rfl⟩
    rw [if_neg (fun q => h8 (l8.mp q)), ib_in (fun q => by
      rcases q with q | q
      · exact h1 (l1.mp q)
      · exact h8 (l8.mp q)), e_bd, if_neg no1]
    by_cases hd : Int32.ofNat (v % 10) = b
    · right
      rw [if_pos hd, if_pos ((hbb _ (by omega) (by omega)).mp hd)]
      exact ⟨rfl, rfl⟩
    rw [if_neg hd, if_neg (fun q => hd ((hbb _ (by omega) (by omega)).mpr q)), e_lt, e_lt, e_lt, e_lt, e_lt, n1]
    obtain ⟨d, hd2⟩ : ∃ d, v % 10 = d + 1 := ⟨v % 10 - 1, by omega⟩
    rw [hd2, s1, one_bit]
    have hpw : v / 10 < 10 ^ k := by rw [Nat.pow_succ] at hv; omega
    rcases ih (i + 1) m m' (v / 10) (Int32.ofNat (d + 1)) (Int32.ofNat (d + 1)) (s ||| bit d) (by omega) (by omega) (by omega) hpw (by omega) (fun _ _ _ => Iff.rfl) with ⟨s', q1, q2, q3, q4⟩ | ⟨q1, q2⟩
    · left
      refine ⟨s', q1, q2, fun e q => ?_, fun z hz => ?_⟩
      · cases e with
        | zero => rw [Nat.pow_zero, Nat.div_one]; omega
        | succ e =>
          rw [← pow_step] at q ⊢
          exact q3 e q
      · rw [q4 z hz, tb_or, tb_bit (by omega) hz, Bool.or_eq_true, decide_eq_true_eq]
        constructor
        · rintro ((w | w) | ⟨e, w1, w2⟩)
          · exact Or.inl w
          · exact Or.inr ⟨0, by rw [Nat.pow_zero, Nat.div_one]; omega, by rw [Nat.pow_zero, Nat.div_one]; omega⟩
          · exact Or.inr ⟨e + 1, by rw [← pow_step]; exact w1, by rw [← pow_step]; exact w2⟩
        · rintro (w | ⟨e, w1, w2⟩)
          · exact Or.inl (Or.inl w)
          · cases e with
            | zero =>
              rw [Nat.pow_zero, Nat.div_one] at w2
              exact Or.inl (Or.inr (by omega))
            | succ e =>
              rw [← pow_step] at w1 w2
              exact Or.inr ⟨e, w1, w2⟩
    · exact Or.inr ⟨q1, q2⟩
/-- a path for both, or for neither -/
theorem path_sim (p : Int32) : (∃ (P n : Nat) (s : Int32), p = Int32.ofNat P ∧ P < 100000 ∧ n = dn 10 P ∧ PathOk P n ∧ m_X5_isPath p = some 1 ∧ m_X12_setOf p = some s ∧ ¬ s < 0 ∧ ∀ z, z < 32 → (tb s z = true ↔ ∃ e, e < n ∧ P / 10 ^ e % 10 - 1 = z)) ∨ (m_X5_isPath p = some 0 ∧ m_X12_setOf p = some (-1)) := by
  unfold m_X5_isPath m_X12_setOf
  by_cases h0 : p < 1
  · right
    have h0' : p ≤ 0 := Int32.not_lt.mp (fun q => by
      have a1 := Int32.lt_iff_toInt_lt.mp h0
      have a2 := Int32.lt_iff_toInt_lt.mp q
      rw [show (1 : Int32).toInt = 1 from rfl] at a1
      rw [show (0 : Int32).toInt = 0 from rfl] at a2
      omega)
    rw [if_pos h0, if_pos h0']
    exact ⟨rfl, rfl⟩
  have hp0 : ¬ p ≤ 0 := fun q => by
    have a1 := Int32.le_iff_toInt_le.mp q
    have a2 := Int32.le_iff_toInt_le.mp (Int32.not_lt.mp h0)
    rw [show (1 : Int32).toInt = 1 from rfl] at a2
    rw [show (0 : Int32).toInt = 0 from rfl] at a1
    omega
  have hge : ¬ p < 0 := fun q => hp0 (Int32.le_of_lt q)
  obtain ⟨P, hP, rfl⟩ : ∃ P : Nat, P < 2 ^ 31 ∧ p = Int32.ofNat P := ⟨p.toNatClampNeg, Int32.toNatClampNeg_lt p, (Int32.ofNat_toNatClampNeg p (Int32.not_lt.mp hge)).symm⟩
  have hP1 : 0 < P := by
    rcases Nat.eq_zero_or_pos P with e | e
    · subst e
      exact absurd (by decide) hp0
    · exact e
  rw [if_neg h0, if_neg hp0, dg_n hP, e_bd]
  obtain ⟨s1', s2, s3⟩ := dn_spec 10 P (by omega)
  obtain ⟨s4, s5⟩ := s2 hP1
  by_cases h5 : P < 100000
  · have hn5 : dn 10 P ≤ 5 := by
      rw [dn_same 10 5 P (by omega) (by omega)]
      exact (dn_spec 5 P (by omega)).2.2
    rw [if_pos (show Int32.ofNat (dn 10 P) ≤ 5 from (le_n (b := 5) (by omega) (by decide)).mpr hn5), e_lt, e_lt, e_lt, e_lt, e_lt, e_lt]
    have key := pa_l (p0 := Int32.ofNat P) (p0' := Int32.ofNat P) 5 0 FU FU P 0 (-1) 0 rfl (by unfold FU; omega) (by unfold FU; omega) (by omega) hP (fun d d1 d2 => ⟨fun q => by
      have := (eq_n (b := 0) (by omega) (by decide)).mp q
      omega, fun q => by
      have := ge0 (show d < 2 ^ 31 by omega)
      rw [q] at this
      exact absurd lt0_neg this⟩)
    rw [← z0] at key
    rcases key with ⟨s, q1, q2, q3, q4⟩ | ⟨q1, q2⟩
    · have hdig : ∀ e, e < dn 10 P → 1 ≤ P / 10 ^ e % 10 ∧ P / 10 ^ e % 10 ≤ 8 := fun e he => by
        refine q3 e ?_
        have hpe : 10 ^ e ≤ 10 ^ (dn 10 P - 1) := Nat.pow_le_pow_right (by decide) (by omega)
        exact Nat.div_pos (by omega) (Nat.pow_pos (by decide))
      have hok : PathOk P (dn 10 P) := ⟨s4, hn5, s1', hdig⟩
      have h8 : P ≤ 88888 := by
        have g : ∀ e, 0 < P / 10 ^ e → P / 10 ^ e % 10 ≤ 8 := fun e he => (q3 e he).2
        have g0 := g 0
        have g1 := g 1
        have g2 := g 2
        have g3 := g 3
        have g4 := g 4
        simp only [Nat.pow_zero, Nat.div_one, Nat.reducePow] at g0 g1 g2 g3 g4
        omega
      left
      refine ⟨P, dn 10 P, s, rfl, h5, rfl, hok, ?_, q2, ?_, fun z hz => ?_⟩
      · rw [if_pos (show Int32.ofNat P ≤ 88888 from (le_n (b := 88888) (by omega) (by decide)).mpr h8)]
        exact q1
      · intro q
        have hb : tb s 31 = true := by
          unfold tb
          have := Int32.lt_iff_toInt_lt.mp q
          rw [show (0 : Int32).toInt = 0 from rfl] at this
          have e : s.toBitVec.toInt < 0 := this
          rw [BitVec.toInt_neg_iff] at e
          have e2 : s.toBitVec.msb = true := BitVec.msb_eq_true_iff_two_mul_ge.mpr e
          simpa [BitVec.msb, BitVec.getMsbD] using e2
        rw [q4 31 (by decide), tb_0] at hb
        rcases hb with w | ⟨e, w1, w2⟩
        · exact absurd w (by decide)
        · have := q3 e w1
          omega
      · rw [q4 z hz, tb_0]
        constructor
        · rintro (w | ⟨e, w1, w2⟩)
          · exact absurd w (by decide)
          · refine ⟨e, ?_, w2⟩
            by_cases q : e < dn 10 P
            · exact q
            · exfalso
              have : 10 ^ dn 10 P ≤ 10 ^ e := Nat.pow_le_pow_right (by decide) (by omega)
              rw [Nat.div_eq_of_lt (by omega)] at w1
              exact absurd w1 (by decide)
        · rintro ⟨e, w1, w2⟩
          refine Or.inr ⟨e, ?_, w2⟩
          have hpe : 10 ^ e ≤ 10 ^ (dn 10 P - 1) := Nat.pow_le_pow_right (by decide) (by omega)
          exact Nat.div_pos (by omega) (Nat.pow_pos (by decide))
    · right
      refine ⟨?_, q2⟩
      by_cases h8 : Int32.ofNat P ≤ 88888
      · rw [if_pos h8]
        exact q1
      · rw [if_neg h8]
  · right
    have hn6 : ¬ dn 10 P ≤ 5 := fun q => by
      have : 10 ^ dn 10 P ≤ 10 ^ 5 := Nat.pow_le_pow_right (by decide) q
      omega
    rw [if_neg (show ¬ Int32.ofNat (dn 10 P) ≤ 5 from fun q => hn6 ((le_n (b := 5) (by omega) (by decide)).mp q)), if_neg (show ¬ Int32.ofNat P ≤ 88888 from fun q => by
      have := (le_n (b := 88888) hP (by decide)).mp q
      omega)]
    exact ⟨rfl, rfl⟩
