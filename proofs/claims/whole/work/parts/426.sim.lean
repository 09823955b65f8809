/-! arm, zone -/
theorem zx_no {x : Mem} {c : Fin 10} {j : Fin 31} {q : Int32} (hq : ¬ q < 0) (h : x 12 c j 2 ≤ q) : m_X5_zoneAt (c, j) q x = some (-1) := by
  unfold m_X5_zoneAt
  rw [if_neg hq, if_neg (show ¬ q < x 12 ↑((c, j) : Fin 10 × Fin 31).1 ↑((c, j) : Fin 10 × Fin 31).2 2 from Int32.not_lt.mpr h)]
theorem sim_arm : Sim_arm Rel := by
  intro i x y p0 p1 hi hR
  by_cases h1 : p0 < 0 ∨ (2 : Int32) < p0
  · refine ⟨1, 0, x, 0, up4 y 40 0 0 0 1, ?_, ?_, by decide, up4_eq, (fun h => absurd h (by decide)), (hR.th 1).up⟩
    · simp only [m_X11_arm, m_X11_needArm, iw_out h1, e_bd, e_bx1, if_true]
    · simp only [m_X12_arm, m_X12_isArm, ib_out h1, e_bd, e_gb0, if_true, m_X12_fails, e_lt, e_bd2]
  have i1 := iw_in h1
  have i2 := ib_in h1
  obtain ⟨a, ha, rfl⟩ := ex_n (n := 2) (fun q => h1 (Or.inl q)) (fun q => h1 (Or.inr q)) (by decide)
  have ha3 : a < 3 := by omega
  by_cases h2 : p1 < 0 ∨ (9 : Int32) < p1
  · refine ⟨2, 0, x, 0, up4 y 40 0 0 0 2, ?_, ?_, by decide, up4_eq, (fun h => absurd h (by decide)), (hR.th 2).up⟩
    · simp only [m_X11_arm, m_X11_needArm, m_X11_need, i1, iw_out h2, e_bd, e_bx0, e_bx1, if_true, if_neg no1]
    · simp only [m_X12_arm, m_X12_isArm, i2, ib_out h2, e_bd, e_gb1, if_true, m_X12_fails, e_lt, e_bd2, if_neg no1]
  have i3 := iw_in h2
  have i4 := ib_in h2
  obtain ⟨w, hw, rfl⟩ := ex_n (n := 9) (fun q => h2 (Or.inl q)) (fun q => h2 (Or.inr q)) (by decide)
  have hI : Inv (V (up4 y 40 0 0 0 0)) := (hR.th 0).2.1.2
  obtain ⟨hC, ⟨⟨-, -, -, r4, -, r6⟩, hI0⟩, -⟩ := id hR
  replace r4 : ∀ a, a < 3 → RArm x ((0 : Fin 10) : Nat) (V y) a := r4
  replace r6 : ∀ j, j < (V y 40 34).toNatClampNeg → RJob x ((0 : Fin 10) : Nat) (V y) j := r6
  obtain ⟨g1, g2, g3, g4, g5, g6, g7, g8, g9, g10, g11, g12, -⟩ := r4 a ha3
  have cx : ∀ v w, m_X1_aboutArm 0 (0, Fin.ofNat 4 a) w x = some v → ¬ (w < 0 ∨ (9 : Int32) < w) → m_X11_arm (Int32.ofNat a) w x = some (0, v, x) := fun v w e q => by
    simp only [m_X11_arm, m_X11_needArm, m_X11_need, i1, iw_in q, e_bd, e_bx0, if_neg no1, arm_at ha3, e]
  match w, hw with
  | 0, _ => exact ⟨0, V y 110 a, x, V y 110 a, up4 y 40 0 0 0 0, cx _ _ (by unfold m_X1_aboutArm; simp only [f4 ha3]; rw [← g1]; rfl) (by decide), by simp only [m_X12_arm, m_X12_isArm, i2, i4, e_bd, e_gb1, if_neg no1, e_lt, gd_n ha3 (show 3 < 2 ^ 31 by decide), tn (show a < 2 ^ 31 by omega)]; rfl, Or.inl rfl, up4_eq, fun _ => rfl, (hR.th 0).up⟩
  | 1, _ => exact ⟨0, V y 114 a, x, V y 114 a, up4 y 40 0 0 0 0, cx _ _ (by unfold m_X1_aboutArm; simp only [f4 ha3]; rw [← g2]; rfl) (by decide), by simp only [m_X12_arm, m_X12_isArm, i2, i4, e_bd, e_gb1, if_neg no1, e_lt, gd_n ha3 (show 3 < 2 ^ 31 by decide), tn (show a < 2 ^ 31 by omega)]; rfl, Or.inl rfl, up4_eq, fun _ => rfl, (hR.th 0).up⟩
  | 2, _ => exact ⟨0, V y 113 a, x, V y 113 a, up4 y 40 0 0 0 0, cx _ _ (by unfold m_X1_aboutArm; simp only [f4 ha3]; rw [← g3]; rfl) (by decide), by simp only [m_X12_arm, m_X12_isArm, i2, i4, e_bd, e_gb1, if_neg no1, e_lt, gd_n ha3 (show 3 < 2 ^ 31 by decide), tn (show a < 2 ^ 31 by omega)]; rfl, Or.inl rfl, up4_eq, fun _ => rfl, (hR.th 0).up⟩
  | 3, _ => exact ⟨0, V y 111 a, x, V y 111 a, up4 y 40 0 0 0 0, cx _ _ (by unfold m_X1_aboutArm; simp only [f4 ha3]; rw [← g12]; rfl) (by decide), by simp only [m_X12_arm, m_X12_isArm, i2, i4, e_bd, e_gb1, if_neg no1, e_lt, gd_n ha3 (show 3 < 2 ^ 31 by decide), tn (show a < 2 ^ 31 by omega)]; rfl, Or.inl rfl, up4_eq, fun _ => rfl, (hR.th 0).up⟩
  | 4, _ =>
    by_cases h0 : V y 114 a = 0
    · obtain ⟨J, hJ, eJ, hj, hA, -⟩ := id hI0
      have hid : V y 113 a = -1 ∧ V y 115 a = 0 := by
        rcases (hA a ha3).1 with ⟨-, q1, q2, -⟩ | h
        · exact ⟨q1, q2⟩
        · exfalso
          obtain ⟨j, q, n, h1, h2, h3, h4, h5, h6, h7⟩ := h
          rw [h0] at h7
          rcases h7 with ⟨w, -⟩ | ⟨w, -⟩ | ⟨w, -⟩ <;> exact absurd w (by decide)
      refine ⟨0, -1, x, -1, up4 y 40 0 0 0 0, cx _ _ ?_ (by decide), ?_, Or.inl rfl, up4_eq, fun _ => rfl, (hR.th 0).up⟩
      · unfold m_X1_aboutArm
        simp only [f4 ha3]
        rw [g3, g4, hid.1, hid.2, show m_X1_jobAt 0 (-1) = some (0, 30) from rfl, e_bd, zx_no (by decide) (by rw [show x 12 ((0 : Fin 10) : Nat) ((30 : Fin 31) : Nat) 2 = 0 from (hC 0 (by decide)).1]; decide), e_bd]
        rfl
      · simp only [m_X12_arm, m_X12_isArm, i2, i4, e_bd, e_gb1, if_neg no1, e_lt, gd_n ha3 (show 3 < 2 ^ 31 by decide), tn (show a < 2 ^ 31 by omega)]
        rw [show up4 y 40 0 0 0 0 114 0 0 a = 0 from h0]
        rfl
    · obtain ⟨j, q, pa, n, h30, hJ, a113, a115, a123, a124, hp, hq, hst⟩ := hI0.act ha3 h0
      obtain ⟨-, j1, j2, -⟩ := r6 j hJ
      refine ⟨0, Int32.ofNat (dgt pa n q), x, Int32.ofNat (dgt pa n q), up4 y 40 0 0 0 0, cx _ _ ?_ (by decide), ?_, Or.inl rfl, up4_eq, fun _ => rfl, (hR.th 0).up⟩
      · unfold m_X1_aboutArm
        simp only [f4 ha3]
        rw [g3, g4, a113, a115, job_at h30, e_bd, zone_x (by rw [f31 h30]; exact j1.trans a123) (by rw [f31 h30]; exact j2.trans a124) hp hq, e_bd]
        rfl
      · simp only [m_X12_arm, m_X12_isArm, i2, i4, e_bd, e_gb1, if_neg no1, e_lt, gd_n ha3 (show 3 < 2 ^ 31 by decide), tn (show a < 2 ^ 31 by omega)]
        unfold m_X12_zoneOf
        rw [gd_n ha3 (by decide), tn (show a < 2 ^ 31 by omega), if_neg (show ¬ up4 y 40 0 0 0 0 114 0 0 a = 0 from h0), show up4 y 40 0 0 0 0 113 0 0 a = Int32.ofNat j from a113, show up4 y 40 0 0 0 0 115 0 0 a = Int32.ofNat q from a115, zone_y h30 (show up4 y 40 0 0 0 0 123 0 0 j = _ from a123) (show up4 y 40 0 0 0 0 124 0 0 j = _ from a124) hp hq, e_bd, e_bd]
        rfl
  | 5, _ => exact ⟨0, V y 116 a, x, V y 116 a, up4 y 40 0 0 0 0, cx _ _ (by unfold m_X1_aboutArm; simp only [f4 ha3]; rw [← g5]; rfl) (by decide), by simp only [m_X12_arm, m_X12_isArm, i2, i4, e_bd, e_gb1, if_neg no1, e_lt, gd_n ha3 (show 3 < 2 ^ 31 by decide), tn (show a < 2 ^ 31 by omega)]; rfl, Or.inl rfl, up4_eq, fun _ => rfl, (hR.th 0).up⟩
  | 6, _ => exact ⟨0, V y 117 a, x, V y 117 a, up4 y 40 0 0 0 0, cx _ _ (by unfold m_X1_aboutArm; simp only [f4 ha3]; rw [← g7]; rfl) (by decide), by simp only [m_X12_arm, m_X12_isArm, i2, i4, e_bd, e_gb1, if_neg no1, e_lt, gd_n ha3 (show 3 < 2 ^ 31 by decide), tn (show a < 2 ^ 31 by omega)]; rfl, Or.inl rfl, up4_eq, fun _ => rfl, (hR.th 0).up⟩
  | 7, _ => exact ⟨0, hold (V y) a, x, hold (V y) a, up4 y 40 0 0 0 0, cx _ _ (by unfold m_X1_aboutArm; simp only [f4 ha3]; rw [← g6]; rfl) (by decide), by simp only [m_X12_arm, m_X12_isArm, i2, i4, e_bd, e_gb1, if_neg no1, e_lt, holds_n hI.w ha3]; rfl, Or.inl rfl, up4_eq, fun _ => rfl, (hR.th 0).up⟩
  | 8, _ => exact ⟨0, V y 120 a, x, V y 120 a, up4 y 40 0 0 0 0, cx _ _ (by unfold m_X1_aboutArm; simp only [f4 ha3]; rw [← g10]; rfl) (by decide), by simp only [m_X12_arm, m_X12_isArm, i2, i4, e_bd, e_gb1, if_neg no1, e_lt, gd_n ha3 (show 3 < 2 ^ 31 by decide), tn (show a < 2 ^ 31 by omega)]; rfl, Or.inl rfl, up4_eq, fun _ => rfl, (hR.th 0).up⟩
  | 9, _ => exact ⟨0, V y 121 a, x, V y 121 a, up4 y 40 0 0 0 0, cx _ _ (by unfold m_X1_aboutArm; simp only [f4 ha3]; rw [← g11]; rfl) (by decide), by simp only [m_X12_arm, m_X12_isArm, i2, i4, e_bd, e_gb1, if_neg no1, e_lt, gd_n ha3 (show 3 < 2 ^ 31 by decide), tn (show a < 2 ^ 31 by omega)]; rfl, Or.inl rfl, up4_eq, fun _ => rfl, (hR.th 0).up⟩
  | w + 10, hw => omega
/-- the first arm that holds a zone -/
def hof (h : Nat → Int32) (z : Nat) : Int32 := if tb (h 0) z = true then 0 else if tb (h 1) z = true then 1 else if tb (h 2) z = true then 2 else -1
theorem hof_x {x : Mem} {c : Fin 10} {h : Nat → Int32} {z : Nat} (hz : z < 8) (h6 : ∀ b, b < 3 → x 0 c b 6 = h b) : m_X1_holderOf c (Int32.ofNat z) x = some (hof h z) := by
  obtain ⟨m, hm⟩ := FUs
  have hb : ∀ b, b < 3 → (h b &&& bit z = 0 ↔ ¬ tb (h b) z = true) := fun b _ => by rw [and_bit (by omega)]; simp
  unfold m_X1_holderOf hof
  rw [e_lt, hm]
  show m_X1_holderOf_b2 c (Int32.ofNat z) (m_X1_holderOf_l2 c (Int32.ofNat z) (m + 7)) (Int32.ofNat 0) x = _
  unfold m_X1_holderOf_b2
  rw [if_neg (le3 (by decide)), arm_at (by decide), e_bd, one_bit, show x 0 ↑((c, Fin.ofNat 4 0) : Fin 10 × Fin 4).1 ↑((c, Fin.ofNat 4 0) : Fin 10 × Fin 4).2 6 = h 0 from h6 0 (by decide)]
  by_cases t0 : tb (h 0) z = true
  · rw [if_neg (fun q => (hb 0 (by decide)).mp q t0), if_pos t0]
    rfl
  rw [if_pos ((hb 0 (by decide)).mpr t0), if_neg t0, e_lt, n1]
  show m_X1_holderOf_b2 c (Int32.ofNat z) (m_X1_holderOf_l2 c (Int32.ofNat z) (m + 6)) (Int32.ofNat 1) x = _
  unfold m_X1_holderOf_b2
  rw [if_neg (le3 (by decide)), arm_at (by decide), e_bd, one_bit, show x 0 ↑((c, Fin.ofNat 4 1) : Fin 10 × Fin 4).1 ↑((c, Fin.ofNat 4 1) : Fin 10 × Fin 4).2 6 = h 1 from h6 1 (by decide)]
  by_cases t1 : tb (h 1) z = true
  · rw [if_neg (fun q => (hb 1 (by decide)).mp q t1), if_pos t1]
    rfl
  rw [if_pos ((hb 1 (by decide)).mpr t1), if_neg t1, e_lt, n1]
  show m_X1_holderOf_b2 c (Int32.ofNat z) (m_X1_holderOf_l2 c (Int32.ofNat z) (m + 5)) (Int32.ofNat 2) x = _
  unfold m_X1_holderOf_b2
  rw [if_neg (le3 (by decide)), arm_at (by decide), e_bd, one_bit, show x 0 ↑((c, Fin.ofNat 4 2) : Fin 10 × Fin 4).1 ↑((c, Fin.ofNat 4 2) : Fin 10 × Fin 4).2 6 = h 2 from h6 2 (by decide)]
  by_cases t2 : tb (h 2) z = true
  · rw [if_neg (fun q => (hb 2 (by decide)).mp q t2), if_pos t2]
    rfl
  rw [if_pos ((hb 2 (by decide)).mpr t2), if_neg t2, e_lt, n1]
  show m_X1_holderOf_b2 c (Int32.ofNat z) (m_X1_holderOf_l2 c (Int32.ofNat z) (m + 4)) (Int32.ofNat 3) x = _
  unfold m_X1_holderOf_b2
  rw [if_pos (by decide)]
theorem has_n {v : Int32} {z : Nat} (hz : z < 32) : m_X12_has v (Int32.ofNat z) = some (if tb v z = true then 1 else 0) := by
  unfold m_X12_has
  rw [sar_bit hz]
  cases tb v z with
  | true => rfl
  | false => rfl
theorem hof_y {y : Mem} (hI : Inv (V y)) {z : Nat} (hz : z < 8) : m_X12_holderOf (Int32.ofNat z) y = some (hof (hold (V y)) z) := by
  obtain ⟨m, hm⟩ := FUs
  unfold m_X12_holderOf hof
  rw [e_lt, hm]
  show m_X12_holderOf_b2 (Int32.ofNat z) (m_X12_holderOf_l2 (Int32.ofNat z) (m + 7)) (Int32.ofNat 0) y = _
  unfold m_X12_holderOf_b2
  rw [if_neg (le3 (by decide)), holds_n hI.w (by decide), e_bd, has_n (by omega), e_bd]
  by_cases t0 : tb (hold (V y) 0) z = true
  · rw [if_pos t0, if_pos t0, if_neg no1]
    rfl
  rw [if_neg t0, if_neg t0, if_pos rfl, e_lt, n1]
  show m_X12_holderOf_b2 (Int32.ofNat z) (m_X12_holderOf_l2 (Int32.ofNat z) (m + 6)) (Int32.ofNat 1) y = _
  unfold m_X12_holderOf_b2
  rw [if_neg (le3 (by decide)), holds_n hI.w (by decide), e_bd, has_n (by omega), e_bd]
  by_cases t1 : tb (hold (V y) 1) z = true
  · rw [if_pos t1, if_pos t1, if_neg no1]
    rfl
  rw [if_neg t1, if_neg t1, if_pos rfl, e_lt, n1]
  show m_X12_holderOf_b2 (Int32.ofNat z) (m_X12_holderOf_l2 (Int32.ofNat z) (m + 5)) (Int32.ofNat 2) y = _
  unfold m_X12_holderOf_b2
  rw [if_neg (le3 (by decide)), holds_n hI.w (by decide), e_bd, has_n (by omega), e_bd]
  by_cases t2 : tb (hold (V y) 2) z = true
  · rw [if_pos t2, if_pos t2, if_neg no1]
    rfl
  rw [if_neg t2, if_neg t2, if_pos rfl, e_lt, n1]
  show m_X12_holderOf_b2 (Int32.ofNat z) (m_X12_holderOf_l2 (Int32.ofNat z) (m + 4)) (Int32.ofNat 3) y = _
  unfold m_X12_holderOf_b2
  rw [if_pos (by decide)]
theorem hof_cases (h : Nat → Int32) (z : Nat) : hof h z = -1 ∨ ∃ a : Nat, a < 3 ∧ hof h z = Int32.ofNat a := by
  unfold hof
  split
  · exact Or.inr ⟨0, by decide, rfl⟩
  split
  · exact Or.inr ⟨1, by decide, rfl⟩
  split
  · exact Or.inr ⟨2, by decide, rfl⟩
  · exact Or.inl rfl
theorem tb_un {u v : Int32} {P : Nat → Prop} (h : ∀ w, w < 32 → (tb u w = true ↔ P w)) (g : ∀ w, w < 32 → (tb v w = true ↔ P w)) : u = v := by
  apply tb_ext
  intro w hw
  have e := (h w hw).trans (g w hw).symm
  cases q1 : tb u w <;> cases q2 : tb v w <;> simp_all
theorem z3_y {y : Mem} (hI : Inv (V y)) {z : Nat} {p1 : Int32} (hz : z < 8) : ∀ (m t : Nat) (u : Int32), t ≤ 3 → 3 < t + m → (∀ w, w < 32 → (tb u w = true ↔ w < t ∧ hold (V y) w &&& con (V y) z ≠ 0)) → ∃ v, m_X12_zone_l125 (Int32.ofNat z) p1 m u (Int32.ofNat t) y = some (v, y) ∧ ∀ w, w < 32 → (tb v w = true ↔ w < 3 ∧ hold (V y) w &&& con (V y) z ≠ 0) := by
  intro m
  induction m with
  | zero => intro t u h1 h2; omega
  | succ m ih =>
    intro t u h1 h2 hu
    show ∃ v, m_X12_zone_b125 (Int32.ofNat z) p1 (m_X12_zone_l125 (Int32.ofNat z) p1 m) u (Int32.ofNat t) y = some (v, y) ∧ _
    unfold m_X12_zone_b125 m_X12_zone_j155
    by_cases ht : t = 3
    · subst ht
      rw [if_pos (by decide)]
      exact ⟨u, rfl, hu⟩
    have h3 : t < 3 := by omega
    rw [if_neg (le3 h3), holds_n hI.w h3, e_bd, con_y hz, e_bd, one_bit]
    by_cases hc : hold (V y) t &&& con (V y) z = 0
    · rw [if_pos hc, e_lt, e_lt, n1, Int32.or_zero]
      refine ih (t + 1) u (by omega) (by omega) (fun w hw => ?_)
      rw [hu w hw]
      constructor
      · rintro ⟨q1, q2⟩
        exact ⟨by omega, q2⟩
      · rintro ⟨q1, q2⟩
        have : w ≠ t := fun e => q2 (e ▸ hc)
        exact ⟨by omega, q2⟩
    · rw [if_neg hc, e_lt, e_lt, n1]
      refine ih (t + 1) _ (by omega) (by omega) (fun w hw => ?_)
      rw [tb_or, tb_bit (by omega) hw, Bool.or_eq_true, hu w hw, decide_eq_true_eq]
      constructor
      · rintro (⟨q1, q2⟩ | q)
        · exact ⟨by omega, q2⟩
        · exact ⟨by omega, q ▸ hc⟩
      · rintro ⟨q1, q2⟩
        by_cases e : w = t
        · exact Or.inr e
        · exact Or.inl ⟨by omega, q2⟩
theorem z2_y {y : Mem} {z : Nat} {p1 : Int32} (hz : z < 8) : ∀ (m t : Nat) (u : Int32), t ≤ 3 → 3 < t + m → (∀ w, w < 32 → (tb u w = true ↔ w < t ∧ tb (V y 110 w) z = true)) → ∃ v, m_X12_zone_l83 (Int32.ofNat z) p1 m u (Int32.ofNat t) y = some (v, y) ∧ ∀ w, w < 32 → (tb v w = true ↔ w < 3 ∧ tb (V y 110 w) z = true) := by
  intro m
  induction m with
  | zero => intro t u h1 h2; omega
  | succ m ih =>
    intro t u h1 h2 hu
    show ∃ v, m_X12_zone_b83 (Int32.ofNat z) p1 (m_X12_zone_l83 (Int32.ofNat z) p1 m) u (Int32.ofNat t) y = some (v, y) ∧ _
    unfold m_X12_zone_b83 m_X12_zone_j112
    by_cases ht : t = 3
    · subst ht
      rw [if_pos (by decide)]
      exact ⟨u, rfl, hu⟩
    have h3 : t < 3 := by omega
    rw [if_neg (le3 h3), gd_n h3 (by decide), tn (show t < 2 ^ 31 by omega), has_n (by omega), e_bd, one_bit]
    by_cases hc : tb (V y 110 t) z = true
    · rw [if_pos (show tb (y 110 0 0 t) z = true from hc), if_neg no1, e_lt, e_lt, n1]
      refine ih (t + 1) _ (by omega) (by omega) (fun w hw => ?_)
      rw [tb_or, tb_bit (by omega) hw, Bool.or_eq_true, hu w hw, decide_eq_true_eq]
      constructor
      · rintro (⟨q1, q2⟩ | q)
        · exact ⟨by omega, q2⟩
        · exact ⟨by omega, q ▸ hc⟩
      · rintro ⟨q1, q2⟩
        by_cases e : w = t
        · exact Or.inr e
        · exact Or.inl ⟨by omega, q2⟩
    · rw [if_neg (show ¬ tb (y 110 0 0 t) z = true from hc), if_pos rfl, e_lt, e_lt, n1, Int32.or_zero]
      refine ih (t + 1) u (by omega) (by omega) (fun w hw => ?_)
      rw [hu w hw]
      constructor
      · rintro ⟨q1, q2⟩
        exact ⟨by omega, q2⟩
      · rintro ⟨q1, q2⟩
        have : w ≠ t := fun e => hc (e ▸ q2)
        exact ⟨by omega, q2⟩
theorem z2_x {x : Mem} {c : Fin 10} {A : St} {z : Nat} (hz : z < 8) (h1' : ∀ b, b < 3 → x 0 c b 1 = A 110 b) : ∀ (m t : Nat) (u : Int32), t ≤ 3 → 3 < t + m → (∀ w, w < 32 → (tb u w = true ↔ w < t ∧ tb (A 110 w) z = true)) → ∃ v, m_X1_armsThatReach_l4 c (Int32.ofNat z) m u (Int32.ofNat t) x = some v ∧ ∀ w, w < 32 → (tb v w = true ↔ w < 3 ∧ tb (A 110 w) z = true) := by
  intro m
  induction m with
  | zero => intro t u h1 h2; omega
  | succ m ih =>
    intro t u h1 h2 hu
    show ∃ v, m_X1_armsThatReach_b4 c (Int32.ofNat z) (m_X1_armsThatReach_l4 c (Int32.ofNat z) m) u (Int32.ofNat t) x = some v ∧ _
    unfold m_X1_armsThatReach_b4 m_X1_armsThatReach_j30
    by_cases ht : t = 3
    · subst ht
      rw [if_pos (by decide)]
      exact ⟨u, rfl, hu⟩
    have h3 : t < 3 := by omega
    rw [if_neg (le3 h3), arm_at h3, e_bd]
    simp only [f4 h3]
    rw [h1' t h3, one_bit, one_bit]
    by_cases hc : tb (A 110 t) z = true
    · rw [if_neg (fun q => by rw [and_bit (by omega)] at q; rw [q] at hc; exact absurd hc (by decide)), e_lt, e_lt, n1]
      refine ih (t + 1) _ (by omega) (by omega) (fun w hw => ?_)
      rw [tb_or, tb_bit (by omega) hw, Bool.or_eq_true, hu w hw, decide_eq_true_eq]
      constructor
      · rintro (⟨q1, q2⟩ | q)
        · exact ⟨by omega, q2⟩
        · exact ⟨by omega, q ▸ hc⟩
      · rintro ⟨q1, q2⟩
        by_cases e : w = t
        · exact Or.inr e
        · exact Or.inl ⟨by omega, q2⟩
    · rw [if_pos ((and_bit (by omega)).mpr (by simpa using hc)), e_lt, n1]
      refine ih (t + 1) u (by omega) (by omega) (fun w hw => ?_)
      rw [hu w hw]
      constructor
      · rintro ⟨q1, q2⟩
        exact ⟨by omega, q2⟩
      · rintro ⟨q1, q2⟩
        have : w ≠ t := fun e => hc (e ▸ q2)
        exact ⟨by omega, q2⟩
theorem sim_zone : Sim_zone Rel := by
  intro i x y p0 p1 hi hR
  by_cases h1 : p0 < 0 ∨ (7 : Int32) < p0
  · refine ⟨1, 0, x, 0, up4 y 40 0 0 0 1, ?_, ?_, by decide, up4_eq, (fun h => absurd h (by decide)), (hR.th 1).up⟩
    · simp only [m_X11_zone, iw_out h1, e_bd, if_true]
    · simp only [m_X12_zone, m_X12_isZone, ib_out h1, e_bd, e_gb0, if_true, m_X12_fails, e_lt, e_bd2]
  have i1 := iw_in h1
  have i2 := ib_in h1
  obtain ⟨z, hz', rfl⟩ := ex_n (n := 7) (fun q => h1 (Or.inl q)) (fun q => h1 (Or.inr q)) (by decide)
  have hz : z < 8 := by omega
  by_cases h2 : p1 < 0 ∨ (4 : Int32) < p1
  · refine ⟨2, 0, x, 0, up4 y 40 0 0 0 2, ?_, ?_, by decide, up4_eq, (fun h => absurd h (by decide)), (hR.th 2).up⟩
    · simp only [m_X11_zone, m_X11_need, i1, iw_out h2, e_bd, e_bx1, if_true, if_neg no1]
    · simp only [m_X12_zone, m_X12_isZone, i2, ib_out h2, e_bd, e_gb1, if_true, m_X12_fails, e_lt, e_bd2, if_neg no1]
  have i3 := iw_in h2
  have i4 := ib_in h2
  obtain ⟨w, hw, rfl⟩ := ex_n (n := 4) (fun q => h2 (Or.inl q)) (fun q => h2 (Or.inr q)) (by decide)
  have hI : Inv (V (up4 y 40 0 0 0 0)) := (hR.th 0).2.1.2
  have hRp := (hR.th 0).2.1.1
  have h6 : ∀ b, b < 3 → x 0 ((0 : Fin 10) : Nat) b 6 = hold (V (up4 y 40 0 0 0 0)) b := fun b hb => (hRp.2.2.2.1 b hb).2.2.2.2.2.1
  have h110 : ∀ b, b < 3 → x 0 ((0 : Fin 10) : Nat) b 1 = V (up4 y 40 0 0 0 0) 110 b := fun b hb => (hRp.2.2.2.1 b hb).1
  have h4 : ∀ z, z < 8 → x 4 ((0 : Fin 10) : Nat) 0 z = con (V (up4 y 40 0 0 0 0)) z := hRp.con
  have h5 : x 5 ((0 : Fin 10) : Nat) 0 z = up4 y 40 0 0 0 0 102 0 0 z := (hRp.2.1.2 z hz).2
  have fin : Rel (i + 1) x (up4 y 40 0 0 0 0) := (hR.th 0).up
  have e00 : up4 y 40 0 0 0 0 40 0 0 0 = 0 := up4_eq
  have cx : ∀ v w, m_X1_aboutZone 0 (Int32.ofNat z) w x = some v → ¬ (w < 0 ∨ (4 : Int32) < w) → m_X11_zone (Int32.ofNat z) w x = some (0, v, x) := fun v w e q => by
    simp only [m_X11_zone, m_X11_need, i1, iw_in q, e_bd, e_bx0, if_neg no1, e]
  match w, hw with
  | 0, _ =>
    refine ⟨0, hof (hold (V (up4 y 40 0 0 0 0))) z, x, hof (hold (V (up4 y 40 0 0 0 0))) z, up4 y 40 0 0 0 0, cx _ _ ?_ (by decide), ?_, Or.inl rfl, e00, fun _ => rfl, fin⟩
    · unfold m_X1_aboutZone
      rw [if_pos (by decide), hof_x hz h6, e_bd]
    · unfold m_X12_zone m_X12_isZone
      rw [i2, e_bd, e_gb1, e_bd, if_neg no1, i4, e_bd, if_neg no1, e_lt, e_lt, if_pos (by decide), hof_y hI hz, e_bd]
  | 1, _ =>
    refine ⟨0, con (V (up4 y 40 0 0 0 0)) z, x, con (V (up4 y 40 0 0 0 0)) z, up4 y 40 0 0 0 0, cx _ _ ?_ (by decide), ?_, Or.inl rfl, e00, fun _ => rfl, fin⟩
    · unfold m_X1_aboutZone
      rw [if_neg (by decide), if_pos (by decide), cof_x hz h4, e_bd]
    · unfold m_X12_zone m_X12_isZone
      rw [i2, e_bd, e_gb1, e_bd, if_neg no1, i4, e_bd, if_neg no1, e_lt, e_lt, if_neg (by decide), if_pos (by decide), con_y hz, e_bd]
  | 2, _ =>
    have h0 : ∀ (P : Nat → Prop) (w : Nat), w < 32 → (tb 0 w = true ↔ w < 0 ∧ P w) := fun P w _ => ⟨fun q => by rw [tb_0] at q; exact absurd q (by decide), fun q => by omega⟩
    obtain ⟨v, e1, hv⟩ := z2_x (x := x) (c := 0) hz h110 FU 0 0 (Nat.zero_le _) (by unfold FU; omega) (h0 _)
    obtain ⟨v', e2, hv'⟩ := z2_y (y := up4 y 40 0 0 0 0) (p1 := Int32.ofNat 2) hz FU 0 0 (Nat.zero_le _) (by unfold FU; omega) (h0 _)
    have ev := tb_un hv hv'
    subst ev
    refine ⟨0, v, x, v, up4 y 40 0 0 0 0, cx _ _ ?_ (by decide), ?_, Or.inl rfl, e00, fun _ => rfl, fin⟩
    · unfold m_X1_aboutZone m_X1_armsThatReach
      rw [if_neg (by decide), if_neg (by decide), if_pos (by decide), e_lt, e_lt]
      rw [← z0] at e1
      rw [e1, e_bd]
    · unfold m_X12_zone m_X12_isZone
      rw [i2, e_bd, e_gb1, e_bd, if_neg no1, i4, e_bd, if_neg no1, e_lt, e_lt, if_neg (by decide), if_neg (by decide), if_pos (by decide), e_lt]
      rw [← z0] at e2
      rw [e2]
  | 3, _ =>
    have h0 : ∀ (P : Nat → Prop) (w : Nat), w < 32 → (tb 0 w = true ↔ w < 0 ∧ P w) := fun P w _ => ⟨fun q => by rw [tb_0] at q; exact absurd q (by decide), fun q => by omega⟩
    obtain ⟨v, e1, hv⟩ := hoa_x (x := x) (c := 0) (s := con (V (up4 y 40 0 0 0 0)) z) h6
    obtain ⟨v', e2, hv'⟩ := z3_y (p1 := Int32.ofNat 3) hI hz FU 0 0 (Nat.zero_le _) (by unfold FU; omega) (h0 _)
    have ev := tb_un hv hv'
    subst ev
    refine ⟨0, v, x, v, up4 y 40 0 0 0 0, cx _ _ ?_ (by decide), ?_, Or.inl rfl, e00, fun _ => rfl, fin⟩
    · unfold m_X1_aboutZone
      rw [if_neg (by decide), if_neg (by decide), if_neg (by decide), if_pos (by decide), cof_x hz h4, e_bd, e1, e_bd]
    · unfold m_X12_zone m_X12_isZone
      rw [i2, e_bd, e_gb1, e_bd, if_neg no1, i4, e_bd, if_neg no1, e_lt, e_lt, if_neg (by decide), if_neg (by decide), if_neg (by decide), if_pos (by decide), e_lt]
      rw [← z0] at e2
      rw [e2]
  | 4, _ =>
    refine ⟨0, up4 y 40 0 0 0 0 102 0 0 z, x, up4 y 40 0 0 0 0 102 0 0 z, up4 y 40 0 0 0 0, cx _ _ ?_ (by decide), ?_, Or.inl rfl, e00, fun _ => rfl, fin⟩
    · unfold m_X1_aboutZone m_X10_ticksHeld
      rw [if_neg (by decide), if_neg (by decide), if_neg (by decide), if_neg (by decide), if_neg (ge0 (by omega)), if_neg (show ¬ (8 : Int32) ≤ Int32.ofNat z from le_f (a := 8) (by decide) (by omega) hz), gd_n hz (by decide), tn (show z < 2 ^ 31 by omega), h5, e_bd]
    · unfold m_X12_zone m_X12_isZone
      rw [i2, e_bd, e_gb1, e_bd, if_neg no1, i4, e_bd, if_neg no1, e_lt, e_lt, if_neg (by decide), if_neg (by decide), if_neg (by decide), if_neg (by decide), gd_n hz (by decide), tn (show z < 2 ^ 31 by omega)]
  | w + 5, hw => omega
