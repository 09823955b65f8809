/-! READINGS -/
theorem no1 : ¬ ((1 : Int32) = 0) := by decide
theorem sim_reason : Sim_reason Rel := by
  intro i x y p0 p1 hp hi hR
  by_cases h1 : p0 < 0 ∨ (2 : Int32) < p0
  · refine ⟨1, 0, x, 0, up4 y 40 0 0 0 1, ?_, ?_, by decide, up4_eq, (fun h => absurd h (by decide)), (hR.th 1).up⟩
    · simp only [m_X11_reason, m_X11_needArm, iw_out h1, e_bd, e_bx1, if_true]
    · simp only [m_X12_reason, m_X12_isArm, ib_out h1, e_bd, e_gb0, if_true, m_X12_fails, e_lt, e_bd2]
  have i1 := iw_in h1
  have i2 := ib_in h1
  obtain ⟨a, ha, rfl⟩ := ex_n (n := 2) (fun q => h1 (Or.inl q)) (fun q => h1 (Or.inr q)) (by decide)
  have ha3 : a < 3 := by omega
  obtain ⟨-, ⟨⟨-, -, -, r4, -⟩, -⟩, -⟩ := id hR
  replace r4 : ∀ a, a < 3 → RArm x ((0 : Fin 10) : Nat) (V y) a := r4
  obtain ⟨-, -, -, -, -, -, g7, g8, g9, -⟩ := r4 a ha3
  by_cases hz : V y 117 a = 0
  · refine ⟨5, 0, x, 0, up4 y 40 0 0 0 2, ?_, ?_, by decide, up4_eq, (fun h => absurd h (by decide)), (hR.th 2).up⟩
    · simp only [m_X11_reason, m_X11_needArm, i1, e_bd, e_bx0, if_neg no1, arm_at ha3, f4 ha3, g7, hz, if_true]
    · simp only [m_X12_reason, m_X12_isArm, i2, e_bd, e_gb1, if_neg no1, gd_n ha3 (show 3 < 2 ^ 31 by decide), tn (show a < 2 ^ 31 by omega)]
      rw [if_pos (show y 117 0 0 a = 0 from hz)]
      rfl
  · have hz2 : ¬ y 117 0 0 a = 0 := hz
    rcases hp with rfl | rfl
    · refine ⟨0, V y 118 a, x, V y 118 a, up4 y 40 0 0 0 0, ?_, ?_, by decide, up4_eq, fun _ => rfl, (hR.th 0).up⟩
      · simp only [m_X11_reason, m_X11_needArm, i1, e_bd, e_bx0, if_neg no1, arm_at ha3, f4 ha3, g7, if_neg hz, if_true, g8]
      · simp only [m_X12_reason, m_X12_isArm, i2, e_bd, e_gb1, if_neg no1, gd_n ha3 (show 3 < 2 ^ 31 by decide), tn (show a < 2 ^ 31 by omega), if_neg hz2, e_lt, if_true]
        rfl
    · refine ⟨0, V y 119 a, x, V y 119 a, up4 y 40 0 0 0 0, ?_, ?_, by decide, up4_eq, fun _ => rfl, (hR.th 0).up⟩
      · simp only [m_X11_reason, m_X11_needArm, i1, e_bd, e_bx0, if_neg no1, arm_at ha3, f4 ha3, g7, if_neg hz, g9]
      · simp only [m_X12_reason, m_X12_isArm, i2, e_bd, e_gb1, if_neg no1, gd_n ha3 (show 3 < 2 ^ 31 by decide), tn (show a < 2 ^ 31 by omega), if_neg hz2, e_lt]
        rfl
theorem e_gq {β : Type} {b : Bool} {a : Option β} (h : b = true) : gq_ b a = a := by
  subst h
  rfl
theorem sim_meanDuration : Sim_meanDuration Rel := by
  intro i x y hi hR
  obtain ⟨-, ⟨⟨r1, -⟩, -⟩, -⟩ := id hR
  have e2 : x 2 ((0 : Fin 10) : Nat) 0 2 = y 40 0 0 37 := r1.2.2.1
  have e6 : x 2 ((0 : Fin 10) : Nat) 0 6 = y 40 0 0 39 := r1.2.2.2.2.2.2
  unfold m_X11_meanDuration m_X12_meanDuration m_X12_meanDuration_j13
  rw [e2, e6]
  by_cases hz : y 40 0 0 37 = 0
  · exact ⟨6, 0, x, FP.dconst0, up4 y 40 0 0 0 1, by rw [if_pos hz], by rw [if_pos hz, e_lt, if_pos (show up4 y 40 0 0 0 1 40 0 0 37 = 0 from hz)], by decide, up4_eq, (fun h => absurd h (by decide)), (fun h => absurd h (by decide)), (hR.th 1).up⟩
  · have hn := nn_ddiv (y 40 0 0 39) (y 40 0 0 37) hz
    exact ⟨0, _, x, _, up4 y 40 0 0 0 0, by rw [if_neg hz, e_gq hn], by rw [if_neg hz, e_lt, if_neg (show ¬ up4 y 40 0 0 0 0 40 0 0 37 = 0 from hz)]; exact e_gq hn, by decide, up4_eq, fun _ => rfl, fun _ => hn, (hR.th 0).up⟩
