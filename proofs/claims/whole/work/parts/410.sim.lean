theorem sim_part : Sim_part Rel := by
  intro i x y p0 p1 hi hR
  by_cases h1 : p0 < 0 ∨ (2 : Int32) < p0
  · refine ⟨1, 0, x, 0, up4 y 40 0 0 0 1, ?_, ?_, by decide, up4_eq, (fun h => absurd h (by decide)), (hR.th 1).up⟩
    · simp only [m_X11_part, m_X11_needBuffer, iw_out h1, e_bd, e_bx1, if_true]
    · simp only [m_X12_part, m_X12_isBuffer, ib_out h1, e_bd, e_gb0, if_true, m_X12_fails, e_lt, e_bd2]
  have i1 := iw_in h1
  have i2 := ib_in h1
  obtain ⟨b, hb, rfl⟩ := ex_n (n := 2) (fun q => h1 (Or.inl q)) (fun q => h1 (Or.inr q)) (by decide)
  have hb3 : b < 3 := by omega
  obtain ⟨-, ⟨⟨-, -, -, -, r5, -⟩, hI⟩, -⟩ := id hR
  replace r5 : ∀ b, b < 3 → RSto x ((0 : Fin 10) : Nat) (V y) b := r5
  obtain ⟨-, g2, -, -, -, -, g7⟩ := r5 b hb3
  obtain ⟨J, hJ, -, -, -, hS, -⟩ := hI
  obtain ⟨cap, n, pp, pr, -, e1, -, -, e5, e6, -⟩ := hS b hb3
  have ey : y 104 0 0 b = Int32.ofNat n := e1
  rw [e1] at g2 g7
  rw [tn (show n < 2 ^ 31 by omega)] at g7
  by_cases h2 : p1 < 0 ∨ Int32.ofNat n - 1 < p1
  · refine ⟨5, 0, x, 0, up4 y 40 0 0 0 2, ?_, ?_, by decide, up4_eq, (fun h => absurd h (by decide)), (hR.th 2).up⟩
    · simp only [m_X11_part, m_X11_needBuffer, i1, e_bd, e_bx0, if_neg no1, sto_at hb3, f4 hb3, g2, iw_out h2, if_true]
    · simp only [m_X12_part, m_X12_isBuffer, i2, e_bd, e_gb1, if_neg no1, gd_n hb3 (show 3 < 2 ^ 31 by decide), tn (show b < 2 ^ 31 by omega), ey, ib_out h2, if_true, m_X12_fails, e_lt, e_bd2]
  have i3 := iw_in h2
  have i4 := ib_in h2
  obtain ⟨k, hk, rfl⟩ := in_n (fun q => h2 (Or.inl q)) (fun q => h2 (Or.inr q)) (show n < 2 ^ 31 by omega)
  refine ⟨0, V y 105 (4 * b + k), x, V y 105 (4 * b + k), up4 y 40 0 0 0 0, ?_, ?_, by decide, up4_eq, fun _ => rfl, (hR.th 0).up⟩
  · simp only [m_X11_part, m_X11_needBuffer, i1, e_bd, e_bx0, if_neg no1, sto_at hb3, f4 hb3, g2, i3, m_X9_partAt, if_neg (ge0 (show k < 2 ^ 31 by omega)), gd_n (show k < 4 by omega) (show 4 < 2 ^ 31 by decide), tn (show k < 2 ^ 31 by omega), g7 k hk]
    rw [if_neg (fun q => by have := (le_n (show n < 2 ^ 31 by omega) (show k < 2 ^ 31 by omega)).mp q; omega), if_neg (fun q => by have := (le_n (a := 4) (by decide) (show k < 2 ^ 31 by omega)).mp q; omega)]
    rfl
  · simp only [m_X12_part, m_X12_isBuffer, i2, e_bd, e_gb1, if_neg no1, gd_n hb3 (show 3 < 2 ^ 31 by decide), tn (show b < 2 ^ 31 by omega), ey, i4, e_lt, m4, gd_n (show 4 * b + k < 12 by omega) (show 12 < 2 ^ 31 by decide), tn (show 4 * b + k < 2 ^ 31 by omega)]
    rfl
