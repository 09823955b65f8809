theorem sim_account : Sim_account Rel := by
  intro i x y p0 hi hR
  by_cases h1 : p0 < 0 ∨ (9 : Int32) < p0
  · refine ⟨2, 0, x, 0, up4 y 40 0 0 0 1, ?_, ?_, by decide, up4_eq, (fun h => absurd h (by decide)), (hR.th 1).up⟩
    · simp only [m_X11_account, m_X11_need, iw_out h1, e_bd, e_bx1, if_true]
    · simp only [m_X12_account, ib_out h1, e_bd, if_true, m_X12_fails, e_lt, e_bd2]
  have i1 := iw_in h1
  have i2 := ib_in h1
  obtain ⟨w, hw, rfl⟩ := ex_n (n := 9) (fun q => h1 (Or.inl q)) (fun q => h1 (Or.inr q)) (by decide)
  obtain ⟨-, ⟨⟨r1, r2, ⟨-, M, m1, m2, m3, -⟩, r4, r5, -⟩, hI⟩, -⟩ := id hR
  have hM : M < 2 ^ 31 := by
    have : SAT * i ≤ SAT * 512 := Nat.mul_le_mul_left _ (by omega)
    unfold SAT at this m1
    omega
  have hk9 := kept_n m2 hM
  obtain ⟨g0, g1, g2, g3, g4, g5, g6⟩ := r1
  replace g0 : x 2 ((0 : Fin 10) : Nat) 0 0 = y 40 0 0 33 := g0
  replace g1 : x 2 ((0 : Fin 10) : Nat) 0 1 = y 40 0 0 34 := g1
  replace g2 : x 2 ((0 : Fin 10) : Nat) 0 2 = y 40 0 0 37 := g2
  replace g3 : x 2 ((0 : Fin 10) : Nat) 0 3 = y 40 0 0 38 := g3
  replace g4 : x 2 ((0 : Fin 10) : Nat) 0 4 = y 40 0 0 35 := g4
  replace g5 : x 2 ((0 : Fin 10) : Nat) 0 5 = y 40 0 0 36 := g5
  have g7 : Int32.ofNat (min M 24) = y 40 0 0 40 := m3.symm
  have g9 : x 3 ((0 : Fin 10) : Nat) 0 0 = icnt (V y) := r2.1
  have s5 : (sumT 3 fun k => x 9 ((0 : Fin 10) : Nat) k 1) = sumT 3 fun k => y 104 0 0 k := sumT_congr 3 fun k hk => (r5 k hk).2.1
  have s8 : (sumT 3 fun k => x 0 ((0 : Fin 10) : Nat) k 10) = sumT 3 fun k => y 120 0 0 k := sumT_congr 3 fun k hk => (r4 k hk).2.2.2.2.2.2.2.2.2.1
  match w, hw with
  | 0, _ => exact ⟨0, y 40 0 0 33, x, y 40 0 0 33, up4 y 40 0 0 0 0, by simp only [m_X11_account, m_X11_need, i1, e_bd, e_bx0, if_neg no1, m_X1_accountOf, g0]; rfl, by simp only [m_X12_account, i2, e_bd, if_neg no1, e_lt]; rfl, Or.inl rfl, up4_eq, fun _ => rfl, (hR.th 0).up⟩
  | 1, _ => exact ⟨0, y 40 0 0 34, x, y 40 0 0 34, up4 y 40 0 0 0 0, by simp only [m_X11_account, m_X11_need, i1, e_bd, e_bx0, if_neg no1, m_X1_accountOf, g1]; rfl, by simp only [m_X12_account, i2, e_bd, if_neg no1, e_lt]; rfl, Or.inl rfl, up4_eq, fun _ => rfl, (hR.th 0).up⟩
  | 2, _ => exact ⟨0, y 40 0 0 37, x, y 40 0 0 37, up4 y 40 0 0 0 0, by simp only [m_X11_account, m_X11_need, i1, e_bd, e_bx0, if_neg no1, m_X1_accountOf, g2]; rfl, by simp only [m_X12_account, i2, e_bd, if_neg no1, e_lt]; rfl, Or.inl rfl, up4_eq, fun _ => rfl, (hR.th 0).up⟩
  | 3, _ => exact ⟨0, y 40 0 0 38, x, y 40 0 0 38, up4 y 40 0 0 0 0, by simp only [m_X11_account, m_X11_need, i1, e_bd, e_bx0, if_neg no1, m_X1_accountOf, g3]; rfl, by simp only [m_X12_account, i2, e_bd, if_neg no1, e_lt]; rfl, Or.inl rfl, up4_eq, fun _ => rfl, (hR.th 0).up⟩
  | 4, _ => exact ⟨0, y 40 0 0 35, x, y 40 0 0 35, up4 y 40 0 0 0 0, by simp only [m_X11_account, m_X11_need, i1, e_bd, e_bx0, if_neg no1, m_X1_accountOf, g4]; rfl, by simp only [m_X12_account, i2, e_bd, if_neg no1, e_lt]; rfl, Or.inl rfl, up4_eq, fun _ => rfl, (hR.th 0).up⟩
  | 5, _ => exact ⟨0, (sumT 3 fun k => y 104 0 0 k), x, (sumT 3 fun k => y 104 0 0 k), up4 y 40 0 0 0 0, by simp only [m_X11_account, m_X11_need, i1, e_bd, e_bx0, if_neg no1, m_X1_accountOf, parts_n, s5]; rfl, by simp only [m_X12_account, i2, e_bd, if_neg no1, e_lt, sum_n (K := 104) (show 3 < 4000 by decide)]; rfl, Or.inl rfl, up4_eq, fun _ => rfl, (hR.th 0).up⟩
  | 6, _ => exact ⟨0, y 40 0 0 36, x, y 40 0 0 36, up4 y 40 0 0 0 0, by simp only [m_X11_account, m_X11_need, i1, e_bd, e_bx0, if_neg no1, m_X1_accountOf, g5]; rfl, by simp only [m_X12_account, i2, e_bd, if_neg no1, e_lt]; rfl, Or.inl rfl, up4_eq, fun _ => rfl, (hR.th 0).up⟩
  | 7, _ => exact ⟨0, y 40 0 0 40, x, y 40 0 0 40, up4 y 40 0 0 0 0, by simp only [m_X11_account, m_X11_need, i1, e_bd, e_bx0, if_neg no1, m_X1_accountOf, hk9, g7]; rfl, by simp only [m_X12_account, i2, e_bd, if_neg no1, e_lt]; rfl, Or.inl rfl, up4_eq, fun _ => rfl, (hR.th 0).up⟩
  | 8, _ => exact ⟨0, (sumT 3 fun k => y 120 0 0 k), x, (sumT 3 fun k => y 120 0 0 k), up4 y 40 0 0 0 0, by simp only [m_X11_account, m_X11_need, i1, e_bd, e_bx0, if_neg no1, m_X1_accountOf, refus_n, s8]; rfl, by simp only [m_X12_account, i2, e_bd, if_neg no1, e_lt, sum_n (K := 120) (show 3 < 4000 by decide)]; rfl, Or.inl rfl, up4_eq, fun _ => rfl, (hR.th 0).up⟩
  | 9, _ => exact ⟨0, icnt (V y), x, icnt (V y), up4 y 40 0 0 0 0, by simp only [m_X11_account, m_X11_need, i1, e_bd, e_bx0, if_neg no1, m_X1_accountOf, g9]; rfl, by simp only [m_X12_account, i2, e_bd, if_neg no1, e_lt, interlocks_n]; rfl, Or.inl rfl, up4_eq, fun _ => rfl, (hR.th 0).up⟩
  | w + 10, hw => omega
