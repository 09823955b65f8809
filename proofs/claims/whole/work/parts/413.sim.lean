theorem div_n {a b : Nat} (ha : a < 2 ^ 31) (hb : b < 2 ^ 31) : Int32.ofNat a / Int32.ofNat b = Int32.ofNat (a / b) := (Int32.ofNat_div ha hb).symm
theorem rem_n {a b : Nat} (ha : a < 2 ^ 31) (hb : b < 2 ^ 31) : rem32 (Int32.ofNat a) (Int32.ofNat b) = Int32.ofNat (a % b) := by
  unfold rem32
  rw [div_n ha hb, ← Int32.ofNat_mul, ← Int32.ofNat_sub _ _ (Nat.div_mul_le_self a b)]
  congr 1
  have h := Nat.div_add_mod a b
  rw [Nat.mul_comm] at h
  omega
theorem kept_n {x : Mem} {M : Nat} (h : x 6 ((0 : Fin 10) : Nat) 0 0 = Int32.ofNat M) (hM : M < 2 ^ 31) : m_X7_kept 0 x = some (Int32.ofNat (min M 24)) := by
  unfold m_X7_kept
  rw [h]
  by_cases hm : 24 ≤ M
  · rw [if_pos (show (24 : Int32) ≤ Int32.ofNat M from (le_n (a := 24) (by decide) hM).mpr hm), Nat.min_eq_right hm]
    rfl
  · rw [if_neg (show ¬ (24 : Int32) ≤ Int32.ofNat M from fun q => hm ((le_n (a := 24) (by decide) hM).mp q)), Nat.min_eq_left (by omega)]
theorem sim_entry : Sim_entry Rel := by
  intro i x y p0 p1 hi hR
  obtain ⟨-, ⟨⟨-, -, ⟨-, M, m1, m2, m3, m4'⟩, -⟩, hI⟩, -⟩ := id hR
  have hM : M < 2 ^ 31 := by
    have : SAT * i ≤ SAT * 512 := Nat.mul_le_mul_left _ (by omega)
    unfold SAT at this m1
    omega
  have hk9 := kept_n m2 hM
  have ey : y 40 0 0 40 = Int32.ofNat (min M 24) := m3
  generalize hm : min M 24 = m at *
  have hm24 : m ≤ 24 ∧ m ≤ M := by omega
  by_cases h1 : p0 < 0 ∨ Int32.ofNat m - 1 < p0
  · refine ⟨1, 0, x, 0, up4 y 40 0 0 0 1, ?_, ?_, by decide, up4_eq, (fun h => absurd h (by decide)), (hR.th 1).up⟩
    · simp only [m_X11_entry, hk9, iw_out h1, e_bd, if_true]
    · simp only [m_X12_entry, ey, ib_out h1, e_bd, if_true, m_X12_fails, e_lt, e_bd2]
  have i1 := iw_in h1
  have i2 := ib_in h1
  obtain ⟨k, hk, rfl⟩ := in_n (fun q => h1 (Or.inl q)) (fun q => h1 (Or.inr q)) (show m < 2 ^ 31 by omega)
  by_cases h2 : p1 < 0 ∨ (3 : Int32) < p1
  · refine ⟨2, 0, x, 0, up4 y 40 0 0 0 2, ?_, ?_, by decide, up4_eq, (fun h => absurd h (by decide)), (hR.th 2).up⟩
    · simp only [m_X11_entry, m_X11_need, hk9, i1, iw_out h2, e_bd, e_bx1, if_neg no1, if_true]
    · simp only [m_X12_entry, ey, i2, ib_out h2, e_bd, if_neg no1, if_true, m_X12_fails, e_lt, e_bd2]
  have i3 := iw_in h2
  have i4 := ib_in h2
  obtain ⟨w, hw, rfl⟩ := ex_n (n := 3) (fun q => h2 (Or.inl q)) (fun q => h2 (Or.inr q)) (by decide)
  have hr : (M - m + k) % 24 < 24 := Nat.mod_lt _ (by decide)
  have e1 : rem32 ((Int32.ofNat M - Int32.ofNat m) + Int32.ofNat k) 24 * 4 + Int32.ofNat w = Int32.ofNat (4 * ((M - m + k) % 24) + w) := by
    rw [← Int32.ofNat_sub _ _ hm24.2, ← Int32.ofNat_add, show (24 : Int32) = Int32.ofNat 24 from rfl, rem_n (by omega) (by decide), show (4 : Int32) = Int32.ofNat 4 from rfl, ← Int32.ofNat_mul, ← Int32.ofNat_add, Nat.mul_comm 4]
  refine ⟨0, V y 132 (4 * k + w), x, V y 132 (4 * k + w), up4 y 40 0 0 0 0, ?_, ?_, by decide, up4_eq, fun _ => rfl, (hR.th 0).up⟩
  · simp only [m_X11_entry, m_X11_need, hk9, i1, i3, e_bd, e_bx0, if_neg no1, m_X7_partOf, e_lt]
    rw [show x 6 ((0 : Fin 10) : Nat) 0 0 = Int32.ofNat M from m2, e1, if_neg (ge0 (by omega)), if_neg (fun q => by have := (le_n (a := 96) (by decide) (show 4 * ((M - m + k) % 24) + w < 2 ^ 31 by omega)).mp q; omega), gd_n (show 4 * ((M - m + k) % 24) + w < 96 by omega) (by decide), tn (show 4 * ((M - m + k) % 24) + w < 2 ^ 31 by omega), e_bd, m4' k w hk (by omega)]
    rfl
  · simp only [m_X12_entry, ey, i2, i4, e_bd, if_neg no1, e_lt, m4, gd_n (show 4 * k + w < 96 by omega) (show 96 < 2 ^ 31 by decide), tn (show 4 * k + w < 2 ^ 31 by omega)]
    rfl
