theorem e_bxg0 {β : Type} (d : β) (v : Int32) (z : Mem) (k : Int32 → Mem → Option (Nat × β × Mem)) : bxg_ d (some (0, v, z)) k = k v z := rfl
theorem e_bxg1 {β : Type} (d : β) (v : Int32) (z : Mem) (n : Nat) (k : Int32 → Mem → Option (Nat × β × Mem)) : bxg_ d (some (n + 1, v, z)) k = some (n + 1, d, z) := rfl
theorem sim_use : Sim_use Rel := by
  intro i x y p0 hi hR
  by_cases h1 : p0 < 0 ∨ (2 : Int32) < p0
  · refine ⟨1, 0, x, FP.fconst0, up4 y 40 0 0 0 1, ?_, ?_, by decide, up4_eq, (fun h => absurd h (by decide)), (fun h => absurd h (by decide)), (hR.th 1).up⟩
    · simp only [m_X11_use, m_X11_needArm, iw_out h1, e_bd, e_bxg1, if_true]
    · simp only [m_X12_use, m_X12_isArm, ib_out h1, e_bd, e_gb0, if_true, e_lt]
  have i1 := iw_in h1
  have i2 := ib_in h1
  obtain ⟨a, ha, rfl⟩ := ex_n (n := 2) (fun q => h1 (Or.inl q)) (fun q => h1 (Or.inr q)) (by decide)
  have ha3 : a < 3 := by omega
  obtain ⟨-, ⟨⟨r1, -, -, r4, -⟩, -⟩, -⟩ := id hR
  replace r4 : ∀ a, a < 3 → RArm x ((0 : Fin 10) : Nat) (V y) a := r4
  obtain ⟨-, -, -, -, -, -, -, -, -, -, g11, -⟩ := r4 a ha3
  have et : x 2 ((0 : Fin 10) : Nat) 0 0 = y 40 0 0 33 := r1.1
  have eb : x 0 ((0 : Fin 10) : Nat) a 11 = y 121 0 0 a := g11
  by_cases hz : y 40 0 0 33 = 0
  · refine ⟨6, 0, x, FP.fconst0, up4 y 40 0 0 0 2, ?_, ?_, by decide, up4_eq, (fun h => absurd h (by decide)), (fun h => absurd h (by decide)), (hR.th 2).up⟩
    · simp only [m_X11_use, m_X11_needArm, i1, e_bd, e_bxg0, if_neg no1, et, hz, if_true]
    · simp only [m_X12_use, m_X12_isArm, i2, e_bd, e_gb1, if_neg no1, if_pos hz, m_X12_use_j27, e_lt]
      rw [if_pos (show up4 y 40 0 0 0 2 40 0 0 33 = 0 from hz)]
  · have hn := nn_fdiv (y 121 0 0 a) (y 40 0 0 33) hz
    refine ⟨0, FP.fdiv (FP.i2f (y 121 0 0 a)) (FP.i2f (y 40 0 0 33)), x, FP.fdiv (FP.i2f (y 121 0 0 a)) (FP.i2f (y 40 0 0 33)), up4 y 40 0 0 0 0, ?_, ?_, by decide, up4_eq, fun _ => rfl, fun _ => nn_f2d hn, (hR.th 0).up⟩
    · simp only [m_X11_use, m_X11_needArm, i1, e_bd, e_bxg0, if_neg no1, et, if_neg hz, arm_at ha3, f4 ha3, eb, e_gq hn]
    · simp only [m_X12_use, m_X12_isArm, i2, e_bd, e_gb1, if_neg no1, if_neg hz, m_X12_use_j27, e_lt, gd_n ha3 (show 3 < 2 ^ 31 by decide), tn (show a < 2 ^ 31 by omega)]
      rw [if_neg (show ¬ up4 y 40 0 0 0 0 40 0 0 33 = 0 from hz)]
      exact e_gq hn
theorem in_n {v : Int32} {r : Nat} (h1 : ¬ v < 0) (h2 : ¬ Int32.ofNat r - 1 < v) (hr : r < 2 ^ 31) : ∃ k : Nat, k < r ∧ v = Int32.ofNat k := by
  cases r with
  | zero =>
    have a1 : (0 : Int32) ≤ v := Int32.not_lt.mp h1
    have a2 : v ≤ Int32.ofNat 0 - 1 := Int32.not_lt.mp h2
    exact absurd (Int32.le_trans a1 a2) (by decide)
  | succ r =>
    rw [s1] at h2
    obtain ⟨k, hk, rfl⟩ := ex_n h1 h2 (by omega)
    exact ⟨k, by omega, rfl⟩
theorem m30 {a k : Nat} : (30 : Int32) * Int32.ofNat a + Int32.ofNat k = Int32.ofNat (30 * a + k) := by
  rw [Int32.ofNat_add, Int32.ofNat_mul]
  rfl
theorem m4 {a k : Nat} : (4 : Int32) * Int32.ofNat a + Int32.ofNat k = Int32.ofNat (4 * a + k) := by
  rw [Int32.ofNat_add, Int32.ofNat_mul]
  rfl
theorem sim_waiting : Sim_waiting Rel := by
  intro i x y p0 p1 hi hR
  by_cases h1 : p0 < 0 ∨ (2 : Int32) < p0
  · refine ⟨1, 0, x, 0, up4 y 40 0 0 0 1, ?_, ?_, by decide, up4_eq, (fun h => absurd h (by decide)), (hR.th 1).up⟩
    · simp only [m_X11_waiting, m_X11_needArm, iw_out h1, e_bd, e_bx1, if_true]
    · simp only [m_X12_waiting, m_X12_isArm, ib_out h1, e_bd, e_gb0, if_true, m_X12_waiting_j23, m_X12_fails, e_lt, e_bd2]
  have i1 := iw_in h1
  have i2 := ib_in h1
  obtain ⟨a, ha, rfl⟩ := ex_n (n := 2) (fun q => h1 (Or.inl q)) (fun q => h1 (Or.inr q)) (by decide)
  have ha3 : a < 3 := by omega
  obtain ⟨-, ⟨⟨-, -, -, r4, -⟩, hI⟩, -⟩ := id hR
  replace r4 : ∀ a, a < 3 → RArm x ((0 : Fin 10) : Nat) (V y) a := r4
  obtain ⟨-, -, -, -, -, -, -, -, -, -, -, g12, g13⟩ := r4 a ha3
  obtain ⟨J, hJ, -, -, hA, -⟩ := hI
  obtain ⟨-, r, e1, e2, e3⟩ := hA a ha3
  have ey : y 111 0 0 a = Int32.ofNat r := e1
  rw [e1] at g12 g13
  rw [tn (show r < 2 ^ 31 by omega)] at g13
  by_cases h2 : p1 < 0 ∨ Int32.ofNat r - 1 < p1
  · refine ⟨1, 0, x, 0, up4 y 40 0 0 0 1, ?_, ?_, by decide, up4_eq, (fun h => absurd h (by decide)), (hR.th 1).up⟩
    · simp only [m_X11_waiting, m_X11_needArm, i1, e_bd, e_bx0, if_neg no1, arm_at ha3, f4 ha3, g12, iw_out h2, if_true]
    · simp only [m_X12_waiting, m_X12_isArm, i2, e_bd, e_gb1, if_neg no1, gd_n ha3 (show 3 < 2 ^ 31 by decide), tn (show a < 2 ^ 31 by omega), ey, ib_out h2, if_true, m_X12_waiting_j23, m_X12_fails, e_lt, e_bd2]
  have i3 := iw_in h2
  have i4 := ib_in h2
  obtain ⟨k, hk, rfl⟩ := in_n (fun q => h2 (Or.inl q)) (fun q => h2 (Or.inr q)) (show r < 2 ^ 31 by omega)
  refine ⟨0, V y 112 (30 * a + k), x, V y 112 (30 * a + k), up4 y 40 0 0 0 0, ?_, ?_, by decide, up4_eq, fun _ => rfl, (hR.th 0).up⟩
  · simp only [m_X11_waiting, m_X11_needArm, i1, e_bd, e_bx0, if_neg no1, arm_at ha3, f4 ha3, g12, i3, m_X0_rowAt, if_neg (ge0 (show k < 2 ^ 31 by omega)), gd_n (show k < 30 by omega) (show 30 < 2 ^ 31 by decide), tn (show k < 2 ^ 31 by omega), g13 k hk]
    rw [if_neg (fun q => by have := (le_n (show r < 2 ^ 31 by omega) (show k < 2 ^ 31 by omega)).mp q; omega), if_neg (fun q => by have := (le_n (a := 30) (by decide) (show k < 2 ^ 31 by omega)).mp q; omega)]
    rfl
  · simp only [m_X12_waiting, m_X12_isArm, i2, e_bd, e_gb1, if_neg no1, gd_n ha3 (show 3 < 2 ^ 31 by decide), tn (show a < 2 ^ 31 by omega), ey, i4, e_lt, m30, gd_n (show 30 * a + k < 90 by omega) (show 90 < 2 ^ 31 by decide), tn (show 30 * a + k < 2 ^ 31 by omega)]
    rfl
