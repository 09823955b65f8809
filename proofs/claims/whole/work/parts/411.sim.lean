theorem isjob_out {p0 : Int32} {y : Mem} {J : Nat} (e : y 40 0 0 34 = Int32.ofNat J) (hJ : J ≤ 30) (h : p0 < 0 ∨ Int32.ofNat J - 1 < p0) : m_X12_isJob p0 y = some 0 := by
  unfold m_X12_isJob
  by_cases h1 : p0 < 0
  · rw [if_pos h1]
  rw [if_neg h1, e]
  by_cases h2 : Int32.ofNat J ≤ p0
  · rw [if_pos h2]
  exfalso
  have h3 := h.resolve_left h1
  have h4 : p0 < Int32.ofNat J := Int32.not_le.mp h2
  obtain ⟨k, hk, rfl⟩ := ex_n (n := J) h1 (fun q => h2 (Int32.le_of_lt q)) (by omega)
  rw [lt_n (by omega) (by omega)] at h4
  cases J with
  | zero => omega
  | succ j =>
    rw [s1, lt_n (by omega) (by omega)] at h3
    omega
theorem isjob_in {y : Mem} {J k : Nat} (e : y 40 0 0 34 = Int32.ofNat J) (hJ : J ≤ 30) (h : k < J) : m_X12_isJob (Int32.ofNat k) y = some 1 := by
  unfold m_X12_isJob
  rw [if_neg (ge0 (by omega)), e, if_neg (fun q => by have := (le_n (by omega) (by omega)).mp q; omega)]
theorem sim_job : Sim_job Rel := by
  intro i x y p0 p1 hi hR
  obtain ⟨-, ⟨⟨r1, -, -, -, -, r6⟩, hI⟩, -⟩ := id hR
  obtain ⟨J, hJ, eJ, -⟩ := hI
  replace r6 : ∀ j, j < (V y 40 34).toNatClampNeg → RJob x ((0 : Fin 10) : Nat) (V y) j := r6
  have e1 : x 2 ((0 : Fin 10) : Nat) 0 1 = Int32.ofNat J := r1.2.1.trans eJ
  have ey : y 40 0 0 34 = Int32.ofNat J := eJ
  rw [eJ, tn (show J < 2 ^ 31 by omega)] at r6
  by_cases h1 : p0 < 0 ∨ Int32.ofNat J - 1 < p0
  · refine ⟨1, 0, x, 0, up4 y 40 0 0 0 1, ?_, ?_, by decide, up4_eq, (fun h => absurd h (by decide)), (hR.th 1).up⟩
    · simp only [m_X11_job, m_X11_needJob, e1, iw_out h1, e_bd, e_bx1, if_true]
    · simp only [m_X12_job, isjob_out ey hJ h1, e_bd, if_true, m_X12_fails, e_lt, e_bd2]
  have i1 := iw_in h1
  obtain ⟨k, hk, rfl⟩ := in_n (fun q => h1 (Or.inl q)) (fun q => h1 (Or.inr q)) (show J < 2 ^ 31 by omega)
  have hk3 : k < 30 := by omega
  have i2 := isjob_in ey hJ hk
  by_cases h2 : p1 < 0 ∨ (8 : Int32) < p1
  · refine ⟨2, 0, x, 0, up4 y 40 0 0 0 2, ?_, ?_, by decide, up4_eq, (fun h => absurd h (by decide)), (hR.th 2).up⟩
    · simp only [m_X11_job, m_X11_needJob, m_X11_need, e1, i1, iw_out h2, e_bd, e_bx0, e_bx1, if_neg no1, if_true]
    · simp only [m_X12_job, i2, ib_out h2, e_bd, if_neg no1, if_true, m_X12_fails, e_lt, e_bd2]
  have i3 := iw_in h2
  have i4 := ib_in h2
  obtain ⟨w, hw, rfl⟩ := ex_n (n := 8) (fun q => h2 (Or.inl q)) (fun q => h2 (Or.inr q)) (by decide)
  obtain ⟨g0, g1, -, g3, g4, g5, g6, g7, g8, g9⟩ := r6 k hk
  match w, hw with
  | 0, _ => exact ⟨0, V y 122 k, x, V y 122 k, up4 y 40 0 0 0 0, by simp only [m_X11_job, m_X11_needJob, m_X11_need, e1, i1, i3, e_bd, e_bx0, if_neg no1, job_at hk3, m_X5_about, f31 hk3, g0]; rfl, by simp only [m_X12_job, i2, i4, e_bd, if_neg no1, e_lt, gd_n hk3 (show 30 < 2 ^ 31 by decide), tn (show k < 2 ^ 31 by omega)]; rfl, Or.inl rfl, up4_eq, fun _ => rfl, (hR.th 0).up⟩
  | 1, _ => exact ⟨0, V y 123 k, x, V y 123 k, up4 y 40 0 0 0 0, by simp only [m_X11_job, m_X11_needJob, m_X11_need, e1, i1, i3, e_bd, e_bx0, if_neg no1, job_at hk3, m_X5_about, f31 hk3, g1]; rfl, by simp only [m_X12_job, i2, i4, e_bd, if_neg no1, e_lt, gd_n hk3 (show 30 < 2 ^ 31 by decide), tn (show k < 2 ^ 31 by omega)]; rfl, Or.inl rfl, up4_eq, fun _ => rfl, (hR.th 0).up⟩
  | 2, _ => exact ⟨0, V y 125 k, x, V y 125 k, up4 y 40 0 0 0 0, by simp only [m_X11_job, m_X11_needJob, m_X11_need, e1, i1, i3, e_bd, e_bx0, if_neg no1, job_at hk3, m_X5_about, f31 hk3, g3]; rfl, by simp only [m_X12_job, i2, i4, e_bd, if_neg no1, e_lt, gd_n hk3 (show 30 < 2 ^ 31 by decide), tn (show k < 2 ^ 31 by omega)]; rfl, Or.inl rfl, up4_eq, fun _ => rfl, (hR.th 0).up⟩
  | 3, _ => exact ⟨0, V y 126 k, x, V y 126 k, up4 y 40 0 0 0 0, by simp only [m_X11_job, m_X11_needJob, m_X11_need, e1, i1, i3, e_bd, e_bx0, if_neg no1, job_at hk3, m_X5_about, f31 hk3, g4]; rfl, by simp only [m_X12_job, i2, i4, e_bd, if_neg no1, e_lt, gd_n hk3 (show 30 < 2 ^ 31 by decide), tn (show k < 2 ^ 31 by omega)]; rfl, Or.inl rfl, up4_eq, fun _ => rfl, (hR.th 0).up⟩
  | 4, _ => exact ⟨0, V y 127 k, x, V y 127 k, up4 y 40 0 0 0 0, by simp only [m_X11_job, m_X11_needJob, m_X11_need, e1, i1, i3, e_bd, e_bx0, if_neg no1, job_at hk3, m_X5_about, f31 hk3, g5]; rfl, by simp only [m_X12_job, i2, i4, e_bd, if_neg no1, e_lt, gd_n hk3 (show 30 < 2 ^ 31 by decide), tn (show k < 2 ^ 31 by omega)]; rfl, Or.inl rfl, up4_eq, fun _ => rfl, (hR.th 0).up⟩
  | 5, _ => exact ⟨0, V y 128 k, x, V y 128 k, up4 y 40 0 0 0 0, by simp only [m_X11_job, m_X11_needJob, m_X11_need, e1, i1, i3, e_bd, e_bx0, if_neg no1, job_at hk3, m_X5_about, f31 hk3, g6]; rfl, by simp only [m_X12_job, i2, i4, e_bd, if_neg no1, e_lt, gd_n hk3 (show 30 < 2 ^ 31 by decide), tn (show k < 2 ^ 31 by omega)]; rfl, Or.inl rfl, up4_eq, fun _ => rfl, (hR.th 0).up⟩
  | 6, _ => exact ⟨0, V y 129 k, x, V y 129 k, up4 y 40 0 0 0 0, by simp only [m_X11_job, m_X11_needJob, m_X11_need, e1, i1, i3, e_bd, e_bx0, if_neg no1, job_at hk3, m_X5_about, f31 hk3, g7]; rfl, by simp only [m_X12_job, i2, i4, e_bd, if_neg no1, e_lt, gd_n hk3 (show 30 < 2 ^ 31 by decide), tn (show k < 2 ^ 31 by omega)]; rfl, Or.inl rfl, up4_eq, fun _ => rfl, (hR.th 0).up⟩
  | 7, _ => exact ⟨0, V y 130 k, x, V y 130 k, up4 y 40 0 0 0 0, by simp only [m_X11_job, m_X11_needJob, m_X11_need, e1, i1, i3, e_bd, e_bx0, if_neg no1, job_at hk3, m_X5_about, f31 hk3, g8]; rfl, by simp only [m_X12_job, i2, i4, e_bd, if_neg no1, e_lt, gd_n hk3 (show 30 < 2 ^ 31 by decide), tn (show k < 2 ^ 31 by omega)]; rfl, Or.inl rfl, up4_eq, fun _ => rfl, (hR.th 0).up⟩
  | 8, _ => exact ⟨0, V y 131 k, x, V y 131 k, up4 y 40 0 0 0 0, by simp only [m_X11_job, m_X11_needJob, m_X11_need, e1, i1, i3, e_bd, e_bx0, if_neg no1, job_at hk3, m_X5_about, f31 hk3, g9]; rfl, by simp only [m_X12_job, i2, i4, e_bd, if_neg no1, e_lt, gd_n hk3 (show 30 < 2 ^ 31 by decide), tn (show k < 2 ^ 31 by omega)]; rfl, Or.inl rfl, up4_eq, fun _ => rfl, (hR.th 0).up⟩
  | w + 9, hw => omega
