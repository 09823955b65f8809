/-! FROM Rel INTO STEP AND BACK; isSafe, wouldBe -/
theorem Rel.ins {i : Nat} {x y : Mem} (h : Rel i x y) : Ins 0 (SAT * i) x y (V y 117) x y := by
  refine ⟨?_, h.1, FX.rf, FY.rf⟩
  rw [ov_self]
  exact h.2.1.1
theorem Ins.rel {i i' : Nat} {x y x' y' : Mem} (hR : Rel i x y) (hi : i ≤ i') (h : Ins 0 (SAT * i') x y (V y' 117) x' y') (hI : Inv (V y')) : Rel i' x' y' := by
  obtain ⟨h1, h2, h3, h4⟩ := h
  rw [ov_self] at h1
  exact hR.main hi h2 h1 hI (fun k c a t q r _ => h3 _ _ _ _ (by omega) (by omega)) (fun k c a t q => h3 _ _ _ _ (by omega) (by omega)) (fun s => h4 _ _ _ _ (by omega)) (fun s => h4 _ _ _ _ (by omega)) (fun s => h4 _ _ _ _ (by omega)) (h4 _ _ _ _ (by omega)) (h4 _ _ _ _ (by omega)) (h4 _ _ _ _ (by omega))
theorem Ins.mono {c N N' : Nat} {x0 y0 x y : Mem} {p : Nat → Int32} (h : Ins c N x0 y0 p x y) (hN : N ≤ N') : Ins c N' x0 y0 p x y := ⟨h.1.mono hN, h.2⟩
theorem satb {i : Nat} (hi : i < 512) : SAT * i ≤ 4700000 := by
  have : SAT * i ≤ SAT * 512 := Nat.mul_le_mul_left _ (by omega)
  unfold SAT at this ⊢
  omega
theorem sim_isSafe : Sim_isSafe Rel := by
  intro i x y hi hR
  have hR1 := hR.th 0
  have hins := hR1.ins
  have hI : Inv (V (up4 y 40 0 0 0 0)) := hR1.2.1.2
  generalize hy1 : up4 y 40 0 0 0 0 = y1 at hR1 hins hI
  obtain ⟨x', e25, o25, hLK⟩ := la_x (c := 0) (A := V y1) hR1.2.1.1 hI.w
  obtain ⟨l1, l2, l3⟩ := hLK
  obtain ⟨y25, f25, oy, hL⟩ := fn_y hI.w
  have hjy := fn_jy hI.w oy hL
  have hSt : StP (x' 19 0 0 1) (Sa (V y1)) := fun w hw => by
    rw [l1 w hw]
    unfold Sa
    rw [decide_eq_true_eq]
  have hD : DJ (hold (V y1)) := by
    obtain ⟨J, -, -, -, -, -, -, hd⟩ := hI
    exact hd
  obtain ⟨v, ev, hv⟩ := fs_x (S := Sa (V y1)) (x := x') (hh := hold (V y1)) (cw := fun b => x' 21 0 0 b) ⟨l2, fun _ _ => rfl⟩ hD (fun a ha hs => hold_0 (Decidable.of_not_not (of_decide_eq_false hs))) hSt
  obtain ⟨y7, e7, o7⟩ := rs_y (cw := fun b => x' 21 0 0 b) hjy hI.w.jd (fun a ha hs => l3 a ha (of_decide_eq_true hs))
  unfold m_X11_isSafe m_X12_isSafe m_X6_canAllFinish
  rw [e_lt, hy1, f25, e_bd, e7, e_bd2, e25, e_bd, ev, e_bd]
  have fin : Rel (i + 1) x' y7 := by
    refine Ins.rel hR1 (Nat.le_succ _) (((hins.x (fun k a b t q => o25 _ _ _ _ (by omega))).y (fun k a b t q => (o7 _ _ _ _ (by omega)).trans (oy _ _ _ _ (by omega)))).mono (Nat.mul_le_mul_left _ (Nat.le_succ _)) |> fun w => ?_) (hI.oth (fun k s q => (o7 _ _ _ _ (by have := mn_K q; omega)).trans (oy _ _ _ _ (by have := mn_K q; omega))))
    have e117 : V y7 117 = V y1 117 := by
      funext s
      exact (o7 _ _ _ _ (by decide)).trans (oy _ _ _ _ (by decide))
    rw [e117]
    exact w
  rcases low_cases (itp (hold (V y1)) (fun b => x' 21 0 0 b) 3 (Sa (V y1))) with hl | ⟨d, hd, hl, -⟩
  · rw [if_pos ((low_0 hv).mpr hl), hl, if_neg (by decide), e_bd2]
    exact ⟨1, x', y7, rfl, rfl, fin⟩
  · have hne : ¬ v = 0 := fun e => by
      have := (low_0 hv).mp e
      rw [hl] at this
      have h9 := ge0 (show d < 2 ^ 31 by omega)
      rw [this] at h9
      exact h9 lt0_neg
    rw [if_neg hne, hl, if_pos (show (0 : Int32) ≤ Int32.ofNat d from (le_n (a := 0) (by decide) (by omega)).mpr (Nat.zero_le _)), e_bd2]
    exact ⟨0, x', y7, rfl, rfl, fin⟩
/-- whether an arm has something to request, and what -/
theorem req {c : Fin 10} {N : Nat} {x0 y0 x y : Mem} {p : Nat → Int32} (h : Ins c N x0 y0 p x y) (hI : InvW (V y)) {a : Nat} (ha : a < 3) : (m_X1_hasRequest c (c, Fin.ofNat 4 a) x = some 0 ∧ ((V y 114 a = 0 ∧ V y 111 a = 0) ∨ (V y 114 a ≠ 0 ∧ ∃ j n : Nat, j < 30 ∧ j < (V y 40 34).toNatClampNeg ∧ V y 113 a = Int32.ofNat j ∧ V y 124 j = Int32.ofNat n ∧ n ≤ 5 ∧ n ≤ lh (V y) a + 1))) ∨ ∃ j q : Nat, m_X1_hasRequest c (c, Fin.ofNat 4 a) x = some 1 ∧ j < 30 ∧ j < (V y 40 34).toNatClampNeg ∧ q < (V y 124 j).toNatClampNeg ∧ m_X0_requestedJob (c, Fin.ofNat 4 a) x = some (Int32.ofNat j) ∧ m_X0_requestedPlace (c, Fin.ofNat 4 a) x = some (Int32.ofNat q) ∧ ((V y 114 a = 0 ∧ q = 0 ∧ V y 112 (30 * a) = Int32.ofNat j ∧ ∃ r : Nat, r < 30 ∧ V y 111 a = Int32.ofNat (r + 1)) ∨ (V y 114 a ≠ 0 ∧ V y 113 a = Int32.ofNat j ∧ q = lh (V y) a + 1)) := by
  obtain ⟨g1, g2, g3, g4, -, -, -, -, -, -, -, g12, g13⟩ := h.1.2.2.2.1 a ha
  replace g2 : x 0 c a 2 = V y 114 a := g2.trans (ov_ne (by decide))
  replace g3 : x 0 c a 3 = V y 113 a := g3.trans (ov_ne (by decide))
  replace g4 : x 0 c a 4 = V y 115 a := g4.trans (ov_ne (by decide))
  replace g12 : x 0 c a 12 = V y 111 a := g12.trans (ov_ne (by decide))
  have hjobs := h.1.2.2.2.2.2
  by_cases h0 : V y 114 a = 0
  · obtain ⟨J, hJ, eJ, hj, hA, -⟩ := id hI
    obtain ⟨-, r, e1, e2, e3⟩ := hA a ha
    have eR : m_X0_requestedPlace (c, Fin.ofNat 4 a) x = some 0 := by
      unfold m_X0_requestedPlace
      simp only [f4 ha]
      rw [g2, if_pos h0]
    cases r with
    | zero =>
      left
      refine ⟨?_, Or.inl ⟨h0, e1⟩⟩
      have eJob : m_X0_requestedJob (c, Fin.ofNat 4 a) x = some (-1) := by
        unfold m_X0_requestedJob m_X0_rowAt
        simp only [f4 ha]
        rw [g2, if_pos h0, if_neg (by decide), g12, e1, if_pos (by decide), e_bd]
      unfold m_X1_hasRequest
      rw [eJob, e_bd, show m_X1_jobAt c (-1) = some (c, 30) from rfl, e_bd, eR, e_bd]
      unfold m_X5_hasPlace
      rw [if_neg (by decide), show x 12 ↑((c, 30) : Fin 10 × Fin 31).1 ↑((c, 30) : Fin 10 × Fin 31).2 2 = 0 from (h.2.1 c c.isLt).1, if_pos (by decide), e_bd]
      rfl
    | succ r =>
      right
      obtain ⟨j, j1, j2⟩ := e3 0 (by omega)
      have h30 : j < 30 := by omega
      obtain ⟨⟨pa, n, e123, e124, hp⟩, -⟩ := hj j j1
      have hn1 := hp.1
      have hn5 := hp.2.1
      have er : x 1 c a 0 = Int32.ofNat j := by
        rw [g13 0 (by rw [ov_ne (by decide), e1, tn (by omega)]; omega), ov_ne (by decide)]
        exact j2
      have eJob : m_X0_requestedJob (c, Fin.ofNat 4 a) x = some (Int32.ofNat j) := by
        unfold m_X0_requestedJob m_X0_rowAt
        simp only [f4 ha]
        rw [g2, if_pos h0, if_neg (by decide), g12, e1, if_neg (gt0 (by omega)), if_neg (by decide), show ∀ w : Option Int32, gd_ 0 30 w = w from fun w => gd_n (k := 0) (by decide) (by decide), show (0 : Int32).toNatClampNeg = 0 from rfl, er, e_bd]
      obtain ⟨-, -, k2, -⟩ := hjobs j (by rw [ov_ne (by decide), eJ, tn (by omega)]; exact j1)
      refine ⟨j, 0, ?_, h30, by rw [eJ, tn (by omega)]; exact j1, by rw [e124, tn (by omega)]; omega, eJob, eR, Or.inl ⟨h0, rfl, j2, r, by omega, e1⟩⟩
      unfold m_X1_hasRequest
      rw [eJob, e_bd, job_at h30, e_bd, eR, e_bd]
      unfold m_X5_hasPlace
      simp only [f31 h30]
      rw [if_neg (by decide), k2, ov_ne (by decide), e124, if_neg (show ¬ Int32.ofNat n ≤ 0 from le_f (b := 0) (by omega) (by decide) (by omega)), e_bd]
      rfl
  · obtain ⟨j, q, pa, n, h30, hJ, a113, a115, a123, a124, hp, hq, hst⟩ := hI.act ha h0
    have hn5 := hp.2.1
    have eq' : apos (V y) a = q := by unfold apos; rw [a115, tn (by omega)]
    have elh : m_X0_lastHeldPlace (c, Fin.ofNat 4 a) x = some (Int32.ofNat (lh (V y) a)) ∧ lh (V y) a < n := by
      unfold m_X0_lastHeldPlace lh
      simp only [f4 ha]
      rw [g2, g4, a115, eq']
      rcases hst with w | ⟨w, w2⟩ | ⟨w, w2⟩
      · rw [if_neg (by rw [w]; decide), if_neg (by rw [w]; decide)]
        exact ⟨rfl, hq⟩
      · rw [if_pos w, if_pos w, n1]
        exact ⟨rfl, w2⟩
      · rw [if_neg (by rw [w]; decide), if_neg (by rw [w]; decide)]
        exact ⟨rfl, hq⟩
    have eJob : m_X0_requestedJob (c, Fin.ofNat 4 a) x = some (Int32.ofNat j) := by
      unfold m_X0_requestedJob
      simp only [f4 ha]
      rw [g2, if_neg h0, g3, a113]
    have eR : m_X0_requestedPlace (c, Fin.ofNat 4 a) x = some (Int32.ofNat (lh (V y) a + 1)) := by
      unfold m_X0_requestedPlace
      simp only [f4 ha]
      rw [g2, if_neg h0, elh.1, e_bd, n1]
    obtain ⟨-, -, k2, -⟩ := hjobs j (by rw [ov_ne (by decide)]; exact hJ)
    have eH : m_X1_hasRequest c (c, Fin.ofNat 4 a) x = some (if n ≤ lh (V y) a + 1 then 0 else 1) := by
      unfold m_X1_hasRequest
      rw [eJob, e_bd, job_at h30, e_bd, eR, e_bd]
      unfold m_X5_hasPlace
      simp only [f31 h30]
      rw [if_neg (ge0 (by omega)), k2, ov_ne (by decide), a124]
      by_cases hn : n ≤ lh (V y) a + 1
      · rw [if_pos hn, if_pos ((le_n (by omega) (by omega)).mpr hn), e_bd]
        rfl
      · rw [if_neg hn, if_neg (fun w => hn ((le_n (by omega) (by omega)).mp w)), e_bd]
        rfl
    by_cases hn : n ≤ lh (V y) a + 1
    · rw [if_pos hn] at eH
      exact Or.inl ⟨eH, Or.inr ⟨h0, j, n, h30, hJ, a113, a124, hn5, hn⟩⟩
    · rw [if_neg hn] at eH
      exact Or.inr ⟨j, lh (V y) a + 1, eH, h30, hJ, by rw [a124, tn (by omega)]; omega, eJob, eR, Or.inr ⟨h0, a113, rfl⟩⟩
theorem JF.ins {c N : Nat} {x0 y0 x y x' y' : Mem} {p : Nat → Int32} (h : Ins c N x0 y0 p x y) (hF : JF x x' y y') : Ins c N x0 y0 p x' y' := (h.x (fun k a b t q => hF.1 _ _ _ _ (by omega))).y (fun k a b t q => hF.2 _ _ _ _ (by omega) (by omega))
theorem JF.inv {x y x' y' : Mem} (hI : Inv (V y)) (hF : JF x x' y y') : Inv (V y') := hI.oth (fun k s q => hF.2 _ _ _ _ (by have := mn_K q; omega) (fun r => by
  obtain ⟨rfl, r1⟩ := r
  have := mn_40 q
  omega))
theorem m300 {a : Nat} : (30 : Int32) * Int32.ofNat a = Int32.ofNat (30 * a) := by
  rw [Int32.ofNat_mul]
  rfl
theorem sim_wouldBe : Sim_wouldBe Rel := by
  intro i x y p0 hi hR
  by_cases h1 : p0 < 0 ∨ (2 : Int32) < p0
  · refine ⟨1, 0, x, 0, up4 y 40 0 0 0 1, ?_, ?_, by decide, up4_eq, (fun h => absurd h (by decide)), (hR.th 1).up⟩
    · simp only [m_X11_wouldBe, m_X11_needArm, iw_out h1, e_bd, e_bx1, if_true]
    · simp only [m_X12_wouldBe, m_X12_isArm, ib_out h1, e_bd, e_gb0, if_true, m_X12_fails, e_lt, e_bd2]
  have i1 := iw_in h1
  have i2 := ib_in h1
  obtain ⟨a, ha, rfl⟩ := ex_n (n := 2) (fun q => h1 (Or.inl q)) (fun q => h1 (Or.inr q)) (by decide)
  have ha3 : a < 3 := by omega
  have hR1 := hR.th 0
  have hins := hR1.ins
  have hI : Inv (V (up4 y 40 0 0 0 0)) := hR1.2.1.2
  have ey : ∀ k s, k ≠ 40 → V (up4 y 40 0 0 0 0) k s = y k 0 0 s := fun k s q => up4_ne (fun r => q r.1)
  have start : m_X11_wouldBe (Int32.ofNat a) x = bd_ (m_X1_hasRequest 0 (0, Fin.ofNat 4 a) x) fun r9 => if r9 = 0 then some (5, (0 : Int32), x) else bd2_ (m_X6_findReason 0 (0, Fin.ofNat 4 a) x) fun r12 x13 => some (0, r12, x13) := by
    simp only [m_X11_wouldBe, m_X11_needArm, i1, e_bd, e_bx0, if_neg no1, arm_at ha3]
  have start2 : m_X12_wouldBe (Int32.ofNat a) y = if y 114 0 0 a = 0 then (m_X12_wouldBe_j27 (Int32.ofNat a) (1 : Int32) y) else (m_X12_wouldBe_j27 (Int32.ofNat a) (0 : Int32) y) := by
    simp only [m_X12_wouldBe, m_X12_isArm, i2, e_bd, e_gb1, if_neg no1, gd_n ha3 (show 3 < 2 ^ 31 by decide), tn (show a < 2 ^ 31 by omega)]
  rw [start, start2]
  rcases req (c := 0) hins hI.w ha3 with ⟨eH, hno⟩ | ⟨j, q, eH, h30, hJ, hq, r1, r2, hcase⟩
  · refine ⟨5, 0, x, 0, up4 y 40 0 0 0 2, by rw [eH, e_bd, if_pos rfl], ?_, by decide, up4_eq, (fun h => absurd h (by decide)), (hR.th 2).up⟩
    rcases hno with ⟨h0, hr⟩ | ⟨h0, j, n, h30, hJ, a113, a124, hn5, hn⟩
    · rw [ey _ _ (by decide)] at h0 hr
      rw [if_pos h0]
      unfold m_X12_wouldBe_j27
      rw [e_lt, if_neg no1, gd_n ha3 (by decide), tn (show a < 2 ^ 31 by omega), if_pos hr]
      rfl
    · rw [ey _ _ (by decide)] at h0 a113 a124
      rw [if_neg h0]
      have hlh : y 115 0 0 a + (if y 114 0 0 a = 2 then 2 else 1) = Int32.ofNat (lh (V (up4 y 40 0 0 0 0)) a + 1) := by
        obtain ⟨j', q', pa', n', -, -, -, b115, -, -, hp', hq', -⟩ := hI.act ha3 (by rw [ey _ _ (by decide)]; exact h0)
        unfold lh apos
        rw [b115, tn (show q' < 2 ^ 31 by have := hp'.2.1; omega), ey _ _ (by decide)]
        rw [ey _ _ (by decide)] at b115
        rw [b115]
        by_cases h2 : y 114 0 0 a = 2
        · rw [if_pos h2, if_pos h2, Int32.ofNat_add, Int32.ofNat_add, Int32.add_assoc]
          rfl
        · rw [if_neg h2, if_neg h2, n1]
      have hlt : ¬ Int32.ofNat (lh (V (up4 y 40 0 0 0 0)) a + 1) < Int32.ofNat n := by
        have hl5 : lh (V (up4 y 40 0 0 0 0)) a < 10 := by
          obtain ⟨j', q', pa', n', -, -, -, b115, -, -, hp', hq', -⟩ := hI.act ha3 (by rw [ey _ _ (by decide)]; exact h0)
          have := hp'.2.1
          unfold lh apos
          rw [b115, tn (show q' < 2 ^ 31 by omega)]
          split <;> omega
        rw [lt_n (by omega) (by omega)]
        omega
      unfold m_X12_wouldBe_j27 m_X12_wouldBe_j47 m_X12_wouldBe_j69 m_X12_wouldBe_j99 m_X12_wouldBe_j100
      rw [e_lt, if_pos rfl, if_pos rfl, gd_n ha3 (by decide), e_lt, if_pos rfl, gd_n ha3 (by decide), tn (show a < 2 ^ 31 by omega)]
      by_cases h2 : y 114 0 0 a = 2
      · rw [if_pos h2] at hlh ⊢
        rw [e_lt, hlh, a113, gd_n h30 (by decide), tn (show j < 2 ^ 31 by omega), a124, if_neg hlt]
        rfl
      · rw [if_neg h2] at hlh ⊢
        rw [e_lt, hlh, a113, gd_n h30 (by decide), tn (show j < 2 ^ 31 by omega), a124, if_neg hlt]
        rfl
  · have hst : ∃ st : Int32, (V (up4 y 40 0 0 0 0) 114 a = 0 ∧ st = 1) ∨ (V (up4 y 40 0 0 0 0) 114 a ≠ 0 ∧ st = 0) := by
      by_cases h0 : V (up4 y 40 0 0 0 0) 114 a = 0
      · exact ⟨1, Or.inl ⟨h0, rfl⟩⟩
      · exact ⟨0, Or.inr ⟨h0, rfl⟩⟩
    obtain ⟨st, hst⟩ := hst
    obtain ⟨r, x', y', q1, q2, q3, q4, -, -⟩ := rq_all (c := 0) hins hI.w ha3 h30 hJ hq r1 r2 hst
    have hn5 : (V (up4 y 40 0 0 0 0) 124 j).toNatClampNeg ≤ 5 ∧ V (up4 y 40 0 0 0 0) 124 j = Int32.ofNat (V (up4 y 40 0 0 0 0) 124 j).toNatClampNeg := by
      obtain ⟨J, hJ30, eJ, hj, -⟩ := id hI
      rw [eJ, tn (by omega)] at hJ
      obtain ⟨⟨pa, n, -, e124, hp⟩, -⟩ := hj j hJ
      have := hp.2.1
      rw [e124, tn (by omega)]
      exact ⟨this, rfl⟩
    have hlt : Int32.ofNat q < y 124 0 0 j := by
      rw [ey _ _ (by decide)] at hn5 hq
      rw [hn5.2, lt_n (by omega) (by omega)]
      exact hq
    refine ⟨0, r, x', r, y', ?_, ?_, by decide, ?_, fun _ => rfl, ?_⟩
    · rw [eH, e_bd, if_neg no1, q1, e_bd2]
    · rcases hcase with ⟨h0, rfl, j2, r', hr', e111⟩ | ⟨h0, a113, hq'⟩
      · rcases hst with ⟨-, rfl⟩ | ⟨w, -⟩
        · rw [ey _ _ (by decide)] at h0 j2 e111
          have e111' : ¬ y 111 0 0 a = 0 := by
            rw [e111, show (0 : Int32) = Int32.ofNat 0 from rfl, eq_n (by omega) (by decide)]
            omega
          rw [if_pos h0]
          unfold m_X12_wouldBe_j27 m_X12_wouldBe_j47 m_X12_wouldBe_j69 m_X12_wouldBe_j100
          rw [e_lt, if_neg no1, gd_n ha3 (by decide), tn (show a < 2 ^ 31 by omega), if_neg e111', if_neg no1, m300, gd_n (show 30 * a < 90 by omega) (by decide), tn (show 30 * a < 2 ^ 31 by omega), e_lt, if_neg no1, e_lt, j2, gd_n h30 (by decide), tn (show j < 2 ^ 31 by omega), if_pos (show (0 : Int32) < y 124 0 0 j from hlt), e_lt]
          have q2' : m_X12_answers (Int32.ofNat a) (Int32.ofNat j) 0 1 (up4 y 40 0 0 0 0) = some (r, y') := q2
          rw [q2', e_bd2]
        · exact absurd h0 w
      · rcases hst with ⟨w, -⟩ | ⟨-, rfl⟩
        · exact absurd w h0
        · have hlh : y 115 0 0 a + (if y 114 0 0 a = 2 then 2 else 1) = Int32.ofNat q := by
            obtain ⟨j', q', pa', n', -, -, -, b115, -, -, hp', hq'', -⟩ := hI.act ha3 h0
            rw [hq']
            unfold lh apos
            rw [b115, tn (show q' < 2 ^ 31 by have := hp'.2.1; omega), ey _ _ (by decide)]
            rw [ey _ _ (by decide)] at b115
            rw [b115]
            by_cases h2 : y 114 0 0 a = 2
            · rw [if_pos h2, if_pos h2, Int32.ofNat_add, Int32.ofNat_add, Int32.add_assoc]
              rfl
            · rw [if_neg h2, if_neg h2, n1]
          rw [ey _ _ (by decide)] at h0 a113
          rw [if_neg h0]
          unfold m_X12_wouldBe_j27 m_X12_wouldBe_j47 m_X12_wouldBe_j69 m_X12_wouldBe_j99 m_X12_wouldBe_j100
          rw [e_lt, if_pos rfl, if_pos rfl, gd_n ha3 (by decide), e_lt, if_pos rfl, gd_n ha3 (by decide), tn (show a < 2 ^ 31 by omega)]
          by_cases h2 : y 114 0 0 a = 2
          · rw [if_pos h2] at hlh ⊢
            rw [e_lt, hlh, a113, gd_n h30 (by decide), tn (show j < 2 ^ 31 by omega), if_pos hlt, e_lt, q2, e_bd2]
          · rw [if_neg h2] at hlh ⊢
            rw [e_lt, hlh, a113, gd_n h30 (by decide), tn (show j < 2 ^ 31 by omega), if_pos hlt, e_lt, q2, e_bd2]
    · rw [q3.2 _ _ _ _ (by decide) (by decide), up4_eq]
      rfl
    · have e117 : V y' 117 = V (up4 y 40 0 0 0 0) 117 := by
        funext s
        exact q3.2 _ _ _ _ (by decide) (by omega)
      refine Ins.rel hR1 (Nat.le_succ _) ?_ (q3.inv hI)
      rw [e117]
      exact (q3.ins hins).mono (Nat.mul_le_mul_left _ (Nat.le_succ _))
