/-! WHAT HOLDS OF A STATE, kept -/
theorem cntB_kp {A A' : St} {f b : Nat} (h4 : ∀ a, a < 3 → A' 114 a = A 114 a) (h3 : ∀ a, a < 3 → A' 113 a = A 113 a) (hf : ∀ a, a < 3 → A' f (ajob A a) = A f (ajob A a)) : cntB A' f b = cntB A f b := by
  have e1 : ∀ a, a < 3 → ajob A' a = ajob A a := fun a ha => by unfold ajob; rw [h3 a ha]
  unfold cntB
  rw [e1 0 (by decide), e1 1 (by decide), e1 2 (by decide), hf 0 (by decide), hf 1 (by decide), hf 2 (by decide), h4 0 (by decide), h4 1 (by decide), h4 2 (by decide)]
theorem JobOk.kp {A A' : St} {j : Nat} (h : JobOk A j) (hA : ∀ k, 123 ≤ k → k ≤ 128 → A' k j = A k j) : JobOk A' j := by
  unfold JobOk at h ⊢
  rw [hA 123 (by decide) (by decide), hA 124 (by decide) (by decide), hA 125 (by decide) (by decide), hA 126 (by decide) (by decide), hA 127 (by decide) (by decide), hA 128 (by decide) (by decide)]
  exact h
theorem ArmOk.kp {A A' : St} {J J' a : Nat} (h : ArmOk A J a) (hJ : J ≤ J') (hJ30 : J ≤ 30) (hA : ∀ k, 111 ≤ k → k ≤ 116 → k ≠ 112 → A' k a = A k a) (hr : ∀ k, k < 30 → A' 112 (30 * a + k) = A 112 (30 * a + k)) (h4 : ∀ j, j < J → A' 124 j = A 124 j) : ArmOk A' J' a := by
  obtain ⟨g, r, g2, g3, g4⟩ := h
  refine ⟨?_, r, by rw [hA 111 (by decide) (by decide) (by decide)]; exact g2, by omega, fun k hk => ?_⟩
  · rw [hA 113 (by decide) (by decide) (by decide), hA 114 (by decide) (by decide) (by decide), hA 115 (by decide) (by decide) (by decide), hA 116 (by decide) (by decide) (by decide)]
    refine g.imp id fun ⟨j, p, n, w1, w2, w3, w4, w5⟩ => ⟨j, p, n, by omega, ?_, ?_, ?_, ?_⟩
    · rw [hA 113 (by decide) (by decide) (by decide)]; exact w2
    · rw [hA 115 (by decide) (by decide) (by decide)]; exact w3
    · rw [h4 j w1]; exact w4
    · rw [hA 114 (by decide) (by decide) (by decide), hA 116 (by decide) (by decide) (by decide)]; exact w5
  · obtain ⟨j, q1, q2⟩ := g4 k hk
    exact ⟨j, by omega, by rw [hr k (by omega)]; exact q2⟩
theorem StoreOk.kp {A A' : St} {b : Nat} (h : StoreOk A b) (hA : ∀ k, 103 ≤ k → k ≤ 107 → k ≠ 105 → A' k b = A k b) (hp : ∀ k, k < 4 → A' 105 (4 * b + k) = A 105 (4 * b + k)) (c1 : cntB A' 128 b = cntB A 128 b) (c2 : cntB A' 127 b = cntB A 127 b) : StoreOk A' b := by
  obtain ⟨cap, n, pp, pr, g1, g2, g3, g4, g5, g6, g7, g8, g9, g10⟩ := h
  refine ⟨cap, n, pp, pr, ?_, ?_, ?_, ?_, g5, g6, g7, by rw [c1]; exact g8, by rw [c2]; exact g9, fun k hk => by rw [hp k (by omega)]; exact g10 k hk⟩
  · rw [hA 103 (by decide) (by decide) (by decide)]; exact g1
  · rw [hA 104 (by decide) (by decide) (by decide)]; exact g2
  · rw [hA 106 (by decide) (by decide) (by decide)]; exact g3
  · rw [hA 107 (by decide) (by decide) (by decide)]; exact g4
theorem ZonesOk.kp {A A' : St} (h : ZonesOk A) (hA : ∀ z, z < 8 → A' 101 z = A 101 z) : ZonesOk A' :=
  ⟨fun z q => by rw [hA z q]; exact h.1 z q, fun z w q r => by rw [hA z q, hA w r]; exact h.2 z w q r⟩
theorem Disj.kp {A A' : St} (h : Disj A) (hA : ∀ a, a < 3 → hold A' a = hold A a) : Disj A' := fun a b q r t => by rw [hA a q, hA b r]; exact h a b q r t
theorem ArmOk.jlt {A : St} {J a : Nat} (hJ : J ≤ 30) (h : ArmOk A J a) (h0 : A 114 a ≠ 0) : ajob A a < J := by
  rcases h.1 with ⟨h2, -⟩ | ⟨j, q, n, h1, h2, -⟩
  · exact absurd h2 h0
  · unfold ajob
    rw [h2, tn (by omega)]
    exact h1
theorem Inv.wr {A : St} {k s : Nat} {v : Int32} (hI : Inv A) (h : ¬ RdK k s) : Inv (S4 A k s v) := hI.cg (fun k' s' _ r => (S4_ne (fun q => h (by rw [← q.1, ← q.2]; exact r))).symm)
theorem Inv.wy {y : Mem} {k s : Nat} {v : Int32} (hI : Inv (V y)) (h : ¬ RdK k s) : Inv (V (up4 y k 0 0 s v)) := by
  rw [V_up]
  exact hI.wr h
/-- a buffer changed -/
theorem Inv.of_sto {A A' : St} {b : Nat} (hI : Inv A) (h1 : ∀ k s, ¬ (103 ≤ k ∧ k ≤ 107) → A' k s = A k s ∨ ¬ RdK k s) (h2 : ∀ k d, d < 3 → d ≠ b → 103 ≤ k → k ≤ 107 → k ≠ 105 → A' k d = A k d) (h3 : ∀ d k, d < 3 → d ≠ b → k < 4 → A' 105 (4 * d + k) = A 105 (4 * d + k)) (hb : ∀ cap n pp pr : Nat, b < 3 → A 103 b = Int32.ofNat cap → A 104 b = Int32.ofNat n → A 106 b = Int32.ofNat pp → A 107 b = Int32.ofNat pr → cap ≤ 4 → n + pp ≤ cap → pr ≤ n → pp = cntB A' 128 b → pr = cntB A' 127 b → (∀ k, k < n → ∃ m : Nat, m < 2 ^ 31 ∧ A 105 (4 * b + k) = Int32.ofNat m) → StoreOk A' b) : Inv A' := by
  have h1' : ∀ k s, ¬ (103 ≤ k ∧ k ≤ 107) → RdK k s → A' k s = A k s := fun k s q r => (h1 k s q).resolve_right (fun w => w r)
  obtain ⟨J, hJ, e1, hj, ha, hS, hz, hd⟩ := hI
  have hcnt : ∀ f d, f = 127 ∨ f = 128 → cntB A' f d = cntB A f d := fun f d hf => cntB_kp (fun a _ => h1' _ _ (by omega) (rdk (by decide))) (fun a _ => h1' _ _ (by omega) (rdk (by decide))) (fun a _ => h1' _ _ (by omega) (rdk (by omega)))
  refine ⟨J, hJ, (h1' _ _ (by omega) (Or.inl ⟨rfl, rfl⟩)).trans e1, fun j q => (hj j q).kp (fun k u v => h1' _ _ (by omega) (rdk (by omega))), fun a q => (ha a q).kp (Nat.le_refl _) hJ (fun k u v w => h1' _ _ (by omega) (rdk (by omega))) (fun k _ => h1' _ _ (by omega) (rdk (by decide))) (fun j _ => h1' _ _ (by omega) (rdk (by decide))), fun d q => ?_, hz.kp (fun z _ => h1' _ _ (by omega) (rdk (by decide))), hd.kp (fun a _ => hold_kp (h1' _ _ (by omega) (rdk (by decide))) (h1' _ _ (by omega) (rdk (by decide))) (h1' _ _ (by omega) (rdk (by decide))) (h1' _ _ (by omega) (rdk (by decide))) (h1' _ _ (by omega) (rdk (by decide))))⟩
  by_cases e : d = b
  · subst e
    obtain ⟨cap, n, pp, pr, g1, g2, g3, g4, g5, g6, g7, g8, g9, g10⟩ := hS d q
    exact hb cap n pp pr q g1 g2 g3 g4 g5 g6 g7 (by rw [hcnt _ _ (by decide)]; exact g8) (by rw [hcnt _ _ (by decide)]; exact g9) g10
  · exact (hS d q).kp (fun k u v w => h2 k d q e u v w) (fun k u => h3 d k q e u) (hcnt _ _ (by decide)) (hcnt _ _ (by decide))
theorem Ins.fin {i N : Nat} {x y x' y' : Mem} (hR : Rel i x y) (h : Ins 0 N x y (V y 117) x' y') (hN : N ≤ SAT * (i + 1)) (h117 : ∀ s, y' 117 0 0 s = y 117 0 0 s) (hI : Inv (V y')) : Rel (i + 1) x' y' := by
  have e : V y' 117 = V y 117 := funext h117
  refine Ins.rel hR (Nat.le_succ _) ?_ hI
  rw [e]
  exact h.mono hN
theorem satS {i : Nat} : SAT * (i + 1) = SAT * i + 9000 := by rw [Nat.mul_add]; rfl
theorem sim_setReach : Sim_setReach Rel := by
  intro i x y p0 p1 hi hR
  by_cases h1 : p0 < 0 ∨ (2 : Int32) < p0
  · refine ⟨1, 0, x, 0, up4 y 40 0 0 0 1, ?_, ?_, by decide, up4_eq, (fun h => absurd h (by decide)), (hR.th 1).up⟩
    · simp only [m_X11_setReach, m_X11_needArm, iw_out h1, e_bd, e_bx1, if_true]
    · simp only [m_X12_setReach, m_X12_isArm, ib_out h1, e_bd, e_gb0, if_true, m_X12_fails, e_lt, e_bd2]
  have i1 := iw_in h1
  have i2 := ib_in h1
  obtain ⟨a, ha, rfl⟩ := ex_n (n := 2) (fun q => h1 (Or.inl q)) (fun q => h1 (Or.inr q)) (by decide)
  have ha3 : a < 3 := by omega
  by_cases h2 : p1 < 0 ∨ (255 : Int32) < p1
  · refine ⟨2, 0, x, 0, up4 y 40 0 0 0 2, ?_, ?_, by decide, up4_eq, (fun h => absurd h (by decide)), (hR.th 2).up⟩
    · simp only [m_X11_setReach, m_X11_needArm, m_X11_need, i1, iw_out h2, e_bd, e_bx0, e_bx1, if_true, if_neg no1]
    · simp only [m_X12_setReach, m_X12_isArm, i2, ib_out h2, e_bd, e_gb1, if_true, m_X12_fails, e_lt, e_bd2, if_neg no1]
  have i3 := iw_in h2
  have i4 := ib_in h2
  obtain ⟨x', y', e1, e2, g1, g2, g3, g4, g5, -⟩ := keep_sim (hR.th 0)
  have hins := g1.ins
  have hI : Inv (V y') := g1.2.1.2
  have er : x' 0 ((0 : Fin 10) : Nat) a 1 = y' 110 0 0 a := (g1.2.1.1.2.2.2.1 a ha3).1
  refine ⟨0, y' 110 0 0 a, up4 x' 0 0 a 1 p1, y' 110 0 0 a, up4 y' 110 0 0 a p1, ?_, ?_, by decide, ?_, fun _ => rfl, Ins.fin g1 (hins.arm (a := a) (v := p1) (f := 1) (K := 110) (by decide)) (by rw [satS]; omega) (fun s => up4_ne (by omega)) (hI.wy (by unfold RdK; omega))⟩
  · unfold m_X11_setReach m_X11_needArm m_X11_need
    rw [i1, e_bd, if_neg no1, e_bx0, i3, e_bd, if_neg no1, e_bx0, e1, e_bd, arm_at ha3, e_bd]
    simp only [f4 ha3]
    rw [e_lt, e_lt, er]
    rfl
  · unfold m_X12_setReach m_X12_isArm
    rw [i2, e_bd, e_gb1, e_bd, if_neg no1, i4, e_bd, if_neg no1, e_lt, e2, e_bd, gd_n ha3 (by decide), tn (show a < 2 ^ 31 by omega), e_lt, e_lt]
  · rw [up4_ne (by omega), g5, up4_eq]
    rfl
theorem sim_setCapacity : Sim_setCapacity Rel := by
  intro i x y p0 p1 hi hR
  by_cases h1 : p0 < 0 ∨ (2 : Int32) < p0
  · refine ⟨1, 0, x, 0, up4 y 40 0 0 0 1, ?_, ?_, by decide, up4_eq, (fun h => absurd h (by decide)), (hR.th 1).up⟩
    · simp only [m_X11_setCapacity, m_X11_needBuffer, iw_out h1, e_bd, e_bx1, if_true]
    · simp only [m_X12_setCapacity, m_X12_isBuffer, ib_out h1, e_bd, e_gb0, if_true, m_X12_fails, e_lt, e_bd2]
  have i1 := iw_in h1
  have i2 := ib_in h1
  obtain ⟨b, hb, rfl⟩ := ex_n (n := 2) (fun q => h1 (Or.inl q)) (fun q => h1 (Or.inr q)) (by decide)
  have hb3 : b < 3 := by omega
  by_cases h2 : p1 < 1 ∨ (4 : Int32) < p1
  · refine ⟨2, 0, x, 0, up4 y 40 0 0 0 2, ?_, ?_, by decide, up4_eq, (fun h => absurd h (by decide)), (hR.th 2).up⟩
    · simp only [m_X11_setCapacity, m_X11_needBuffer, i1, iw_out h2, e_bd, e_bx0, if_true, if_neg no1]
    · simp only [m_X12_setCapacity, m_X12_isBuffer, i2, ib_out h2, e_bd, e_gb1, if_true, m_X12_fails, e_lt, e_bd2, if_neg no1]
  have i3 := iw_in h2
  have i4 := ib_in h2
  obtain ⟨cp, hcp, rfl⟩ := ex_n (v := p1) (n := 4) (fun q => h2 (Or.inl (Int32.lt_trans q (by decide)))) (fun q => h2 (Or.inr q)) (by decide)
  obtain ⟨s1', s2, s3, -⟩ := hR.2.1.1.2.2.2.2.1 b hb3
  have t1 : x 9 ((0 : Fin 10) : Nat) b 1 + x 9 ((0 : Fin 10) : Nat) b 2 = y 104 0 0 b + y 106 0 0 b := by
    rw [show x 9 ((0 : Fin 10) : Nat) b 1 = y 104 0 0 b from s2, show x 9 ((0 : Fin 10) : Nat) b 2 = y 106 0 0 b from s3]
  by_cases h3 : y 104 0 0 b + y 106 0 0 b ≤ Int32.ofNat cp
  · obtain ⟨x', y', e1, e2, g1, g2, g3, g4, g5, -⟩ := keep_sim (hR.th 0)
    have hins := g1.ins
    have hI : Inv (V y') := g1.2.1.2
    have er : x' 9 ((0 : Fin 10) : Nat) b 0 = y' 103 0 0 b := (g1.2.1.1.2.2.2.2.1 b hb3).1
    have hle : V y' 104 b + V y' 106 b ≤ Int32.ofNat cp := by
      rw [← g2 104 b (mn3 (by decide) hb3), ← g2 106 b (mn3 (by decide) hb3)]
      exact h3
    refine ⟨0, y' 103 0 0 b, up4 x' 9 0 b 0 (Int32.ofNat cp), y' 103 0 0 b, up4 y' 103 0 0 b (Int32.ofNat cp), ?_, ?_, by decide, ?_, fun _ => rfl, Ins.fin g1 (hins.sto (b := b) (f := 0) (K := 103) (by decide)) (by rw [satS]; omega) (fun s => up4_ne (by omega)) ?_⟩
    · unfold m_X11_setCapacity m_X11_needBuffer m_X9_takenPlaces
      rw [i1, e_bd, if_neg no1, e_bx0, i3, e_bd, if_neg no1, sto_at hb3, e_bd, e_bd]
      simp only [f4 hb3]
      rw [t1, if_pos h3, e1, e_bd, e_lt, e_lt, er]
      rfl
    · unfold m_X12_setCapacity m_X12_isBuffer
      rw [i2, e_bd, e_gb1, e_bd, if_neg no1, i4, e_bd, if_neg no1, gd_n hb3 (by decide), tn (show b < 2 ^ 31 by omega), if_pos h3, e_lt, e2, e_bd, e_lt, e_lt]
    · rw [up4_ne (by omega), g5, up4_eq]
      rfl
    · rw [V_up]
      refine hI.of_sto (b := b) (fun k s q => Or.inl (S4_ne (by omega))) (fun k d _ _ _ _ _ => S4_ne (by omega)) (fun d k _ _ _ => S4_ne (by omega)) (fun cap n pp pr _ w1 w2 w3 w4 w5 w6 w7 w8 w9 w10 => ⟨cp, n, pp, pr, S4_eq, (S4_ne (by omega)).trans w2, (S4_ne (by omega)).trans w3, (S4_ne (by omega)).trans w4, hcp, ?_, w7, w8, w9, fun k hk => by rw [S4_ne (by omega)]; exact w10 k hk⟩)
      rw [w2, w3, ← Int32.ofNat_add, le_n (by omega) (by omega)] at hle
      exact hle
  · refine ⟨3, 0, x, 0, up4 y 40 0 0 0 3, ?_, ?_, by decide, up4_eq, (fun h => absurd h (by decide)), (hR.th 3).up⟩
    · unfold m_X11_setCapacity m_X11_needBuffer m_X9_takenPlaces
      rw [i1, e_bd, if_neg no1, e_bx0, i3, e_bd, if_neg no1, sto_at hb3, e_bd, e_bd]
      simp only [f4 hb3]
      rw [t1, if_neg h3]
    · unfold m_X12_setCapacity m_X12_isBuffer
      rw [i2, e_bd, e_gb1, e_bd, if_neg no1, i4, e_bd, if_neg no1, gd_n hb3 (by decide), tn (show b < 2 ^ 31 by omega), if_neg h3]
      rfl
theorem Inv.sto4 {A : St} (hI : Inv A) : ∀ d, d < 3 → (A 104 d).toNatClampNeg ≤ 4 := fun d hd => by
  obtain ⟨J, -, -, -, -, hS, -⟩ := hI
  obtain ⟨cap, n, pp, pr, g1, g2, g3, g4, g5, g6, -⟩ := hS d hd
  rw [g2, tn (by omega)]
  omega
theorem Inv.row30 {A : St} (hI : Inv A) : ∀ b, b < 3 → (A 111 b).toNatClampNeg ≤ 30 := fun b hb => by
  obtain ⟨J, hJ, -, -, hA, -⟩ := hI
  obtain ⟨-, r, g1, g2, -⟩ := hA b hb
  rw [g1, tn (by omega)]
  omega
theorem sim_supply : Sim_supply Rel := by
  intro i x y p0 hi hR
  by_cases h1 : p0 < 0 ∨ (2 : Int32) < p0
  · refine ⟨1, 0, x, 0, up4 y 40 0 0 0 1, ?_, ?_, by decide, up4_eq, (fun h => absurd h (by decide)), (hR.th 1).up⟩
    · simp only [m_X11_supply, m_X11_needBuffer, iw_out h1, e_bd, e_bx1, if_true]
    · simp only [m_X12_supply, m_X12_isBuffer, ib_out h1, e_bd, e_gb0, if_true, m_X12_fails, e_lt, e_bd2]
  have i1 := iw_in h1
  have i2 := ib_in h1
  obtain ⟨b, hb, rfl⟩ := ex_n (n := 2) (fun q => h1 (Or.inl q)) (fun q => h1 (Or.inr q)) (by decide)
  have hb3 : b < 3 := by omega
  obtain ⟨s1', s2, s3, -⟩ := hR.2.1.1.2.2.2.2.1 b hb3
  have t0 : x 9 ((0 : Fin 10) : Nat) b 0 = y 103 0 0 b := s1'
  have t1 : x 9 ((0 : Fin 10) : Nat) b 1 + x 9 ((0 : Fin 10) : Nat) b 2 = y 104 0 0 b + y 106 0 0 b := by
    rw [show x 9 ((0 : Fin 10) : Nat) b 1 = y 104 0 0 b from s2, show x 9 ((0 : Fin 10) : Nat) b 2 = y 106 0 0 b from s3]
  by_cases h3 : y 104 0 0 b + y 106 0 0 b < y 103 0 0 b
  · obtain ⟨x', y', e1, e2, g1, g2, g3, g4, g5, -⟩ := keep_sim (hR.th 0)
    have hins := g1.ins
    have hI : Inv (V y') := g1.2.1.2
    have hlt : V y' 104 b + V y' 106 b < V y' 103 b := by
      rw [← g2 104 b (mn3 (by decide) hb3), ← g2 106 b (mn3 (by decide) hb3), ← g2 103 b (mn3 (by decide) hb3)]
      exact h3
    obtain ⟨P, hP, eP⟩ := g1.2.1.1.2.2.1.1
    have hs := satb hi
    have eP' : y' 40 0 0 35 = Int32.ofNat P := eP
    have ex4 : x' 2 ((0 : Fin 10) : Nat) 0 4 = y' 40 0 0 35 := g1.2.1.1.1.2.2.2.2.1
    have hst : StoreOk (V y') b := by
      obtain ⟨J, -, -, -, -, hS, -⟩ := id hI
      exact hS b hb3
    obtain ⟨cap, n, pp, pr, w1, w2, w3, w4, w5, w6, w7, w8, w9, w10⟩ := hst
    rw [w1, w2, w3, ← Int32.ofNat_add, lt_n (by omega) (by omega)] at hlt
    have e104 : up4 y' 40 0 0 35 (y' 40 0 0 35 + 1) 104 0 0 b = Int32.ofNat n := by rw [up4_ne (by omega)]; exact w2
    obtain ⟨x2, e3, hp, -⟩ := (hins.np).put (c := 0) hb3 (show n < 4 by omega) e104 (fun d hd => by rw [up4_ne (by omega)]; exact hI.sto4 d hd) (y' 40 0 0 35)
    rw [up4_ne (k' := 108) (by omega), up4_comm (k := 40) (k1 := 105) (by omega), up4_comm (k := 40) (k1 := 104) (by omega), up4_comm (k := 40) (k1 := 108) (by omega)] at hp
    refine ⟨0, Int32.ofNat P, x2, Int32.ofNat P, _, ?_, ?_, by decide, ?_, fun _ => rfl, Ins.fin g1 hp (by rw [satS]; omega) (fun s => by rw [up4_ne (by omega), up4_ne (by omega), up4_ne (by omega), up4_ne (by omega)]) ?_⟩
    · unfold m_X11_supply m_X11_needBuffer m_X9_hasRoom m_X1_makePart
      rw [i1, e_bd, if_neg no1, e_bx0, sto_at hb3, e_bd]
      simp only [f4 hb3]
      rw [t0, t1, if_neg (Int32.not_le.mpr h3), e_bd, if_neg no1, e1, e_bd, e_lt, e_lt, e_bd2, e_lt, ex4]
      rw [show m_X9_putLast (0, Fin.ofNat 4 b) (y' 40 0 0 35) (up4 x' 2 ((0 : Fin 10) : Nat) 0 4 (y' 40 0 0 35 + 1)) = some x2 from e3, e_bd, eP']
    · unfold m_X12_supply m_X12_isBuffer
      rw [i2, e_bd, e_gb1, e_bd, if_neg no1, gd_n hb3 (by decide), tn (show b < 2 ^ 31 by omega), if_pos h3, e_lt, e2, e_bd, put_y hb3 (show y' 104 0 0 b = Int32.ofNat n from w2) (by omega), e_bd, e_lt, up4_eq, Int32.add_sub_cancel, up4_ne (k' := 40) (by omega), up4_ne (k' := 40) (by omega), up4_ne (k' := 40) (by omega), eP']
    · rw [up4_ne (by omega), up4_ne (by omega), up4_ne (by omega), up4_ne (by omega), g5, up4_eq]
      rfl
    · rw [V_up]
      refine Inv.wr ?_ (by unfold RdK; omega)
      rw [V_up]
      refine Inv.wr ?_ (by unfold RdK; omega)
      rw [V_up, V_up]
      refine hI.of_sto (b := b) (fun k s q => Or.inl (by rw [S4_ne (by omega), S4_ne (by omega)])) (fun k d _ _ _ _ _ => by rw [S4_ne (by omega), S4_ne (by omega)]) (fun d k _ _ _ => by rw [S4_ne (by omega), S4_ne (by omega)]) (fun cap' n' pp' pr' _ v1 v2 v3 v4 v5 v6 v7 v8 v9 v10 => ?_)
      have q1 : n' = n := (eq_n (by omega) (by omega)).mp (v2.symm.trans w2)
      have q2 : pp' = pp := (eq_n (by omega) (by omega)).mp (v3.symm.trans w3)
      have q3 : cap' = cap := (eq_n (by omega) (by omega)).mp (v1.symm.trans w1)
      subst q1 q2 q3
      refine ⟨cap', n' + 1, pp', pr', ?_, S4_eq, ?_, ?_, v5, by omega, by omega, v8, v9, fun k hk => ?_⟩
      · rw [S4_ne (by omega), S4_ne (by omega)]; exact v1
      · rw [S4_ne (by omega), S4_ne (by omega)]; exact v3
      · rw [S4_ne (by omega), S4_ne (by omega)]; exact v4
      · by_cases e : k = n'
        · subst e
          rw [S4_ne (by omega), S4_eq]
          exact ⟨P, by omega, eP'⟩
        · rw [S4_ne (by omega), S4_ne (by omega)]
          exact v10 k (by omega)
  · refine ⟨3, 0, x, 0, up4 y 40 0 0 0 2, ?_, ?_, by decide, up4_eq, (fun h => absurd h (by decide)), (hR.th 2).up⟩
    · unfold m_X11_supply m_X11_needBuffer m_X9_hasRoom
      rw [i1, e_bd, if_neg no1, e_bx0, sto_at hb3, e_bd]
      simp only [f4 hb3]
      rw [t0, t1, if_pos (Int32.not_lt.mp h3), e_bd, if_pos rfl]
    · unfold m_X12_supply m_X12_isBuffer
      rw [i2, e_bd, e_gb1, e_bd, if_neg no1, gd_n hb3 (by decide), tn (show b < 2 ^ 31 by omega), if_neg h3]
      rfl
