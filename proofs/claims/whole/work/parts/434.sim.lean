/-! AN ARM ACTS -/
theorem Ins.unp {c N a : Nat} {x0 y0 x y : Mem} {w : Nat → Int32} {v : Int32} (h : Ins c N x0 y0 (fun s => if s = a then v else w s) x y) (hw : ∀ s, y 117 0 0 s = w s) : Ins c N x0 y0 (V (up4 y 117 0 0 a v) 117) x (up4 y 117 0 0 a v) := by
  refine h.gen ?_ h.2.1 FX.rf (FY.up (by omega))
  rw [ov_self]
  have e : V (up4 y 117 0 0 a v) = ov (V y) (fun s => if s = a then v else w s) := by
    funext k s
    by_cases e1 : k = 117
    · subst e1
      by_cases e2 : s = a
      · subst e2
        unfold ov
        rw [if_pos rfl]
        show up4 y 117 0 0 s v 117 0 0 s = if s = s then v else w s
        rw [up4_eq, if_pos rfl]
      · unfold ov
        rw [if_pos rfl]
        show up4 y 117 0 0 a v 117 0 0 s = if s = a then v else w s
        rw [up4_ne (by omega), if_neg e2]
        exact hw s
    · rw [ov_ne e1]
      exact up4_ne (by omega)
  rw [e]
  exact h.1
/-- what an arm's act leaves -/
def AD (c N a : Nat) (x0 y0 x y x' y13 : Mem) : Prop := Ins c N x0 y0 (V (up4 y13 117 0 0 a (if y13 40 0 0 46 = 0 then 0 else y13 117 0 0 a + 1)) 117) x' (up4 y13 117 0 0 a (if y13 40 0 0 46 = 0 then 0 else y13 117 0 0 a + 1)) ∧ Inv (V (up4 y13 117 0 0 a (if y13 40 0 0 46 = 0 then 0 else y13 117 0 0 a + 1))) ∧ (∀ s, x' 18 0 0 s = x 18 0 0 s) ∧ ∀ s, y13 147 0 0 s = y 147 0 0 s
theorem AD.ok {c N a : Nat} {x0 y0 x y x' y13 : Mem} (h : Ins c N x0 y0 (fun s => if s = a then 0 else y 117 0 0 s) x' y13) (hI : Inv (V y13)) (hx : ∀ s, x' 18 0 0 s = x 18 0 0 s) (h117 : ∀ s, y13 117 0 0 s = y 117 0 0 s) (h147 : ∀ s, y13 147 0 0 s = y 147 0 0 s) (h46 : y13 40 0 0 46 = 0) : AD c N a x0 y0 x y x' y13 := by
  unfold AD
  rw [if_pos h46]
  exact ⟨h.unp h117, hI.wy (by unfold RdK; omega), hx, h147⟩
theorem AD.no {c N a : Nat} {x0 y0 x y x' y13 : Mem} (h : Ins c N x0 y0 (fun s => if s = a then y 117 0 0 a + 1 else y 117 0 0 s) x' y13) (hI : Inv (V y13)) (hx : ∀ s, x' 18 0 0 s = x 18 0 0 s) (h117 : ∀ s, y13 117 0 0 s = y 117 0 0 s) (h147 : ∀ s, y13 147 0 0 s = y 147 0 0 s) (h46 : y13 40 0 0 46 = 1) : AD c N a x0 y0 x y x' y13 := by
  unfold AD
  rw [if_neg (by rw [h46]; decide), h117]
  exact ⟨h.unp h117, hI.wy (by unfold RdK; omega), hx, h147⟩
/-- the refusal, the arm's state apart -/
theorem rf_ins {c N a : Nat} {x0 y0 x y : Mem} {w : Nat → Int32} {r d v : Int32} (h : Ins c N x0 y0 (fun s => if s = a then 0 else w s) x y) (ha : a < 3) : Ins c N x0 y0 (fun s => if s = a then v else w s) (up4 (up4 (up4 (up4 x 0 c a 8 r) 0 c a 9 d) 0 c a 7 v) 0 c a 10 (x 0 c a 10 + 1)) (up4 (up4 (up4 (up4 y 118 0 0 a r) 119 0 0 a d) 120 0 0 a (y 120 0 0 a + 1)) 40 0 0 46 1) := by
  have e10 : x 0 c a 10 = y 120 0 0 a := (h.1.2.2.2.1 a ha).2.2.2.2.2.2.2.2.2.1.trans (ov_ne (by decide))
  rw [e10]
  have h1 := (((h.arm (a := a) (f := 8) (K := 118) (v := r) (by omega)).arm (a := a) (f := 9) (K := 119) (v := d) (by omega)).pat (a := a) (v := v)).arm (a := a) (f := 10) (K := 120) (v := y 120 0 0 a + 1) (by omega)
  have e : (fun s => if s = a then v else (fun s => if s = a then (0 : Int32) else w s) s) = (fun s => if s = a then v else w s) := by
    funext s
    by_cases q : s = a
    · simp [q]
    · simp [q]
  rw [e] at h1
  exact h1.y (fun k b i s q => up4_ne (by omega))
theorem act_sim {c : Fin 10} {N : Nat} {x0 y0 x y : Mem} (h : Ins c N x0 y0 (V y 117) x y) (hI : Inv (V y)) {a : Nat} (ha : a < 3) (hN : N < 2 ^ 28) : ∃ x' y13, m_X8_act c (c, Fin.ofNat 4 a) x = some x' ∧ m_X12_acts (Int32.ofNat a) (up4 y 40 0 0 46 0) = some y13 ∧ AD c (N + 2) a x0 y0 x y x' y13 := by
  -- the class's patience set to 0, the reference's mark taken away
  have hB : Ins c N x0 y0 (fun s => if s = a then 0 else y 117 0 0 s) (up4 x 0 c a 7 0) (up4 y 40 0 0 46 0) := (h.y (fun k b i s q => up4_ne (by omega))).pat
  have xpat : x 0 c a 7 = y 117 0 0 a := (h.1.2.2.2.1 a ha).2.2.2.2.2.2.1
  have oB : ∀ k d i s, ¬ (k = 40 ∧ s = 46) → up4 y 40 0 0 46 0 k d i s = y k d i s := fun k d i s q => up4_ne (by omega)
  have e46 : up4 y 40 0 0 46 0 40 0 0 46 = 0 := up4_eq
  generalize hyA : up4 y 40 0 0 46 0 = yA at hB oB e46 ⊢
  have oX2 : ∀ k d i s, ¬ (k = 0 ∧ s = 7) → up4 x 0 c a 7 0 k d i s = x k d i s := fun k d i s q => up4_ne (by omega)
  have hIA : Inv (V yA) := hI.oth (fun k s q => oB _ _ _ _ (fun w => by
    obtain ⟨rfl, rfl⟩ := w
    have := mn_40 q
    omega))
  obtain ⟨J, hJ30, eJ, hj, hAr, hS, hZ, hD⟩ := id hIA
  obtain ⟨-, g2, g3, g4, g5, -⟩ := hB.1.2.2.2.1 a ha
  replace g2 : up4 x 0 c a 7 0 0 c a 2 = V yA 114 a := g2.trans (ov_ne (by decide))
  replace g5 : up4 x 0 c a 7 0 0 c a 5 = V yA 116 a := g5.trans (ov_ne (by decide))
  unfold m_X8_act m_X12_acts m_X8_act_j113
  simp only [f4 ha]
  rw [e_lt, e_lt, xpat, g5, gd_n ha (by decide), tn (show a < 2 ^ 31 by omega)]
  generalize hx2 : up4 x 0 c a 7 0 = x2 at hB oX2 g2 g3 g4 g5 ⊢
  have e0 : yA 114 0 0 a = V yA 114 a := rfl
  -- the time to go set to 0
  have hQ : Ins c N x0 y0 (fun s => if s = a then 0 else y 117 0 0 s) (up4 x2 0 c a 5 0) (up4 yA 116 0 0 a 0) := hB.arm (by omega)
  have oQ : ∀ k d i s, ¬ (k = 116 ∧ s = a) → up4 yA 116 0 0 a 0 k d i s = yA k d i s := fun k d i s q => up4_ne (by omega)
  have oX4 : ∀ k d i s, ¬ (k = 0 ∧ s = 5) → up4 x2 0 c a 5 0 k d i s = x2 k d i s := fun k d i s q => up4_ne (by omega)
  have hself : yA 116 0 0 a = 0 → up4 yA 116 0 0 a 0 = yA := fun e => by
    have := up4_self (y := yA) (k := 116) (c := 0) (i := 0) (s := a)
    rw [e] at this
    exact this
  generalize hy8 : up4 yA 116 0 0 a 0 = y8 at hQ oQ hself
  have e116 : y8 116 0 0 a = 0 := by rw [← hy8, up4_eq]
  generalize hx4 : up4 x2 0 c a 5 0 = x4 at hQ oX4
  have hW8 : InvW (V y8) := hIA.w.cg (fun k s _ _ q => (oQ _ _ _ _ (by omega)).symm)
  have hA8 : ∀ k s, RdK k s → ¬ (k = 116 ∧ s = a) → V y8 k s = V yA k s := fun k s _ q => oQ _ _ _ _ q
  have x42 : x4 0 c a 2 = V yA 114 a := (oX4 _ _ _ _ (by omega)).trans g2
  have f18 : ∀ s, x4 18 0 0 s = x 18 0 0 s := fun s => (oX4 _ _ _ _ (by omega)).trans (oX2 _ _ _ _ (by omega))
  have f117 : ∀ s, y8 117 0 0 s = y 117 0 0 s := fun s => (oQ _ _ _ _ (by omega)).trans (oB _ _ _ _ (by omega))
  have f147 : ∀ s, y8 147 0 0 s = y 147 0 0 s := fun s => (oQ _ _ _ _ (by omega)).trans (oB _ _ _ _ (by omega))
  have f46 : y8 40 0 0 46 = 0 := (oQ _ _ _ _ (by omega)).trans e46
  have okf : ∀ {x' y13 : Mem} {K : Nat}, K ≤ N + 2 → Ins c K x0 y0 (fun s => if s = a then 0 else y 117 0 0 s) x' y13 → Inv (V y13) → (∀ s, x' 18 0 0 s = x4 18 0 0 s) → (∀ s, y13 117 0 0 s = y8 117 0 0 s) → (∀ s, y13 147 0 0 s = y8 147 0 0 s) → y13 40 0 0 46 = 0 → AD c (N + 2) a x0 y0 x y x' y13 := fun hK u1 u2 u3 u4 u5 u6 => AD.ok (u1.mono hK) u2 (fun s => (u3 s).trans (f18 s)) (fun s => (u4 s).trans (f117 s)) (fun s => (u5 s).trans (f147 s)) u6
  -- the request for the next zone
  have rn : ∀ j q : Nat, (V yA 114 a = 1 ∨ V yA 114 a = 3) → m_X1_hasRequest c (c, Fin.ofNat 4 a) x4 = some 1 → j < 30 → j < (V y8 40 34).toNatClampNeg → q < (V y8 124 j).toNatClampNeg → m_X0_requestedJob (c, Fin.ofNat 4 a) x4 = some (Int32.ofNat j) → m_X0_requestedPlace (c, Fin.ofNat 4 a) x4 = some (Int32.ofNat q) → V y8 113 a = Int32.ofNat j → q = lh (V y8) a + 1 → ∃ x' y13, (bd2_ (m_X6_findReason c (c, Fin.ofNat 4 a) x4) fun r14 x15 => lt_ r14 fun x4_16 => if x4_16 = 0 then (if (x15 0 c a 2) = 0 then (bd_ (m_X1_startJob c (c, Fin.ofNat 4 a) x15) fun x24 => some x24) else (bd_ (m_X1_startMove c (c, Fin.ofNat 4 a) x15) fun x21 => some x21)) else (bd_ (m_X0_refuse (c, Fin.ofNat 4 a) x4_16 (x15 19 0 0 0) (y 117 0 0 a + (1 : Int32)) x15) fun x27 => some x27)) = some x' ∧ m_X12_requestsNext (Int32.ofNat a) y8 = some y13 ∧ AD c (N + 2) a x0 y0 x y x' y13 := by
    intro j q hst hreq h30 hJ hq r1 r2 a113 hql
    have hn0 : V y8 114 a ≠ 0 := by
      rw [show V y8 114 a = V yA 114 a from oQ _ _ _ _ (by omega)]
      rcases hst with w | w <;> rw [w] <;> decide
    have h114 : V y8 114 a = 1 ∨ V y8 114 a = 3 := by
      rw [show V y8 114 a = V yA 114 a from oQ _ _ _ _ (by omega)]
      exact hst
    obtain ⟨j', q', pa, n, h30', -, b113, b115, -, b124, hp, hq0, -⟩ := hW8.act ha hn0
    have hn5 := hp.2.1
    have hlh : lh (V y8) a = q' := by
      unfold lh apos
      rw [if_neg (by rcases h114 with w | w <;> rw [w] <;> decide), b115, tn (by omega)]
    rw [hlh] at hql
    obtain ⟨r, xs, ys, u1, u2, u3, u4, u5, u6⟩ := rq_all (st := 0) hQ hW8 ha h30 hJ hq r1 r2 (Or.inr ⟨hn0, rfl⟩)
    have hins := u3.ins hQ
    have oS : ∀ k s, mn k s → V ys k s = V y8 k s := fun k s w => u3.2 _ _ _ _ (by have := mn_K w; omega) (fun w2 => by
      obtain ⟨rfl, w2⟩ := w2
      have := mn_40 w
      omega)
    have oS' : ∀ k d i s, k ≠ 40 → ¬ (141 ≤ k ∧ k ≤ 143) → ys k d i s = y8 k d i s := fun k d i s w1 w2 => u3.2 _ _ _ _ w2 (by omega)
    have hWs : InvW (V ys) := hW8.oth oS
    have hAs : ∀ k s, RdK k s → ¬ (k = 116 ∧ s = a) → V ys k s = V yA k s := fun k s w1 w2 => by
      refine Eq.trans (u3.2 _ _ _ _ (by unfold RdK at w1; omega) (by unfold RdK at w1; omega)) ?_
      exact oQ _ _ _ _ w2
    have xs2 : xs 0 c a 2 = V yA 114 a := (u3.1 _ _ _ _ (by omega)).trans x42
    have xs18 : ∀ s, xs 18 0 0 s = x4 18 0 0 s := fun s => u3.1 _ _ _ _ (by omega)
    have ys46 : ys 40 0 0 46 = 0 := (u3.2 _ _ _ _ (by omega) (by omega)).trans f46
    have y5115 : ys 115 0 0 a = Int32.ofNat q' := (oS' _ _ _ _ (by omega) (by omega)).trans b115
    rw [u1, e_bd2, e_lt]
    have eref : m_X12_requestsNext (Int32.ofNat a) y8 = bd2_ (if r = 0 then (some ((1 : Int32), ys)) else (gd_ (Int32.ofNat a) 3 (lt_ (up4 ys 118 0 0 a (ys 40 0 0 44)) fun y6 => lt_ (up4 y6 119 0 0 a (y6 40 0 0 45)) fun y7 => lt_ (up4 y7 120 0 0 a ((y7 120 0 0 a) + (1 : Int32))) fun y8 => lt_ (up4 y8 40 0 0 46 (1 : Int32)) fun y9 => some ((0 : Int32), y9)))) fun r4 y5 => if r4 = 0 then (lt_ (up4 y5 114 0 0 a (3 : Int32)) fun y15 => lt_ (up4 y15 116 0 0 a (0 : Int32)) fun y16 => some y16) else (bd_ (m_X12_zoneAt (Int32.ofNat j) ((y5 115 0 0 a) + (1 : Int32)) y5) fun r8 => lt_ r8 fun x3_9 => lt_ (up4 y5 114 0 0 a (2 : Int32)) fun y10 => gd_ (Int32.ofNat j) 30 (bd_ (m_X12_isBeside (Int32.ofNat a) x3_9 y10) fun r13 => if r13 = 0 then (m_X12_requestsNext_j90 (Int32.ofNat a) x3_9 (0 : Int32) ((1 : Int32) + ((y10 126 0 0 (Int32.ofNat j).toNatClampNeg) / (4 : Int32))) (Int32.ofNat a) y10) else (m_X12_requestsNext_j90 (Int32.ofNat a) x3_9 (1 : Int32) ((1 : Int32) + ((y10 126 0 0 (Int32.ofNat j).toNatClampNeg) / (4 : Int32))) (Int32.ofNat a) y10))) := by
      unfold m_X12_requestsNext m_X12_isGranted
      rw [gd_n ha (by decide), e_lt, tn (show a < 2 ^ 31 by omega), show y8 113 0 0 a = Int32.ofNat j from a113, show y8 115 0 0 a = Int32.ofNat q' from b115, n1, ← hql, u2, e_bd2]
    rw [eref]
    by_cases hr : r = 0
    · rw [if_pos hr, if_neg (by rw [xs2]; rcases hst with w | w <;> rw [w] <;> decide), if_pos hr, e_bd2, if_neg no1, y5115]
      have hcon : ∀ b, b < 3 → b ≠ a → hold (V ys) b &&& con (V ys) (znA (V ys) j (q' + 1)) = 0 := fun b hb hba => by
        have w := (u6 hr).2 b hb hba
        rw [hql] at w
        have c1 : hold (V ys) b = hold (V y8) b := hold_kp (oS' _ _ _ _ (by omega) (by omega)) (oS' _ _ _ _ (by omega) (by omega)) (oS' _ _ _ _ (by omega) (by omega)) (oS' _ _ _ _ (by omega) (by omega)) (oS' _ _ _ _ (by omega) (by omega))
        have c2 : znA (V ys) j (q' + 1) = znA (V y8) j (q' + 1) := by
          unfold znA
          rw [show V ys 123 j = V y8 123 j from oS' _ _ _ _ (by omega) (by omega), show V ys 124 j = V y8 124 j from oS' _ _ _ _ (by omega) (by omega)]
        have c3 : ∀ z, con (V ys) z = con (V y8) z := fun z => by
          unfold con
          rw [show V ys 101 z = V y8 101 z from oS' _ _ _ _ (by omega) (by omega)]
        rw [c1, c2, c3]
        exact w
      obtain ⟨z, x', y', v1, v2, v3, v4, v5, v6, v7⟩ := mv_sim (A := V yA) hins hWs hIA hAs ha (j := j) (q := q') (by rw [show V ys 114 a = V y8 114 a from oS' _ _ _ _ (by omega) (by omega)]; exact h114) h30 (by rw [show V ys 40 34 = V y8 40 34 from oS _ _ (mnS (by decide) (by decide))]; exact hJ) ((oS' _ _ _ _ (by omega) (by omega)).trans a113) y5115 (by rw [show V ys 124 j = V y8 124 j from oS' _ _ _ _ (by omega) (by omega), ← hql]; exact hq) hcon (by omega)
      rw [v1, e_bd, e_lt, e_lt, v2, e_bd]
      refine ⟨x', y', rfl, v3, okf (by omega) v4 v5 (fun s => (v6 _ _ _ _ (by omega)).trans (xs18 s)) (fun s => (v7.1 s).trans (oS' _ _ _ _ (by omega) (by omega))) (fun s => (v7.2.1 s).trans (oS' _ _ _ _ (by omega) (by omega))) (v7.2.2.trans ys46)⟩
    · rw [if_neg hr, if_neg hr, gd_n ha (by decide), e_lt, e_lt, e_lt, e_lt, e_bd2, if_pos rfl, e_lt, e_lt, up4_ne (k' := 40) (by omega), up4_ne (k' := 120) (by omega), up4_ne (k' := 120) (by omega), u4, ← u5 hr]
      have hrf := rf_ins (v := y 117 0 0 a + 1) (r := r) (d := xs 19 0 0 0) (w := fun s => y 117 0 0 s) hins ha
      generalize hY9 : up4 (up4 (up4 (up4 ys 118 0 0 a r) 119 0 0 a (xs 19 0 0 0)) 120 0 0 a (ys 120 0 0 a + 1)) 40 0 0 46 1 = Y9 at hrf
      generalize hX9 : up4 (up4 (up4 (up4 xs 0 c a 8 r) 0 c a 9 (xs 19 0 0 0)) 0 c a 7 (y 117 0 0 a + 1)) 0 c a 10 (xs 0 c a 10 + 1) = X9 at hrf
      have oY9 : ∀ k d i s, ¬ (118 ≤ k ∧ k ≤ 120) → ¬ (k = 40 ∧ s = 46) → Y9 k d i s = ys k d i s := fun k d i s w1 w2 => by rw [← hY9, up4_ne (by omega), up4_ne (by omega), up4_ne (by omega), up4_ne (by omega)]
      have oX9 : ∀ k d i s, ¬ (k = 0 ∧ 7 ≤ s ∧ s ≤ 10) → X9 k d i s = xs k d i s := fun k d i s w1 => by rw [← hX9, up4_ne (by omega), up4_ne (by omega), up4_ne (by omega), up4_ne (by omega)]
      have eX9 : m_X0_refuse (c, Fin.ofNat 4 a) r (xs 19 0 0 0) (y 117 0 0 a + 1) xs = some (if V yA 114 a = 1 then up4 X9 0 c a 2 3 else X9) := by
        unfold m_X0_refuse
        simp only [f4 ha]
        rw [e_lt, e_lt, e_lt, e_lt, up4_ne (k' := 0) (s' := 10) (by omega), up4_ne (k' := 0) (s' := 10) (by omega), up4_ne (k' := 0) (s' := 10) (by omega), hX9, show X9 0 c a 2 = V yA 114 a from (oX9 _ _ _ _ (by omega)).trans xs2]
        by_cases w : V yA 114 a = 1
        · rw [if_pos w, if_pos w, e_lt]
        · rw [if_neg w, if_neg w]
      rw [eX9, e_bd]
      have f114' : up4 (up4 Y9 114 0 0 a 3) 116 0 0 a 0 114 0 0 a = 3 := by rw [up4_ne (by omega), up4_eq]
      have oF : ∀ k d i s, ¬ ((k = 114 ∨ k = 116) ∧ s = a) → up4 (up4 Y9 114 0 0 a 3) 116 0 0 a 0 k d i s = Y9 k d i s := fun k d i s w => by rw [up4_ne (by omega), up4_ne (by omega)]
      have f113' : up4 (up4 Y9 114 0 0 a 3) 116 0 0 a 0 113 0 0 a = Int32.ofNat j := (oF _ _ _ _ (by omega)).trans ((oY9 _ _ _ _ (by omega) (by omega)).trans ((oS' _ _ _ _ (by omega) (by omega)).trans a113))
      have f115' : up4 (up4 Y9 114 0 0 a 3) 116 0 0 a 0 115 0 0 a = Int32.ofNat q' := (oF _ _ _ _ (by omega)).trans ((oY9 _ _ _ _ (by omega) (by omega)).trans y5115)
      have hjj : j' = j := (eq_n (by omega) (by omega)).mp (b113.symm.trans a113)
      have hh9 : hold (V (up4 (up4 Y9 114 0 0 a 3) 116 0 0 a 0)) a = hold (V ys) a := by
        have z0' : V ys 114 a = 1 ∨ V ys 114 a = 3 := by
          rw [show V ys 114 a = V y8 114 a from oS' _ _ _ _ (by omega) (by omega)]
          exact h114
        have a1 : ajob (V (up4 (up4 Y9 114 0 0 a 3) 116 0 0 a 0)) a = ajob (V ys) a := by
          unfold ajob
          rw [show V (up4 (up4 Y9 114 0 0 a 3) 116 0 0 a 0) 113 a = V ys 113 a from (oF _ _ _ _ (by omega)).trans (oY9 _ _ _ _ (by omega) (by omega))]
        have a2 : apos (V (up4 (up4 Y9 114 0 0 a 3) 116 0 0 a 0)) a = apos (V ys) a := by
          unfold apos
          rw [show V (up4 (up4 Y9 114 0 0 a 3) 116 0 0 a 0) 115 a = V ys 115 a from (oF _ _ _ _ (by omega)).trans (oY9 _ _ _ _ (by omega) (by omega))]
        have a3 : ∀ i k, znA (V (up4 (up4 Y9 114 0 0 a 3) 116 0 0 a 0)) i k = znA (V ys) i k := fun i k => by
          unfold znA
          rw [show V (up4 (up4 Y9 114 0 0 a 3) 116 0 0 a 0) 123 i = V ys 123 i from (oF _ _ _ _ (by omega)).trans (oY9 _ _ _ _ (by omega) (by omega)), show V (up4 (up4 Y9 114 0 0 a 3) 116 0 0 a 0) 124 i = V ys 124 i from (oF _ _ _ _ (by omega)).trans (oY9 _ _ _ _ (by omega) (by omega))]
        unfold hold
        rw [if_neg (by rw [show V (up4 (up4 Y9 114 0 0 a 3) 116 0 0 a 0) 114 a = 3 from f114']; decide), if_neg (by rw [show V (up4 (up4 Y9 114 0 0 a 3) 116 0 0 a 0) 114 a = 3 from f114']; decide), if_neg (by rcases z0' with w | w <;> rw [w] <;> decide), if_neg (by rcases z0' with w | w <;> rw [w] <;> decide), a1, a2, a3]
      have xs3 : xs 0 c a 3 = Int32.ofNat j := (hins.1.2.2.2.1 a ha).2.2.1.trans ((ov_ne (by decide)).trans ((oS' _ _ _ _ (by omega) (by omega)).trans a113))
      have xs4 : xs 0 c a 4 = Int32.ofNat q' := (hins.1.2.2.2.1 a ha).2.2.2.1.trans ((ov_ne (by decide)).trans y5115)
      have xs5 : xs 0 c a 5 = 0 := (hins.1.2.2.2.1 a ha).2.2.2.2.1.trans ((ov_ne (by decide)).trans ((oS' _ _ _ _ (by omega) (by omega)).trans e116))
      have xs6 : xs 0 c a 6 = hold (V ys) a := (hins.1.2.2.2.1 a ha).2.2.2.2.2.1.trans hold_ov
      have oif : ∀ k d i s, ¬ (k = 0 ∧ s = 2) → (if V yA 114 a = 1 then up4 X9 0 c a 2 3 else X9) k d i s = X9 k d i s := fun k d i s w => by
        by_cases w2 : V yA 114 a = 1
        · rw [if_pos w2, up4_ne (by omega)]
        · rw [if_neg w2]
      have oif2 : ∀ k d i s, ¬ (k = 0 ∧ d = (c : Nat) ∧ i = a ∧ s = 2) → (if V yA 114 a = 1 then up4 X9 0 c a 2 3 else X9) k d i s = X9 k d i s := fun k d i s w => by
        by_cases w2 : V yA 114 a = 1
        · rw [if_pos w2, up4_ne (by omega)]
        · rw [if_neg w2]
      have eif : (if V yA 114 a = 1 then up4 X9 0 c a 2 3 else X9) 0 c a 2 = 3 := by
        by_cases w2 : V yA 114 a = 1
        · rw [if_pos w2, up4_eq]
        · rw [if_neg w2, oX9 _ _ _ _ (by omega), xs2]
          exact hst.resolve_left w2
      have hgrp := hrf.grp (a := a) (x' := if V yA 114 a = 1 then up4 X9 0 c a 2 3 else X9) (y' := up4 (up4 Y9 114 0 0 a 3) 116 0 0 a 0) (fun k d i s w => oif2 _ _ _ _ (by omega)) (fun k d i s w => oF _ _ _ _ (by omega)) (eif.trans f114'.symm) (by rw [oif _ _ _ _ (by omega), f113', oX9 _ _ _ _ (by omega)]; exact xs3) (by rw [oif _ _ _ _ (by omega), f115', oX9 _ _ _ _ (by omega)]; exact xs4) (by rw [oif _ _ _ _ (by omega), up4_eq, oX9 _ _ _ _ (by omega)]; exact xs5) (by rw [oif _ _ _ _ (by omega), hh9, oX9 _ _ _ _ (by omega)]; exact xs6)
      refine ⟨_, _, rfl, rfl, AD.no (hgrp.mono (by omega)) ?_ (fun s => ?_) (fun s => ?_) (fun s => ?_) ?_⟩
      · have A0 : V yA 114 a ≠ 0 := by rcases hst with w | w <;> rw [w] <;> decide
        have aa : ∀ k s, RdK k s → ¬ ((k = 114 ∨ k = 116) ∧ s = a) → V (up4 (up4 Y9 114 0 0 a 3) 116 0 0 a 0) k s = V yA k s := fun k s w1 w2 => by
          have w3 := w1
          unfold RdK at w3
          refine Eq.trans (oF _ _ _ _ w2) (Eq.trans (oY9 _ _ _ _ (by omega) (by omega)) ?_)
          exact hAs k s w1 (by omega)
        refine hIA.go ha A0 (by rw [show V (up4 (up4 Y9 114 0 0 a 3) 116 0 0 a 0) 114 a = 3 from f114']; decide) (aa _ _ (rdk (by decide)) (by omega)) (fun k s w1 w2 => aa k s w1 (by omega)) (fun J' hJ' eJ' => ?_) (fun b hb hba => ?_)
        · subst hjj
          refine ⟨j', q', n, ?_, f113', f115', (aa _ _ (rdk (by decide)) (by omega)).trans ((oQ _ _ _ _ (by omega)).symm.trans b124), hn5, hq0, Or.inr (Or.inr ⟨f114', ?_, up4_eq⟩)⟩
          · rw [show V y8 40 34 = V yA 40 34 from oQ _ _ _ _ (by omega), eJ', tn (by omega)] at hJ
            exact hJ
          · rw [b124, tn (by omega)] at hq
            omega
        · rw [hh9]
          obtain ⟨J2, -, -, -, -, -, -, hDs⟩ := hWs
          have e2 : hold (V yA) b = hold (V ys) b := (hold_kp (hAs _ _ (rdk (by decide)) (by omega)) (hAs _ _ (rdk (by decide)) (by omega)) (hAs _ _ (rdk (by decide)) (by omega)) (hAs _ _ (rdk (by decide)) (by omega)) (hAs _ _ (rdk (by decide)) (by omega)) : hold (V ys) b = hold (V yA) b).symm
          rw [e2]
          exact hDs b a hb ha hba
      · rw [oif _ _ _ _ (by omega), oX9 _ _ _ _ (by omega), xs18]
        exact f18 s
      · rw [oF _ _ _ _ (by omega), oY9 _ _ _ _ (by omega) (by omega), oS' _ _ _ _ (by omega) (by omega)]
        exact f117 s
      · rw [oF _ _ _ _ (by omega), oY9 _ _ _ _ (by omega) (by omega), oS' _ _ _ _ (by omega) (by omega)]
        exact f147 s
      · rw [oF _ _ _ _ (by omega), ← hY9, up4_eq]
  have hlh8 : ∀ q : Nat, q < 2 ^ 31 → (V yA 114 a = 1 ∨ V yA 114 a = 3) → V yA 115 a = Int32.ofNat q → lh (V y8) a = q := fun q hq hs e => by
    unfold lh apos
    rw [show V y8 114 a = V yA 114 a from oQ _ _ _ _ (by omega), show V y8 115 a = V yA 115 a from oQ _ _ _ _ (by omega), if_neg (by rcases hs with w | w <;> rw [w] <;> decide), e, tn hq]
  -- one tick less to go
  have dec : ∀ t : Nat, 1 < t → t ≤ 9 → V yA 116 a = Int32.ofNat t → (V yA 114 a = 1 ∨ V yA 114 a = 2) → AD c (N + 2) a x0 y0 x y (up4 x2 0 c a 5 (Int32.ofNat t - 1)) (up4 yA 116 0 0 a (Int32.ofNat t - 1)) := by
    intro t t1 t9 e hs
    obtain ⟨t', rfl⟩ : ∃ t', t = t' + 1 := ⟨t - 1, by omega⟩
    have oD : ∀ k s, ¬ (k = 116 ∧ s = a) → V (up4 yA 116 0 0 a (Int32.ofNat t')) k s = V yA k s := fun k s w => up4_ne (by omega)
    rw [s1]
    refine AD.ok ((hB.arm (a := a) (f := 5) (K := 116) (v := Int32.ofNat t') (by omega)).mono (by omega)) ?_ (fun s => (up4_ne (by omega)).trans (oX2 _ _ _ _ (by omega))) (fun s => (up4_ne (by omega)).trans (oB _ _ _ _ (by omega))) (fun s => (up4_ne (by omega)).trans (oB _ _ _ _ (by omega))) ((up4_ne (by omega)).trans e46)
    have A0 : V yA 114 a ≠ 0 := by rcases hs with w | w <;> rw [w] <;> decide
    refine hIA.go ha A0 (by rw [oD _ _ (by omega)]; exact A0) (oD _ _ (by omega)) (fun k s w1 w2 => oD _ _ (by omega)) (fun J' hJ' eJ' => ?_) (fun b hb hba => ?_)
    · rcases (hAr a ha).1 with ⟨i0, -⟩ | ⟨j, q, n, c1, c2, c3, c4, c5, c6, c7⟩
      · exact absurd i0 A0
      · have hJJ : J = J' := (eq_n (by omega) (by omega)).mp (eJ.symm.trans eJ')
        refine ⟨j, q, n, by omega, (oD _ _ (by omega)).trans c2, (oD _ _ (by omega)).trans c3, (oD _ _ (by omega)).trans c4, c5, c6, ?_⟩
        rcases c7 with ⟨w, -⟩ | ⟨w, w2, -⟩ | ⟨w, -⟩
        · exact Or.inl ⟨(oD _ _ (by omega)).trans w, t', by omega, by omega, up4_eq⟩
        · exact Or.inr (Or.inl ⟨(oD _ _ (by omega)).trans w, w2, t', by omega, by omega, up4_eq⟩)
        · exfalso
          rcases hs with w3 | w3 <;> rw [w] at w3 <;> exact absurd w3 (by decide)
    · rw [hold_kp (A := V yA) (oD _ _ (by omega)) (oD _ _ (by omega)) (oD _ _ (by omega)) (oD _ _ (by omega)) (oD _ _ (by omega))]
      exact hD b a hb ha hba
  have ei : ∀ v : Int32, V yA 114 a = v → yA 114 0 0 a = v := fun v w => w
  rcases (hAr a ha).1 with ⟨i0, i1, i2, i3⟩ | ⟨j, q, n, jJ, b113, b115, b124, hn5, hqn, hst⟩
  · -- an idle arm
    have e8 : y8 = yA := hself i3
    rw [i3, if_pos (show (0 : Int32) ≤ 1 by decide), e_lt, x42, i0, if_neg (show ¬ (0 : Int32) = 2 by decide), if_pos (ei 0 i0)]
    rcases req hQ hW8 ha with ⟨eH, hno⟩ | ⟨j, q, eH, h30, hJ, hq, r1, r2, hcase⟩
    · rw [eH, e_bd, if_pos rfl, if_pos rfl]
      have h111 : yA 111 0 0 a = 0 := by
        rcases hno with ⟨-, w⟩ | ⟨w, -⟩
        · rw [e8] at w
          exact w
        · rw [e8] at w
          exact absurd i0 w
      rw [h111, if_pos (show (0 : Int32) ≤ 0 by decide)]
      rw [e8] at hQ f117 f147
      exact ⟨x4, yA, rfl, rfl, AD.ok (hQ.mono (by omega)) hIA f18 f117 f147 e46⟩
    · rcases hcase with ⟨-, rfl, e112, r', hr', e111⟩ | ⟨w, -⟩
      · obtain ⟨r, xs, ys, u1, u2, u3, u4, u5, u6⟩ := rq_all (st := 1) hQ hW8 ha h30 hJ hq r1 r2 (Or.inl ⟨by rw [e8]; exact i0, rfl⟩)
        have u2' : m_X12_answers (Int32.ofNat a) (Int32.ofNat j) 0 1 y8 = some (r, ys) := u2
        have hins := u3.ins hQ
        have hI8 : Inv (V y8) := by rw [e8]; exact hIA
        have hIs : Inv (V ys) := u3.inv hI8
        have oS' : ∀ k d i s, k ≠ 40 → ¬ (141 ≤ k ∧ k ≤ 143) → ys k d i s = y8 k d i s := fun k d i s w1 w2 => u3.2 _ _ _ _ w2 (by omega)
        have s114 : V ys 114 a = 0 := (oS' _ _ _ _ (by omega) (by omega)).trans (by rw [e8]; exact i0)
        have xs2 : xs 0 c a 2 = 0 := (u3.1 _ _ _ _ (by omega)).trans (x42.trans i0)
        have ys46 : ys 40 0 0 46 = 0 := (u3.2 _ _ _ _ (by omega) (by omega)).trans f46
        have s111 : V ys 111 a = Int32.ofNat (r' + 1) := (oS' _ _ _ _ (by omega) (by omega)).trans e111
        have s112 : V ys 112 (30 * a) = Int32.ofNat j := (oS' _ _ _ _ (by omega) (by omega)).trans e112
        have n111 : ¬ y8 111 0 0 a ≤ 0 := by rw [show y8 111 0 0 a = Int32.ofNat (r' + 1) from e111]; exact gt0 (by omega)
        rw [eH, e_bd, if_neg no1, u1, e_bd2, e_lt, ← e8, if_neg n111]
        have eref : m_X12_starts (Int32.ofNat a) y8 = bd2_ (if r = 0 then (some ((1 : Int32), ys)) else (gd_ (Int32.ofNat a) 3 (lt_ (up4 ys 118 0 0 a (ys 40 0 0 44)) fun y6 => lt_ (up4 y6 119 0 0 a (y6 40 0 0 45)) fun y7 => lt_ (up4 y7 120 0 0 a ((y7 120 0 0 a) + (1 : Int32))) fun y8 => lt_ (up4 y8 40 0 0 46 (1 : Int32)) fun y9 => some ((0 : Int32), y9)))) fun r4 y5 => if r4 = 0 then some y5 else (gd_ (Int32.ofNat a) 3 (lt_ (up4 y5 111 0 0 a ((y5 111 0 0 a) - (1 : Int32))) fun y8 => lt_ (0 : Int32) fun x3_9 => m_X12_starts_l34 (Int32.ofNat a) FU (Int32.ofNat j) x3_9 y8)) := by
          unfold m_X12_starts m_X12_isGranted
          rw [m300, gd_n (show 30 * a < 90 by omega) (by decide), e_lt, tn (show 30 * a < 2 ^ 31 by omega), tn (show a < 2 ^ 31 by omega), show y8 112 0 0 (30 * a) = Int32.ofNat j from e112, u2', e_bd2]
        rw [eref]
        by_cases hr : r = 0
        · have eB : ∀ k s, k ≠ 40 → ¬ (141 ≤ k ∧ k ≤ 143) → V ys k s = V y8 k s := fun k s w1 w2 => oS' _ _ _ _ w1 w2
          have hBuf : BufA (V ys) j := by
            have w := (u6 hr).1 (by rw [e8]; exact i0)
            unfold BufA at w ⊢
            simp only [eB 127 _ (by omega) (by omega), eB 128 _ (by omega) (by omega), eB 107 _ (by omega) (by omega), eB 104 _ (by omega) (by omega), eB 106 _ (by omega) (by omega), eB 103 _ (by omega) (by omega)]
            exact w
          have hcon : ∀ b, b < 3 → b ≠ a → hold (V ys) b &&& con (V ys) (znA (V ys) j 0) = 0 := fun b hb hba => by
            have w := (u6 hr).2 b hb hba
            have c1 : hold (V ys) b = hold (V y8) b := hold_kp (eB _ _ (by omega) (by omega)) (eB _ _ (by omega) (by omega)) (eB _ _ (by omega) (by omega)) (eB _ _ (by omega) (by omega)) (eB _ _ (by omega) (by omega))
            have c2 : znA (V ys) j 0 = znA (V y8) j 0 := by
              unfold znA
              rw [eB 123 _ (by omega) (by omega), eB 124 _ (by omega) (by omega)]
            have c3 : ∀ z, con (V ys) z = con (V y8) z := fun z => by
              unfold con
              rw [eB 101 _ (by omega) (by omega)]
            rw [c1, c2, c3]
            exact w
          obtain ⟨x', y', v2, v3, v4, v5, v6, v7⟩ := st_sim hins hIs ha s114 h30 (by rw [show V ys 40 34 = V y8 40 34 from u3.2 _ _ _ _ (by omega) (by omega)]; exact hJ) hr' s111 s112 hBuf hcon (by omega)
          rw [if_pos hr, if_pos xs2, v2, e_bd, if_pos hr, e_bd2, if_neg no1, gd_n ha (by decide), e_lt, e_lt, show ys 111 0 0 a = Int32.ofNat (r' + 1) from s111, s1, v3]
          exact ⟨x', y', rfl, rfl, okf (by omega) v4 v5 (fun s => (v6 _ _ _ _ (by omega)).trans (u3.1 _ _ _ _ (by omega))) (fun s => (v7.1 s).trans (oS' _ _ _ _ (by omega) (by omega))) (fun s => (v7.2.1 s).trans (oS' _ _ _ _ (by omega) (by omega))) (v7.2.2.trans ys46)⟩
        · rw [if_neg hr, if_neg hr, gd_n ha (by decide), e_lt, e_lt, e_lt, e_lt, e_bd2, if_pos rfl, up4_ne (k' := 40) (by omega), up4_ne (k' := 120) (by omega), up4_ne (k' := 120) (by omega), u4, ← u5 hr]
          have hrf := rf_ins (v := y 117 0 0 a + 1) (r := r) (d := xs 19 0 0 0) (w := fun s => y 117 0 0 s) hins ha
          unfold m_X0_refuse
          simp only [f4 ha]
          rw [e_lt, e_lt, e_lt, e_lt, up4_ne (k' := 0) (s' := 10) (by omega), up4_ne (k' := 0) (s' := 10) (by omega), up4_ne (k' := 0) (s' := 10) (by omega)]
          generalize hX9 : up4 (up4 (up4 (up4 xs 0 c a 8 r) 0 c a 9 (xs 19 0 0 0)) 0 c a 7 (y 117 0 0 a + 1)) 0 c a 10 (xs 0 c a 10 + 1) = X9 at hrf
          rw [show X9 0 c a 2 = 0 by rw [← hX9, up4_ne (by omega), up4_ne (by omega), up4_ne (by omega), up4_ne (by omega)]; exact xs2, if_neg (show ¬ (0 : Int32) = 1 by decide), e_bd]
          refine ⟨_, _, rfl, rfl, AD.no (hrf.mono (by omega)) ?_ (fun s => ?_) (fun s => ?_) (fun s => ?_) up4_eq⟩
          · exact (((hIs.wy (by unfold RdK; omega)).wy (by unfold RdK; omega)).wy (by unfold RdK; omega)).wy (by unfold RdK; omega)
          · rw [← hX9, up4_ne (by omega), up4_ne (by omega), up4_ne (by omega), up4_ne (by omega), u3.1 _ _ _ _ (by omega)]
            exact f18 s
          · rw [up4_ne (by omega), up4_ne (by omega), up4_ne (by omega), up4_ne (by omega), oS' _ _ _ _ (by omega) (by omega)]
            exact f117 s
          · rw [up4_ne (by omega), up4_ne (by omega), up4_ne (by omega), up4_ne (by omega), oS' _ _ _ _ (by omega) (by omega)]
            exact f147 s
      · rw [e8] at w
        exact absurd i0 w
  · have h30 : j < 30 := by omega
    have y8113 : y8 113 0 0 a = Int32.ofNat j := (oQ _ _ _ _ (by omega)).trans b113
    have y8115 : y8 115 0 0 a = Int32.ofNat q := (oQ _ _ _ _ (by omega)).trans b115
    have y8124 : y8 124 0 0 j = Int32.ofNat n := (oQ _ _ _ _ (by omega)).trans b124
    -- an arm that asks for its next zone, or has none
    have nx : (V yA 114 a = 1 ∨ V yA 114 a = 3) → ∃ x' y13, (bd_ (m_X1_hasRequest c (c, Fin.ofNat 4 a) x4) fun r7 => if r7 = 0 then (if V yA 114 a = 0 then (some x4) else (bd_ (m_X1_endJob c (c, Fin.ofNat 4 a) x4) fun x12 => some x12)) else (bd2_ (m_X6_findReason c (c, Fin.ofNat 4 a) x4) fun r14 x15 => lt_ r14 fun x4_16 => if x4_16 = 0 then (if (x15 0 c a 2) = 0 then (bd_ (m_X1_startJob c (c, Fin.ofNat 4 a) x15) fun x24 => some x24) else (bd_ (m_X1_startMove c (c, Fin.ofNat 4 a) x15) fun x21 => some x21)) else (bd_ (m_X0_refuse (c, Fin.ofNat 4 a) x4_16 (x15 19 0 0 0) (y 117 0 0 a + (1 : Int32)) x15) fun x27 => some x27))) = some x' ∧ (if n ≤ q + 1 then m_X12_ends (Int32.ofNat a) y8 else m_X12_requestsNext (Int32.ofNat a) y8) = some y13 ∧ AD c (N + 2) a x0 y0 x y x' y13 := by
      intro hs
      have hn0 : V yA 114 a ≠ 0 := by rcases hs with w | w <;> rw [w] <;> decide
      have hn8 : V y8 114 a ≠ 0 := by rw [show V y8 114 a = V yA 114 a from oQ _ _ _ _ (by omega)]; exact hn0
      have hl := hlh8 q (by omega) hs b115
      rcases req hQ hW8 ha with ⟨eH, hno⟩ | ⟨j2, q2, eH, h30', hJ, hq, r1, r2, hcase⟩
      · rcases hno with ⟨w, -⟩ | ⟨-, j2, n2, h30', -, c113, c124, -, hn2⟩
        · exact absurd w hn8
        · have hjj : j2 = j := (eq_n (by omega) (by omega)).mp (c113.symm.trans y8113)
          subst hjj
          have hnn : n2 = n := (eq_n (by omega) (by omega)).mp (c124.symm.trans y8124)
          subst hnn
          rw [hl] at hn2
          rw [eH, e_bd, if_pos rfl, if_neg hn0, if_pos hn2]
          obtain ⟨x', y', v1, v2, v3, v4, v5, v6⟩ := ej_sim (A := V yA) hQ hW8 hIA hA8 ha hn8 (by omega)
          rw [v1, e_bd, v2]
          exact ⟨x', y', rfl, rfl, okf (Nat.le_refl _) v3 v4 (fun s => v5 _ _ _ _ (by omega)) (fun s => v6.1 s) (fun s => v6.2.1 s) (v6.2.2.trans f46)⟩
      · rcases hcase with ⟨w, -⟩ | ⟨-, c113, c2⟩
        · exact absurd w hn8
        · have hjj : j2 = j := (eq_n (by omega) (by omega)).mp (c113.symm.trans y8113)
          subst hjj
          have hnq : ¬ n ≤ q + 1 := by
            rw [show V y8 124 j2 = Int32.ofNat n from y8124, tn (by omega), c2, hl] at hq
            omega
          rw [eH, e_bd, if_neg no1, if_neg hnq]
          exact rn j2 q2 hs eH h30' hJ hq r1 r2 c113 c2
    rcases hst with ⟨s1', t, t1, t9, e⟩ | ⟨s2, hq1, t, t1, t9, e⟩ | ⟨s3, hq1, e⟩
    · -- it works
      rw [e]
      by_cases ht : t = 1
      · subst ht
        rw [if_pos (show Int32.ofNat 1 ≤ 1 by decide), e_lt, x42, if_neg (show ¬ V yA 114 a = 2 by rw [s1']; decide), if_neg (show ¬ yA 114 0 0 a = 0 by rw [ei 1 s1']; decide), if_pos (ei 1 s1'), e_lt, show yA 116 0 0 a = Int32.ofNat 1 from e, show Int32.ofNat 1 - 1 = (0 : Int32) from rfl, hy8, e116, if_pos (show (0 : Int32) ≤ 0 by decide), y8113, gd_n h30 (by decide), tn (show j < 2 ^ 31 by omega), y8124, y8115, n1]
        obtain ⟨x', y13, v1, v2, v3⟩ := nx (Or.inl s1')
        rw [v1]
        refine ⟨x', y13, rfl, ?_, v3⟩
        by_cases hnq : n ≤ q + 1
        · rw [if_pos ((le_n (by omega) (by omega)).mpr hnq)]
          rw [if_pos hnq] at v2
          rw [v2, e_bd]
        · rw [if_neg (fun w => hnq ((le_n (by omega) (by omega)).mp w))]
          rw [if_neg hnq] at v2
          rw [v2, e_bd]
      · have hlt : ¬ Int32.ofNat t ≤ 1 := le_f (b := 1) (by omega) (by decide) (by omega)
        have hlt2 : ¬ Int32.ofNat t - 1 ≤ 0 := by
          obtain ⟨t', rfl⟩ : ∃ t', t = t' + 1 := ⟨t - 1, by omega⟩
          rw [s1]
          exact le_f (b := 0) (by omega) (by decide) (by omega)
        rw [if_neg hlt, e_lt, if_neg (show ¬ yA 114 0 0 a = 0 by rw [ei 1 s1']; decide), if_pos (ei 1 s1'), e_lt, show yA 116 0 0 a = Int32.ofNat t from e, up4_eq, if_neg hlt2]
        exact ⟨_, _, rfl, rfl, dec t (by omega) t9 e (Or.inl s1')⟩
    · -- it moves
      rw [e]
      by_cases ht : t = 1
      · subst ht
        rw [if_pos (show Int32.ofNat 1 ≤ 1 by decide), e_lt, x42, if_pos s2, if_neg (show ¬ yA 114 0 0 a = 0 by rw [ei 2 s2]; decide), if_neg (show ¬ yA 114 0 0 a = 1 by rw [ei 2 s2]; decide), if_pos (ei 2 s2), e_lt, show yA 116 0 0 a = Int32.ofNat 1 from e, show Int32.ofNat 1 - 1 = (0 : Int32) from rfl, hy8, e116, if_pos (show (0 : Int32) ≤ 0 by decide)]
        obtain ⟨x', y', v1, v2, v3, v4, v5, v6⟩ := em_sim (A := V yA) hQ hW8 hIA hA8 ha ((oQ _ _ _ _ (by omega)).trans s2) (by omega)
        rw [tn (show a < 2 ^ 31 by omega)] at v2
        rw [v1, e_bd, v2]
        exact ⟨x', y', rfl, rfl, okf (by omega) v3 v4 (fun s => v5 _ _ _ _ (by omega)) (fun s => v6.1 s) (fun s => v6.2.1 s) (v6.2.2.trans f46)⟩
      · have hlt : ¬ Int32.ofNat t ≤ 1 := le_f (b := 1) (by omega) (by decide) (by omega)
        have hlt2 : ¬ Int32.ofNat t - 1 ≤ 0 := by
          obtain ⟨t', rfl⟩ : ∃ t', t = t' + 1 := ⟨t - 1, by omega⟩
          rw [s1]
          exact le_f (b := 0) (by omega) (by decide) (by omega)
        rw [if_neg hlt, e_lt, if_neg (show ¬ yA 114 0 0 a = 0 by rw [ei 2 s2]; decide), if_neg (show ¬ yA 114 0 0 a = 1 by rw [ei 2 s2]; decide), if_pos (ei 2 s2), e_lt, show yA 116 0 0 a = Int32.ofNat t from e, up4_eq, if_neg hlt2]
        exact ⟨_, _, rfl, rfl, dec t (by omega) t9 e (Or.inr s2)⟩
    · -- it waits
      have e8 : y8 = yA := hself e
      rw [e, if_pos (show (0 : Int32) ≤ 1 by decide), e_lt, x42, if_neg (show ¬ V yA 114 a = 2 by rw [s3]; decide), if_neg (show ¬ yA 114 0 0 a = 0 by rw [ei 3 s3]; decide), if_neg (show ¬ yA 114 0 0 a = 1 by rw [ei 3 s3]; decide), if_neg (show ¬ yA 114 0 0 a = 2 by rw [ei 3 s3]; decide)]
      obtain ⟨x', y13, v1, v2, v3⟩ := nx (Or.inr s3)
      rw [if_neg (show ¬ n ≤ q + 1 by omega), e8] at v2
      rw [v1, v2, e_bd]
      exact ⟨x', y13, rfl, rfl, v3⟩
