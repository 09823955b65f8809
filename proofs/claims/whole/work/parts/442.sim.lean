/-! PERFORM, reading: a path, buffers, ticks, an interlock, a job, a command -/
theorem wUpd_up {v : Nat → Int32} {f : Nat} {a b : Int32} : wUpd (wUpd v f a) f b = wUpd v f b := by
  funext g
  by_cases e : g = f
  · subst e
    rw [wUpd_eq, wUpd_eq]
  · rw [wUpd_ne e, wUpd_ne e, wUpd_ne e]
def pacc (P : Int32) (d : Nat) : Int32 := if P < 0 then -1 else if Int32.ofNat d < 8 then P * 10 + Int32.ofNat d + 1 else -1
theorem rp_loop {n j : Nat} {x0 y0 : Mem} {kd : Int32} {p : Fin 28} (hp : (p : Nat) = j) : ∀ (k i m m' t : Nat) (v w : Nat → Int32) (x y : Mem), i + k = 5 → 1 ≤ k → k < m → k < m' → RdS n j x0 y0 t v w kd x y → ∃ (b : Int32) (x' y' : Mem) (t' : Nat) (v' w' : Nat → Int32), m_X3_readPath_j27 p (m_X3_readPath_l7 p m) (Int32.ofNat i) x = some (b, x') ∧ m_X12_takesPath_l4 m' (v 2) (Int32.ofNat i) y = some (b, y') ∧ RdS n j x0 y0 t' v' w' kd x' y' ∧ (b = 0 ∨ (b = 1 ∧ t ≤ t' ∧ ∃ P, v' = wUpd v 2 P ∧ w' = wUpd w 1 P)) := by
  intro k
  induction k with
  | zero => intro i m m' t v w x y h1 h2; omega
  | succ k ih =>
    intro i m m' t v w x y h1 h2 hm hm' h
    obtain ⟨m, rfl⟩ : ∃ u, m = u + 1 := ⟨m - 1, by omega⟩
    obtain ⟨m', rfl⟩ : ∃ u, m' = u + 1 := ⟨m' - 1, by omega⟩
    show ∃ (b : Int32) (x' y' : Mem) (t' : Nat) (v' w' : Nat → Int32), _ ∧ m_X12_takesPath_b4 (m_X12_takesPath_l4 m') (v 2) (Int32.ofNat i) y = some (b, y') ∧ _ ∧ _
    obtain ⟨b, x1, y1, t1, e1, e2, r1, hb⟩ := digit_sim h
    rcases hb with ⟨rfl, rfl⟩ | ⟨rfl, rfl, d, hd, d1, d2⟩
    · refine ⟨0, x1, y1, t1, v, w, ?_, ?_, r1, Or.inl rfl⟩
      · unfold m_X3_readPath_j27
        rw [e1, e_bd2, if_pos rfl]
      · unfold m_X12_takesPath_b4
        rw [e2, e_bd2, if_pos rfl]
    have hv2 : x1 25 0 j 2 = v 2 := r1.2.2.2.2.2.2.2.1 2
    have ex : m_X2_addZone p (x1 22 0 0 4) x1 = some (up4 x1 25 0 j 2 (pacc (v 2) d)) := by
      unfold m_X2_addZone m_X2_addZone_j14 m_X2_addZone_j29 pacc
      rw [hp, hv2, d1]
      by_cases c1 : v 2 < 0
      · rw [if_pos c1, if_pos c1]
        rfl
      · rw [if_neg c1, if_neg c1]
        by_cases c2 : Int32.ofNat d < 8
        · rw [if_pos c2, if_pos c2]
          rfl
        · rw [if_neg c2, if_neg c2]
          rfl
    have ey : m_X12_takesPath_b4 (m_X12_takesPath_l4 m') (v 2) (Int32.ofNat i) y = m_X12_takesPath_j41 (m_X12_takesPath_l4 m') (Int32.ofNat i) (pacc (v 2) d) y1 := by
      unfold m_X12_takesPath_b4 m_X12_takesPath_j26 pacc
      rw [e2, e_bd2, if_neg no1, d2]
      by_cases c1 : v 2 < 0
      · rw [if_pos c1, if_pos c1]
      · rw [if_neg c1, if_neg c1]
        by_cases c2 : Int32.ofNat d < 8
        · rw [if_pos c2, if_pos c2, Int32.mul_comm]
        · rw [if_neg c2, if_neg c2]
    rw [ey]
    generalize pacc (v 2) d = P at ex ⊢
    unfold m_X3_readPath_j27
    rw [e1, e_bd2, if_neg no1, ex, e_bd, e_lt, n1]
    unfold m_X12_takesPath_j41
    rw [e_lt, e_lt, n1]
    have r2 := r1.vx (f := 2) (a := P)
    generalize up4 x1 25 0 j 2 P = x2 at r2 ⊢
    show ∃ (b : Int32) (x' y' : Mem) (t' : Nat) (v' w' : Nat → Int32), m_X3_readPath_b7 p (m_X3_readPath_l7 p m) (Int32.ofNat (i + 1)) x2 = some (b, x') ∧ _
    have fin : ∀ {t' : Nat} {x3 y3 : Mem}, RdS n j x0 y0 t' (wUpd v 2 P) w kd x3 y3 → m_X12_takesPath_j59 P y3 = some (1, up4 y3 150 0 0 (6 * j + 1) P) := fun {t' x3 y3} r => by
      obtain ⟨⟨q0, q1, q2⟩, -, -, -, -, h5, -⟩ := r
      unfold m_X12_takesPath_j59
      rw [h5, show (1 : Int32) = Int32.ofNat 1 from rfl, six, gd_n (show 6 * j + 1 < 240 by omega) (by decide), tn (by omega), e_lt]
    by_cases h5 : i + 1 = 5
    · rw [h5]
      refine ⟨1, x2, _, t + 1, _, _, ?_, ?_, r2.wy (f := 1) (by decide), Or.inr ⟨rfl, by omega, P, rfl, rfl⟩⟩
      · unfold m_X3_readPath_b7
        rw [if_pos (by decide)]
      · rw [if_pos (by decide)]
        exact fin r2
    have nle : ¬ (5 : Int32) ≤ Int32.ofNat (i + 1) := le_f (a := 5) (by decide) (by omega) (by omega)
    unfold m_X3_readPath_b7
    rw [if_neg nle, if_neg nle, if_neg (gt0 (by omega))]
    obtain ⟨b, x3, y3, t3, e3, e4, r3, hb⟩ := take_sim 44 r2
    rw [e3, e4, e_bd2, e_bd2]
    rcases hb with ⟨rfl, rfl⟩ | ⟨rfl, rfl⟩
    · rw [if_pos rfl, if_pos rfl]
      exact ⟨1, x3, _, _, _, _, rfl, fin r3, r3.wy (f := 1) (by decide), Or.inr ⟨rfl, by omega, P, rfl, rfl⟩⟩
    · rw [if_neg no1, if_neg no1]
      obtain ⟨b, x', y', t', v', w', g1, g2, g3, g4⟩ := ih (i + 1) m m' _ _ _ x3 y3 (by omega) (by omega) (by omega) (by omega) r3
      rw [wUpd_eq] at g2
      refine ⟨b, x', y', t', v', w', g1, g2, g3, g4.imp id fun ⟨u1, u2, P', u3, u4⟩ => ⟨u1, by omega, P', ?_, u4⟩⟩
      rw [u3, wUpd_up]
theorem path_read {n j t : Nat} {x0 y0 x y : Mem} {v w : Nat → Int32} {kd : Int32} {p : Fin 28} (hp : (p : Nat) = j) (h : RdS n j x0 y0 t v w kd x y) : ∃ (b : Int32) (x' y' : Mem) (t' : Nat) (v' w' : Nat → Int32), m_X3_readPath p x = some (b, x') ∧ m_X12_takesPath y = some (b, y') ∧ RdS n j x0 y0 t' v' w' kd x' y' ∧ (b = 0 ∨ (b = 1 ∧ t ≤ t' ∧ ∃ P, v' = wUpd v 2 P ∧ w' = wUpd w 1 P)) := by
  obtain ⟨m, hm⟩ := FUs
  obtain ⟨b, x', y', t', v', w', g1, g2, g3, g4⟩ := rp_loop hp 5 0 (m + 7) (m + 8) t _ _ _ _ (by omega) (by omega) (by omega) (by omega) (h.vx (f := 2) (a := 0))
  refine ⟨b, x', y', t', v', w', ?_, ?_, g3, g4.imp id fun ⟨u1, u2, P', u3, u4⟩ => ⟨u1, by omega, P', ?_, u4⟩⟩
  · unfold m_X3_readPath
    rw [e_lt, e_lt, hm, hp]
    show m_X3_readPath_b7 p (m_X3_readPath_l7 p (m + 7)) 0 _ = _
    unfold m_X3_readPath_b7
    rw [if_neg (by decide), if_pos (by decide)]
    rw [← z0] at g1
    exact g1
  · unfold m_X12_takesPath
    rw [e_lt, e_lt, hm]
    rw [wUpd_eq, ← z0] at g2
    exact g2
  · rw [u3, wUpd_up]
