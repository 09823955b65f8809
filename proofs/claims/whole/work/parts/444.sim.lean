/-! PERFORM, reading: a job, a command -/
theorem job_read {n j t : Nat} {x0 y0 x y : Mem} {v w : Nat → Int32} {kd : Int32} {p : Fin 28} (hp : (p : Nat) = j) (h : RdS n j x0 y0 t v w kd x y) : ∃ (b : Int32) (x' y' : Mem) (t' : Nat) (v' w' : Nat → Int32), m_X3_readJob p x = some (b, x') ∧ m_X12_takesJob y = some (b, y') ∧ RdS n j x0 y0 t' v' w' 0 x' y' ∧ (b = 0 ∨ (b = 1 ∧ t + 1 ≤ t' ∧ Fld v' w' ∧ v' 0 = v 0)) := by
  have hj := h.1.2.1
  have h53 := h.2.2.2.2.2.1
  have r4 := h.ky (a := 0)
  have h53a := r4.2.2.2.2.2.1
  have r5 := r4.wy (f := 4) (a := -1) (by decide)
  have h53b := r5.2.2.2.2.2.1
  have r6 := r5.wy (f := 5) (a := -1) (by decide)
  unfold m_X3_readJob m_X12_takesJob
  rw [h53, gd_n (show j < 40 by omega) (by decide), tn (show j < 2 ^ 31 by omega), e_lt, h53a, show (4 : Int32) = Int32.ofNat 4 from rfl, six, gd_n (show 6 * j + 4 < 240 by omega) (by decide), tn (show 6 * j + 4 < 2 ^ 31 by omega), e_lt, h53b, show (5 : Int32) = Int32.ofNat 5 from rfl, six, gd_n (show 6 * j + 5 < 240 by omega) (by decide), tn (show 6 * j + 5 < 2 ^ 31 by omega), e_lt]
  generalize up4 (up4 (up4 y 149 0 0 j 0) 150 0 0 (6 * j + 4) (-1)) 150 0 0 (6 * j + 5) (-1) = ya at r6 ⊢
  obtain ⟨b, x1, y1, t1, e1, e2, hb⟩ := dig_at (g := 0) 1 0 z0 (by decide) r6
  rw [e1, e2, e_bd2, e_bd2]
  rcases hb with ⟨rfl, r1⟩ | ⟨rfl, rfl, a, ha, d1, r1⟩
  · rw [if_pos rfl, if_pos rfl]
    exact ⟨0, x1, y1, t1, _, _, rfl, rfl, r1, Or.inl rfl⟩
  rw [if_neg no1, if_neg no1, hp, d1, e_lt]
  obtain ⟨b, x2, y2, t2, e1, e2, r2, hb⟩ := take_sim 58 r1
  rw [e1, e2, e_bd2, e_bd2]
  rcases hb with ⟨rfl, rfl⟩ | ⟨rfl, rfl⟩
  · rw [if_pos rfl, if_pos rfl]
    exact ⟨0, x2, y2, _, _, _, rfl, rfl, r2, Or.inl rfl⟩
  rw [if_neg no1, if_neg no1]
  obtain ⟨b, x3, y3, t3, v3, w3, e1, e2, r3, hb⟩ := path_read hp r2
  rw [e1, e2, e_bd2, e_bd2]
  rcases hb with rfl | ⟨rfl, ht3, P, rfl, rfl⟩
  · rw [if_pos rfl, if_pos rfl]
    exact ⟨0, x3, y3, _, _, _, rfl, rfl, r3, Or.inl rfl⟩
  rw [if_neg no1, if_neg no1]
  obtain ⟨b, x4, y4, t4, e1, e2, r4, hb⟩ := take_sim 47 r3
  rw [e1, e2, e_bd2, e_bd2]
  rcases hb with ⟨rfl, rfl⟩ | ⟨rfl, rfl⟩
  · rw [if_pos rfl, if_pos rfl]
    exact ⟨0, x4, y4, _, _, _, rfl, rfl, r4, Or.inl rfl⟩
  rw [if_neg no1, if_neg no1]
  obtain ⟨b, x5, y5, t5, e1, e2, hb⟩ := dig_at (g := 2) 3 2 rfl (by decide) r4
  rw [e1, e2, e_bd2, e_bd2]
  rcases hb with ⟨rfl, r5⟩ | ⟨rfl, rfl, a5, ha5, d5, r5⟩
  · rw [if_pos rfl, if_pos rfl]
    exact ⟨0, x5, y5, _, _, _, rfl, rfl, r5, Or.inl rfl⟩
  rw [if_neg no1, if_neg no1, d5, e_lt]
  obtain ⟨b, x6, y6, t6, e1, e2, r6, hb⟩ := take_sim 119 r5
  rw [e1, e2, e_bd2, e_bd2]
  rcases hb with ⟨rfl, rfl⟩ | ⟨rfl, rfl⟩
  · rw [if_pos rfl, if_pos rfl]
    exact ⟨0, x6, y6, _, _, _, rfl, rfl, r6, Or.inl rfl⟩
  rw [if_neg no1, if_neg no1]
  obtain ⟨b, x7, y7, t7, e1, e2, hb⟩ := dig_at (g := 3) 4 3 rfl (by decide) r6
  rw [e1, e2, e_bd2, e_bd2]
  rcases hb with ⟨rfl, r7⟩ | ⟨rfl, rfl, a7, ha7, d7, r7⟩
  · rw [if_pos rfl, if_pos rfl]
    exact ⟨0, x7, y7, _, _, _, rfl, rfl, r7, Or.inl rfl⟩
  rw [if_neg no1, if_neg no1, d7, e_lt]
  have r8 := (r7.vx (f := 5) (a := -1)).vx (f := 6) (a := -1)
  unfold m_X3_readBuffers
  rw [hp, e_lt, e_lt]
  generalize up4 (up4 (up4 x7 25 0 j 4 (Int32.ofNat a7)) 25 0 j 5 (-1)) 25 0 j 6 (-1) = x8 at r8 ⊢
  obtain ⟨b, x9, y9, t9, e1, e2, r9, hb⟩ := take_sim 60 r8
  rw [e1, e2, e_bd2, e_bd2]
  have hF : Fld (wUpd (wUpd (wUpd (wUpd (wUpd (wUpd v 1 (Int32.ofNat a)) 2 P) 3 (Int32.ofNat a5)) 4 (Int32.ofNat a7)) 5 (-1)) 6 (-1)) (wUpd (wUpd (wUpd (wUpd (wUpd (wUpd w 4 (-1)) 5 (-1)) 0 (Int32.ofNat a)) 1 P) 2 (Int32.ofNat a5)) 3 (Int32.ofNat a7)) := by
    intro f hf
    match f, hf with
    | 0, _ => simp [wUpd]
    | 1, _ => simp [wUpd]
    | 2, _ => simp [wUpd]
    | 3, _ => simp [wUpd]
    | 4, _ => simp [wUpd]
    | 5, _ => simp [wUpd]
    | f + 6, hf => omega
  have h0 : wUpd (wUpd (wUpd (wUpd (wUpd (wUpd v 1 (Int32.ofNat a)) 2 P) 3 (Int32.ofNat a5)) 4 (Int32.ofNat a7)) 5 (-1)) 6 (-1) 0 = v 0 := by simp [wUpd]
  rcases hb with ⟨rfl, rfl⟩ | ⟨rfl, rfl⟩
  · rw [if_pos rfl, if_pos rfl]
    obtain ⟨b, x', y', t', v', w', g1, g2, g3, g4⟩ := j36_read hp r9 hF
    rw [g1, g2, e_bd2]
    rcases g4 with rfl | ⟨rfl, g5, g6, g7⟩
    · exact ⟨0, x', y', t', v', w', rfl, rfl, g3, Or.inl rfl⟩
    · exact ⟨1, x', y', t', v', w', rfl, rfl, g3, Or.inr ⟨rfl, by omega, g6, g7.trans h0⟩⟩
  rw [if_neg no1, if_neg no1]
  obtain ⟨b, xa, yb, ta, e1, e2, hb⟩ := dig_at (g := 4) 5 4 rfl (by decide) r9
  rw [e1, show Int32.ofNat 4 = 4 from rfl, e2, e_bd2, e_bd2]
  rcases hb with ⟨rfl, ra⟩ | ⟨rfl, rfl, a8, ha8, d8, ra⟩
  · rw [if_pos rfl, if_pos rfl]
    exact ⟨0, xa, yb, _, _, _, rfl, rfl, ra, Or.inl rfl⟩
  rw [if_neg no1, if_neg no1, d8, e_lt]
  obtain ⟨b, x', y', t', v', w', g1, g2, g3, g4⟩ := j36_read hp ra hF.up
  rw [g1, g2, e_bd2]
  rcases g4 with rfl | ⟨rfl, g5, g6, g7⟩
  · exact ⟨0, x', y', t', v', w', rfl, rfl, g3, Or.inl rfl⟩
  · exact ⟨1, x', y', t', v', w', rfl, rfl, g3, Or.inr ⟨rfl, by omega, g6, g7.trans ((wUpd_ne (by decide)).trans h0)⟩⟩
/-- the command that both read -/
def Cm (v w : Nat → Int32) (kd : Int32) : Prop := v 0 = kd ∧ ((kd = 0 ∧ Fld v w) ∨ (kd = 1 ∧ v 7 = w 0) ∨ (kd = 2 ∧ ∃ a c : Nat, a ≤ 9 ∧ c ≤ 9 ∧ v 8 = Int32.ofNat a ∧ w 0 = Int32.ofNat a ∧ v 9 = Int32.ofNat c ∧ w 1 = Int32.ofNat c))
theorem cmd_read {n j t : Nat} {x0 y0 x y : Mem} {v w : Nat → Int32} {kd : Int32} {p : Fin 28} (hp : (p : Nat) = j) (h : RdS n j x0 y0 t v w kd x y) : ∃ (b : Int32) (x' y' : Mem) (t' : Nat) (v' w' : Nat → Int32) (kd' : Int32), m_X3_readCommand p x = some (b, x') ∧ m_X12_takesCommand y = some (b, y') ∧ RdS n j x0 y0 t' v' w' kd' x' y' ∧ (b = 0 ∨ (b = 1 ∧ t + 2 ≤ t' ∧ Cm v' w' kd')) := by
  unfold m_X3_readCommand m_X12_takesCommand
  obtain ⟨b, x1, y1, t1, e1, e2, r1, hb⟩ := take_sim 106 h
  rw [e1, e2, e_bd2, e_bd2]
  rcases hb with ⟨rfl, rfl⟩ | ⟨rfl, rfl⟩
  rotate_left
  · rw [if_neg no1, if_neg no1, e_lt, hp]
    obtain ⟨b, x', y', t', v', w', g1, g2, g3, g4⟩ := job_read hp (r1.vx (f := 0) (a := 0))
    rw [g1, g2, e_bd2, e_bd2]
    rcases g4 with rfl | ⟨rfl, g5, g6, g7⟩
    · exact ⟨0, x', y', t', v', w', 0, rfl, rfl, g3, Or.inl rfl⟩
    · exact ⟨1, x', y', t', v', w', 0, rfl, rfl, g3, Or.inr ⟨rfl, by omega, g7.trans wUpd_eq, Or.inl ⟨rfl, g6⟩⟩⟩
  rw [if_pos rfl, if_pos rfl]
  obtain ⟨b, x2, y2, t2, e1, e2, r2, hb⟩ := take_sim 116 r1
  rw [e1, e2, e_bd2, e_bd2]
  rcases hb with ⟨rfl, rfl⟩ | ⟨rfl, rfl⟩
  rotate_left
  · rw [if_neg no1, if_neg no1, e_lt, hp]
    obtain ⟨b, x', y', t', v', w', g1, g2, g3, g4⟩ := tick_read hp (r2.vx (f := 0) (a := 1))
    rw [g1, g2, e_bd2, e_bd2]
    rcases g4 with rfl | ⟨rfl, g5, g6, g7⟩
    · exact ⟨0, x', y', t', v', w', 1, rfl, rfl, g3, Or.inl rfl⟩
    · exact ⟨1, x', y', t', v', w', 1, rfl, rfl, g3, Or.inr ⟨rfl, by omega, g7.trans wUpd_eq, Or.inr (Or.inl ⟨rfl, g6⟩)⟩⟩
  have hj := r2.1.2.1
  rw [if_pos rfl, if_pos rfl, r2.2.2.2.2.2.1, gd_n (show j < 40 by omega) (by decide), tn (show j < 2 ^ 31 by omega), e_lt]
  obtain ⟨b, x3, y3, t3, e1, e2, r3, hb⟩ := take_sim 105 (r2.ky (a := 2))
  rw [e1, e2, e_bd2, e_bd2]
  rcases hb with ⟨rfl, rfl⟩ | ⟨rfl, rfl⟩
  · rw [if_pos rfl, if_pos rfl]
    exact ⟨0, x3, y3, _, _, _, 2, rfl, rfl, r3, Or.inl rfl⟩
  rw [if_neg no1, if_neg no1, e_lt, hp]
  obtain ⟨b, x', y', t', v', w', g1, g2, g3, g4⟩ := lock_read hp (r3.vx (f := 0) (a := 2))
  rw [g1, g2, e_bd2]
  rcases g4 with rfl | ⟨rfl, g5, g6, g7⟩
  · exact ⟨0, x', y', t', v', w', 2, rfl, rfl, g3, Or.inl rfl⟩
  · exact ⟨1, x', y', t', v', w', 2, rfl, rfl, g3, Or.inr ⟨rfl, by omega, g7.trans wUpd_eq, Or.inr (Or.inr ⟨rfl, g6⟩)⟩⟩
