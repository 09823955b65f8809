/-! PERFORM, reading: buffers, ticks, an interlock -/
theorem dig_at {n j t g : Nat} {x0 y0 x y : Mem} {v w : Nat → Int32} {kd : Int32} (f : Nat) (G : Int32) (hG : G = Int32.ofNat g) (hg : g < 6) (h : RdS n j x0 y0 t v w kd x y) : ∃ (b : Int32) (x' y' : Mem) (t' : Nat), m_X3_takeDigit x = some (b, x') ∧ m_X12_takesAt G y = some (b, y') ∧ ((b = 0 ∧ RdS n j x0 y0 t' v w kd x' y') ∨ (b = 1 ∧ t' = t + 1 ∧ ∃ d : Nat, d ≤ 9 ∧ x' 22 0 0 4 = Int32.ofNat d ∧ RdS n j x0 y0 t' (wUpd v f (Int32.ofNat d)) (wUpd w g (Int32.ofNat d)) kd (up4 x' 25 0 j f (Int32.ofNat d)) y')) := by
  rw [hG]
  obtain ⟨b, x1, y1, t1, e1, e2, h1, hb⟩ := digit_sim h
  rcases hb with ⟨rfl, rfl⟩ | ⟨rfl, rfl, d, hd, d1, d2⟩
  · refine ⟨0, x1, y1, t1, e1, ?_, Or.inl ⟨rfl, h1⟩⟩
    unfold m_X12_takesAt
    rw [e2, e_bd2, if_pos rfl]
  · refine ⟨1, x1, up4 y1 150 0 0 (6 * j + g) (Int32.ofNat d), t + 1, e1, ?_, Or.inr ⟨rfl, rfl, d, hd, d1, (h1.vx).wy hg⟩⟩
    obtain ⟨⟨q0, q1, q2⟩, -, -, -, -, h5, -⟩ := h1
    unfold m_X12_takesAt
    rw [e2, e_bd2, if_neg no1, h5, six, gd_n (show 6 * j + g < 240 by omega) (by decide), tn (by omega), d2, e_lt]
def Fld (v w : Nat → Int32) : Prop := ∀ f, f < 6 → v (f + 1) = w f
theorem Fld.up {v w : Nat → Int32} {g : Nat} {a : Int32} (h : Fld v w) : Fld (wUpd v (g + 1) a) (wUpd w g a) := fun f hf => by
  by_cases e : f = g
  · subst e
    rw [wUpd_eq, wUpd_eq]
  · rw [wUpd_ne (by omega), wUpd_ne e]
    exact h f hf
theorem j36_read {n j t : Nat} {x0 y0 x y : Mem} {v w : Nat → Int32} {kd : Int32} {p : Fin 28} (hp : (p : Nat) = j) (h : RdS n j x0 y0 t v w kd x y) (hF : Fld v w) : ∃ (b : Int32) (x' y' : Mem) (t' : Nat) (v' w' : Nat → Int32), m_X3_readBuffers_j36 p x = some (b, x') ∧ m_X12_takesJob_j119 y = some (b, y') ∧ RdS n j x0 y0 t' v' w' kd x' y' ∧ (b = 0 ∨ (b = 1 ∧ t ≤ t' ∧ Fld v' w' ∧ v' 0 = v 0)) := by
  obtain ⟨b, x1, y1, t1, e1, e2, r1, hb⟩ := take_sim 62 h
  unfold m_X3_readBuffers_j36 m_X12_takesJob_j119 m_X12_takesJob_j136
  rw [e1, e2, e_bd2, e_bd2]
  rcases hb with ⟨rfl, rfl⟩ | ⟨rfl, rfl⟩
  · rw [if_pos rfl, if_pos rfl]
    exact ⟨1, x1, y1, t1, v, w, rfl, rfl, r1, Or.inr ⟨rfl, by omega, hF, rfl⟩⟩
  rw [if_neg no1, if_neg no1]
  obtain ⟨b, x2, y2, t2, e3, e4, hb⟩ := dig_at (g := 5) 6 5 rfl (by decide) r1
  rw [e3, e4, e_bd2, e_bd2]
  rcases hb with ⟨rfl, r2⟩ | ⟨rfl, rfl, d, hd, d1, r2⟩
  · rw [if_pos rfl, if_pos rfl]
    exact ⟨0, x2, y2, t2, v, w, rfl, rfl, r2, Or.inl rfl⟩
  rw [if_neg no1, if_neg no1, hp, d1, e_lt]
  exact ⟨1, _, y2, _, _, _, rfl, rfl, r2, Or.inr ⟨rfl, by omega, hF.up, wUpd_ne (by decide)⟩⟩
theorem tick_read {n j t : Nat} {x0 y0 x y : Mem} {v w : Nat → Int32} {kd : Int32} {p : Fin 28} (hp : (p : Nat) = j) (h : RdS n j x0 y0 t v w kd x y) : ∃ (b : Int32) (x' y' : Mem) (t' : Nat) (v' w' : Nat → Int32), m_X3_readTicks p x = some (b, x') ∧ m_X12_takesTicks y = some (b, y') ∧ RdS n j x0 y0 t' v' w' 1 x' y' ∧ (b = 0 ∨ (b = 1 ∧ t + 1 ≤ t' ∧ v' 7 = w' 0 ∧ v' 0 = v 0)) := by
  have hj := h.1.2.1
  have h53 := h.2.2.2.2.2.1
  unfold m_X3_readTicks m_X12_takesTicks
  rw [h53, gd_n (show j < 40 by omega) (by decide), tn (show j < 2 ^ 31 by omega), e_lt]
  obtain ⟨b, x1, y1, t1, e1, e2, hb⟩ := dig_at (g := 0) 7 0 z0 (by decide) (h.ky (a := 1))
  rw [e1, e2, e_bd2, e_bd2]
  rcases hb with ⟨rfl, r1⟩ | ⟨rfl, rfl, d, hd, d1, r1⟩
  · rw [if_pos rfl, if_pos rfl]
    exact ⟨0, x1, y1, t1, v, w, rfl, rfl, r1, Or.inl rfl⟩
  rw [if_neg no1, if_neg no1, hp, d1, e_lt]
  obtain ⟨b, x2, y2, t2, e3, e4, r2, hb⟩ := digit_sim r1
  rw [e3, e4, e_bd2, e_bd2]
  rcases hb with ⟨rfl, rfl⟩ | ⟨rfl, rfl, d', hd', d3, d4⟩
  · rw [if_pos rfl, if_pos rfl]
    exact ⟨1, x2, y2, _, _, _, rfl, rfl, r2, Or.inr ⟨rfl, by omega, by rw [wUpd_eq, wUpd_eq], wUpd_ne (by decide)⟩⟩
  have a7 : x2 25 0 j 7 = Int32.ofNat d := (r2.2.2.2.2.2.2.2.1 7).trans wUpd_eq
  have b7 : y2 150 0 0 (6 * j) = Int32.ofNat d := (r2.2.2.2.2.2.2.2.2.1 0 (by decide)).trans wUpd_eq
  rw [if_neg no1, if_neg no1, r2.2.2.2.2.2.1, six0, gd_n (show 6 * j < 240 by omega) (by decide), tn (show 6 * j < 2 ^ 31 by omega), a7, b7, d3, d4, e_lt, e_lt, Int32.mul_comm 10]
  exact ⟨1, _, _, _, _, _, rfl, rfl, (r2.vx).wy (f := 0) (by decide), Or.inr ⟨rfl, by omega, by rw [wUpd_eq, wUpd_eq], by rw [wUpd_ne (by decide), wUpd_ne (by decide)]⟩⟩
theorem lock_read {n j t : Nat} {x0 y0 x y : Mem} {v w : Nat → Int32} {kd : Int32} {p : Fin 28} (hp : (p : Nat) = j) (h : RdS n j x0 y0 t v w kd x y) : ∃ (b : Int32) (x' y' : Mem) (t' : Nat) (v' w' : Nat → Int32), m_X3_readInterlock p x = some (b, x') ∧ (bd2_ (m_X12_takesAt (0 : Int32) y) fun r16 y17 => if r16 = 0 then (some ((0 : Int32), y17)) else (bd2_ (m_X12_takesAt (1 : Int32) y17) fun r20 y21 => if r20 = 0 then (some ((0 : Int32), y21)) else (some ((1 : Int32), y21)))) = some (b, y') ∧ RdS n j x0 y0 t' v' w' kd x' y' ∧ (b = 0 ∨ (b = 1 ∧ t + 1 ≤ t' ∧ (∃ a c : Nat, a ≤ 9 ∧ c ≤ 9 ∧ v' 8 = Int32.ofNat a ∧ w' 0 = Int32.ofNat a ∧ v' 9 = Int32.ofNat c ∧ w' 1 = Int32.ofNat c) ∧ v' 0 = v 0)) := by
  unfold m_X3_readInterlock
  obtain ⟨b, x1, y1, t1, e1, e2, hb⟩ := dig_at (g := 0) 8 0 z0 (by decide) h
  rw [e1, e2, e_bd2, e_bd2]
  rcases hb with ⟨rfl, r1⟩ | ⟨rfl, rfl, d, hd, d1, r1⟩
  · rw [if_pos rfl, if_pos rfl]
    exact ⟨0, x1, y1, t1, v, w, rfl, rfl, r1, Or.inl rfl⟩
  rw [if_neg no1, if_neg no1, hp, d1, e_lt]
  obtain ⟨b, x2, y2, t2, e3, e4, hb⟩ := dig_at (g := 1) 9 1 rfl (by decide) r1
  rw [e3, e4, e_bd2, e_bd2]
  rcases hb with ⟨rfl, r2⟩ | ⟨rfl, rfl, d', hd', d2, r2⟩
  · rw [if_pos rfl, if_pos rfl]
    exact ⟨0, x2, y2, t2, _, _, rfl, rfl, r2, Or.inl rfl⟩
  rw [if_neg no1, if_neg no1, d2, e_lt]
  refine ⟨1, _, y2, _, _, _, rfl, rfl, r2, Or.inr ⟨rfl, by omega, ⟨d, d', hd, hd', ?_, ?_, ?_, ?_⟩, ?_⟩⟩
  · rw [wUpd_ne (by decide), wUpd_eq]
  · rw [wUpd_ne (by decide), wUpd_eq]
  · rw [wUpd_eq]
  · rw [wUpd_eq]
  · rw [wUpd_ne (by decide), wUpd_ne (by decide)]
