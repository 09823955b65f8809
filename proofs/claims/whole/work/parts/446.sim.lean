/-! PERFORM, doing: one command -/
def FYw (y y' : Mem) : Prop := ∀ k d i s, 148 ≤ k ∨ (k = 40 ∧ (s = 0 ∨ 47 ≤ s)) → y' k d i s = y k d i s
def ExR (N : Nat) (x y x' y' : Mem) : Prop := Rep x' ((1 : Fin 10) : Nat) (V y') N ∧ Con x' ∧ Inv (V y') ∧ FX ((1 : Fin 10) : Nat) x x' ∧ FYw y y'
theorem ExR.ins {N : Nat} {x y x' y' : Mem} (h : ExR N x y x' y') : Ins ((1 : Fin 10) : Nat) N x' y' (V y' 117) x' y' := ⟨by rw [ov_self]; exact h.1, h.2.1, FX.rf, FY.rf⟩
theorem Ins.exr {N : Nat} {x y x' y' : Mem} (h : Ins ((1 : Fin 10) : Nat) N x y (V y' 117) x' y') (hI : Inv (V y')) : ExR N x y x' y' := ⟨by have := h.1; rw [ov_self] at this; exact this, h.2.1, hI, h.2.2.1, fun k d i s q => h.2.2.2 k d i s (by omega)⟩
theorem ExR.tr {N N' : Nat} {x y x' y' x2 y2 : Mem} (h : ExR N x y x' y') (g : ExR N' x' y' x2 y2) : ExR N' x y x2 y2 := ⟨g.1, g.2.1, g.2.2.1, h.2.2.2.1.tr g.2.2.2.1, fun k d i s q => (g.2.2.2.2 k d i s q).trans (h.2.2.2.2 k d i s q)⟩
theorem ExR.mono {N N' : Nat} {x y x' y' : Mem} (h : ExR N x y x' y') (hN : N ≤ N') : ExR N' x y x' y' := ⟨h.1.mono hN, h.2⟩
theorem addn {a b : Nat} : Int32.ofNat a + Int32.ofNat b = Int32.ofNat (a + b) := (Int32.ofNat_add a b).symm
theorem ct_loop {p : Fin 28} {k T N : Nat} {x0 y0 : Mem} (hp : (p : Nat) = k) (hT : T ≤ 50) (hk : k < 27) (hN : N < 2 ^ 26) (e1 : x0 25 0 k 7 = Int32.ofNat T) (e2 : y0 150 0 0 (6 * k) = Int32.ofNat T) : ∀ (m t : Nat) (x y : Mem), t ≤ T → T < t + m → Ins ((1 : Fin 10) : Nat) (N + 6 * t) x0 y0 (V y 117) x y → Inv (V y) → ∃ x' y', m_X11_carryOut_l119 p m (Int32.ofNat t) x = some (1, x') ∧ m_X12_does_l151 (Int32.ofNat k) m (Int32.ofNat (6 * k)) (Int32.ofNat t) y = some (1, y') ∧ Ins ((1 : Fin 10) : Nat) (N + 6 * T) x0 y0 (V y' 117) x' y' ∧ Inv (V y') := by
  intro m
  induction m with
  | zero => intro t x y h1 h2; omega
  | succ m ih =>
    intro t x y h1 h2 hI hV
    show ∃ x' y', m_X11_carryOut_b119 p (m_X11_carryOut_l119 p m) (Int32.ofNat t) x = some (1, x') ∧ m_X12_does_b151 (Int32.ofNat k) (m_X12_does_l151 (Int32.ofNat k) m) (Int32.ofNat (6 * k)) (Int32.ofNat t) y = some (1, y') ∧ _
    unfold m_X11_carryOut_b119 m_X12_does_b151
    have q1 : x 25 0 k 7 = Int32.ofNat T := (hI.2.2.1 _ _ _ _ (by omega) (by omega)).trans e1
    have q2 : y 150 0 0 (6 * k) = Int32.ofNat T := (hI.2.2.2 _ _ _ _ (by omega)).trans e2
    rw [hp, q1, gd_n (show 6 * k < 240 by omega) (by decide), tn (show 6 * k < 2 ^ 31 by omega), q2]
    by_cases ht : t = T
    · subst ht
      rw [if_pos ((le_n (by omega) (by omega)).mpr (Nat.le_refl _)), if_pos ((le_n (by omega) (by omega)).mpr (Nat.le_refl _))]
      exact ⟨x, y, rfl, rfl, hI, hV⟩
    rw [if_neg (le_f (by omega) (by omega) (by omega)), if_neg (le_f (by omega) (by omega) (by omega))]
    obtain ⟨x', y', w1, w2, w3, w4⟩ := tick_sim (c := 1) hI hV (by omega)
    rw [w1, e_bd, w2, e_bd, e_lt, e_lt, n1]
    exact ih (t + 1) x' y' (by omega) (by omega) w3 w4
theorem one_lock {p : Fin 28} {k N o w : Nat} {x y : Mem} {made : Int32} (hp : (p : Nat) = k) (hk : k < 27) (h : ExR N x y x y) (hm : made = 0 ∨ made = 1) (a1 : x 25 0 k 8 = Int32.ofNat o) (a2 : x 25 0 k 9 = Int32.ofNat w) (b1 : y 150 0 0 (6 * k) = Int32.ofNat o) (b2 : y 150 0 0 (6 * k + 1) = Int32.ofNat w) : ∃ b x' y', m_X11_carryOut_j172 p made x = some (b, x') ∧ m_X12_does_j230 (Int32.ofNat k) (Int32.ofNat (6 * k)) made y = some (b, y') ∧ ExR N x y x' y' ∧ (b = 0 ∨ b = 1) := by
  unfold m_X11_carryOut_j172 m_X12_does_j230
  rw [e_lt, e_lt, hp, a1, a2, n1, gd_n (show 6 * k < 240 by omega) (by decide), gd_n (show 6 * k + 1 < 240 by omega) (by decide), tn (show 6 * k < 2 ^ 31 by omega), tn (show 6 * k + 1 < 2 ^ 31 by omega), b1, b2]
  obtain ⟨f, g, e1, e2, hc⟩ := lf_sim (c := 1) h.ins h.2.2.1 (Int32.ofNat o) (Int32.ofNat w) made
  rw [e1, e2, e_bd, e_bd]
  rcases hc with ⟨rfl, rfl, o', w', ho, hw, how, r1, r2⟩ | ⟨rfl, rfl⟩ | ⟨rfl, rfl⟩ | ⟨rfl, rfl⟩
  · obtain ⟨x', y', q1, q2, q3, q4⟩ := lk_sim (c := 1) h.ins h.2.2.1 hm ho hw how
    rw [← r1, ← r2] at q1 q2
    rw [if_pos rfl, if_pos (by decide), q1, e_bd2, q2, e_bd]
    exact ⟨1, x', y', rfl, rfl, q3.exr q4, Or.inr rfl⟩
  · rw [if_neg (by decide), if_neg (by decide)]
    exact ⟨0, x, y, rfl, rfl, h, Or.inl rfl⟩
  · rw [if_neg (by decide), if_neg (by decide)]
    exact ⟨0, x, y, rfl, rfl, h, Or.inl rfl⟩
  · rw [if_neg (by decide), if_neg (by decide)]
    exact ⟨0, x, y, rfl, rfl, h, Or.inl rfl⟩
theorem iz_in {z : Nat} (hz : z < 8) : m_X12_isZone (Int32.ofNat z) = some 1 := by
  unfold m_X12_isZone
  rw [ib_in (fun q => by
    rcases q with q | q
    · exact ge0 (by omega) q
    · have := (lt_n (a := 7) (by decide) (show z < 2 ^ 31 by omega)).mp q
      omega), e_bd, e_gb1]
theorem iz_out {z : Nat} (hz : ¬ z < 8) (h : z < 2 ^ 31) : m_X12_isZone (Int32.ofNat z) = some 0 := by
  unfold m_X12_isZone
  rw [ib_out (Or.inr (show (7 : Int32) < Int32.ofNat z from (lt_n (a := 7) (by decide) h).mpr (by omega))), e_bd, e_gb0]
theorem hasI_0 {x : Mem} {c : Fin 10} {o w : Nat} (ho : o ≤ 9) (hw : w ≤ 9) (h : o = w ∨ ¬ (o < 8 ∧ w < 8)) : m_X10_hasInterlock c (Int32.ofNat o) (Int32.ofNat w) x = some 0 := by
  unfold m_X10_hasInterlock
  by_cases e : o = w
  · rw [if_pos (by rw [e])]
  rw [if_neg (fun q => e ((eq_n (by omega) (by omega)).mp q))]
  by_cases hw8 : w < 8
  · have i1 : m_X11_isWithin (Int32.ofNat w) 0 7 = some 1 := iw_in (fun q => by
      rcases q with q | q
      · exact ge0 (by omega) q
      · have := (lt_n (a := 7) (by decide) (show w < 2 ^ 31 by omega)).mp q
        omega)
    have hc : m_X10_conflictsOf c (Int32.ofNat o) x = some 0 := by
      unfold m_X10_conflictsOf
      rw [if_neg (ge0 (by omega)), if_pos (show (8 : Int32) ≤ Int32.ofNat o from (le_n (a := 8) (by decide) (by omega)).mpr (by omega))]
    rw [i1, e_bd, if_neg no1, hc, e_bd, if_pos Int32.zero_and]
  · rw [iw_out (Or.inr (show (7 : Int32) < Int32.ofNat w from (lt_n (a := 7) (by decide) (by omega)).mpr (by omega))), e_bd, if_pos rfl]
