/-! PERFORM, doing: any command -/
theorem ex_sim {p : Fin 28} {k N : Nat} {x y : Mem} (hp : (p : Nat) = k) (hk : k < 27) (h : ExR N x y x y) (hN : N < 2 ^ 26) (hC : Cm (x 25 0 k) (Wn y k) (y 149 0 0 k)) : ∃ b x' y', m_X11_carryOut p x = some (b, x') ∧ m_X12_does (Int32.ofNat k) y = some (b, y') ∧ ExR (N + 300) x y x' y' ∧ (b = 0 ∨ b = 1) := by
  have hw : ∀ f, f < 6 → Wn y k f = y 150 0 0 (6 * k + f) := fun f hf => if_pos hf
  obtain ⟨h0, hc⟩ := hC
  unfold m_X11_carryOut m_X12_does
  rw [e_lt, e_lt, six0, hp, h0, gd_n (show k < 40 by omega) (by decide), tn (show k < 2 ^ 31 by omega)]
  rcases hc with ⟨e0, hF⟩ | ⟨e0, e7⟩ | ⟨e0, a, c, ha, hc9, e8, w0, e9, w1⟩
  · rw [e0, if_pos rfl, if_pos rfl, n1, show (2 : Int32) = Int32.ofNat 2 from rfl, show (3 : Int32) = Int32.ofNat 3 from rfl, show (4 : Int32) = Int32.ofNat 4 from rfl, show (5 : Int32) = Int32.ofNat 5 from rfl, addn, addn, addn, addn, gd_n (show 6 * k < 240 by omega) (by decide), gd_n (show 6 * k + 1 < 240 by omega) (by decide), gd_n (show 6 * k + 2 < 240 by omega) (by decide), gd_n (show 6 * k + 3 < 240 by omega) (by decide), gd_n (show 6 * k + 4 < 240 by omega) (by decide), gd_n (show 6 * k + 5 < 240 by omega) (by decide), tn (show 6 * k < 2 ^ 31 by omega), tn (show 6 * k + 1 < 2 ^ 31 by omega), tn (show 6 * k + 2 < 2 ^ 31 by omega), tn (show 6 * k + 3 < 2 ^ 31 by omega), tn (show 6 * k + 4 < 2 ^ 31 by omega), tn (show 6 * k + 5 < 2 ^ 31 by omega)]
    have f0 := (hF 0 (by decide)).trans (hw 0 (by decide))
    have f1 := (hF 1 (by decide)).trans (hw 1 (by decide))
    have f2 := (hF 2 (by decide)).trans (hw 2 (by decide))
    have f3 := (hF 3 (by decide)).trans (hw 3 (by decide))
    have f4 := (hF 4 (by decide)).trans (hw 4 (by decide))
    have f5 := (hF 5 (by decide)).trans (hw 5 (by decide))
    rw [f0, f1, f2, f3, f4, f5, Nat.add_zero]
    obtain ⟨f, g, e1, e2, hc⟩ := gf_sim (c := 1) h.ins h.2.2.1 (y 150 0 0 (6 * k)) (y 150 0 0 (6 * k + 1)) (y 150 0 0 (6 * k + 2)) (y 150 0 0 (6 * k + 3)) (y 150 0 0 (6 * k + 4)) (y 150 0 0 (6 * k + 5))
    rw [e1, e2, e_bd, e_bd]
    have bad : ∃ b x' y', some ((0 : Int32), x) = some (b, x') ∧ some ((0 : Int32), y) = some (b, y') ∧ ExR (N + 300) x y x' y' ∧ (b = 0 ∨ b = 1) := ⟨0, x, y, rfl, rfl, h.mono (by omega), Or.inl rfl⟩
    rcases hc with ⟨rfl, rfl, hG⟩ | ⟨rfl, rfl⟩ | ⟨rfl, rfl⟩ | ⟨rfl, rfl⟩ | ⟨rfl, rfl⟩
    · obtain ⟨J, x2, y2, q1, q2, q3, q4, q5, q6, q7, q8⟩ := aj_sim (c := 1) h.ins h.2.2.1 hG
      rw [if_pos rfl, if_pos (by decide), q1, e_bd2, q2, e_bd]
      exact ⟨1, x2, y2, rfl, rfl, ⟨q4.mono (by omega), q5, q6, q7, fun k d i s q => q8 _ _ _ _ (by omega)⟩, Or.inr rfl⟩
    · rw [if_neg (by decide), if_neg (by decide)]; exact bad
    · rw [if_neg (by decide), if_neg (by decide)]; exact bad
    · rw [if_neg (by decide), if_neg (by decide)]; exact bad
    · rw [if_neg (by decide), if_neg (by decide)]; exact bad
  · rw [e0, if_neg no1, if_pos rfl, if_neg no1, if_pos rfl, gd_n (show 6 * k < 240 by omega) (by decide), tn (show 6 * k < 2 ^ 31 by omega)]
    have e7' : x 25 0 k 7 = y 150 0 0 (6 * k) := e7.trans (hw 0 (by decide))
    rw [e7']
    by_cases h1 : y 150 0 0 (6 * k) < 1 ∨ (50 : Int32) < y 150 0 0 (6 * k)
    · rw [iw_out h1, ib_out h1, e_bd, e_bd, if_pos rfl, if_pos rfl]
      exact ⟨0, x, y, rfl, rfl, h.mono (by omega), Or.inl rfl⟩
    obtain ⟨T, hT, eT⟩ := ex_n (v := y 150 0 0 (6 * k)) (n := 50) (fun q => h1 (Or.inl (Int32.lt_trans q (by decide)))) (fun q => h1 (Or.inr q)) (by decide)
    rw [iw_in h1, ib_in h1, e_bd, e_bd, if_neg no1, if_neg no1, e_lt]
    obtain ⟨x2, y2, q1, q2, q3, q4⟩ := ct_loop hp hT hk hN (e7'.trans eT) eT FU 0 x y (Nat.zero_le _) (by unfold FU; omega) h.ins h.2.2.1
    rw [← z0] at q1 q2
    exact ⟨1, x2, y2, q1, q2, (q3.exr q4).mono (by omega), Or.inr rfl⟩
  · rw [e0, if_neg (by decide), if_neg (by decide), if_neg (by decide), if_neg (by decide), gd_n (show 6 * k < 240 by omega) (by decide), n1, gd_n (show 6 * k + 1 < 240 by omega) (by decide), tn (show 6 * k < 2 ^ 31 by omega), tn (show 6 * k + 1 < 2 ^ 31 by omega)]
    have b1 : y 150 0 0 (6 * k) = Int32.ofNat a := (hw 0 (by decide)).symm.trans w0
    have b2 : y 150 0 0 (6 * k + 1) = Int32.ofNat c := (hw 1 (by decide)).symm.trans w1
    rw [b1, b2, e8, e9]
    have hz : ∀ z, z < 8 → tb (y 101 0 0 z) z = false := by
      obtain ⟨-, -, -, -, -, -, hZ, -⟩ := h.2.2.1
      exact fun z q => (and_bit (by omega)).mp (hZ.1 z q).1
    have t1 : ∃ b x' y', m_X11_carryOut_j172 p 1 x = some (b, x') ∧ m_X12_does_j225 (Int32.ofNat k) (Int32.ofNat (6 * k)) y = some (b, y') ∧ ExR (N + 300) x y x' y' ∧ (b = 0 ∨ b = 1) := by
      obtain ⟨b, x', y', q1, q2, q3, q4⟩ := one_lock hp hk h (Or.inr rfl) e8 e9 b1 b2
      exact ⟨b, x', y', q1, q2, q3.mono (by omega), q4⟩
    by_cases ha8 : a < 8
    · rw [iz_in ha8, e_bd, if_neg no1]
      by_cases hc8 : c < 8
      · rw [iz_in hc8, e_bd, if_neg no1, gd_n (show a < 8 by omega) (by decide), tn (show a < 2 ^ 31 by omega), has_n (by omega), e_bd]
        by_cases hac : a = c
        · subst hac
          rw [hasI_0 (by omega) (by omega) (Or.inl rfl), e_bd, if_pos rfl, hz a ha8, if_pos (show (if false = true then (1 : Int32) else 0) = 0 from rfl)]
          exact t1
        · have h4 : ∀ z, z < 8 → x 4 ((1 : Fin 10) : Nat) 0 z = con (V y) z := fun z q => (h.1.2.1.2 z q).1
          rw [hasI_x ha8 hc8 hac h4, e_bd, show V y 101 a = y 101 0 0 a from rfl]
          cases tb (y 101 0 0 a) c with
          | true =>
            rw [if_neg (show ¬ (if true = true then (1 : Int32) else 0) = 0 by decide), if_neg (show ¬ (if true = true then (1 : Int32) else 0) = 0 by decide)]
            obtain ⟨b, x', y', q1, q2, q3, q4⟩ := one_lock hp hk h (Or.inl rfl) e8 e9 b1 b2
            exact ⟨b, x', y', q1, q2, q3.mono (by omega), q4⟩
          | false =>
            rw [if_pos (show (if false = true then (1 : Int32) else 0) = 0 from rfl), if_pos (show (if false = true then (1 : Int32) else 0) = 0 from rfl)]
            exact t1
      · rw [iz_out hc8 (by omega), e_bd, if_pos rfl, hasI_0 (by omega) (by omega) (Or.inr (by omega)), e_bd, if_pos rfl]
        exact t1
    · rw [iz_out ha8 (by omega), e_bd, if_pos rfl, hasI_0 (by omega) (by omega) (Or.inr (by omega)), e_bd, if_pos rfl]
      exact t1
