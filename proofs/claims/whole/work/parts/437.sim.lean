/-! tick, endsAfter, idleAfter -/
theorem tk_loop {n N : Nat} {x0 y0 : Mem} {e0 : Int32} (hn : n ≤ 50) (hN : N < 2 ^ 26) : ∀ (m t : Nat) (x y : Mem), t ≤ n → n < t + m → Ins 0 (N + 6 * t) x0 y0 (V y 117) x y → Inv (V y) → ∃ v x' y', m_X11_tick_l41 (Int32.ofNat n) m e0 (Int32.ofNat t) x = some (0, v, x') ∧ m_X12_tick_l32 (Int32.ofNat n) m e0 (Int32.ofNat t) y = some (v, y') ∧ Ins 0 (N + 6 * n) x0 y0 (V y' 117) x' y' ∧ Inv (V y') := by
  intro m
  induction m with
  | zero => intro t x y h1 h2; omega
  | succ m ih =>
    intro t x y h1 h2 hI hV
    show ∃ v x' y', m_X11_tick_b41 (Int32.ofNat n) (m_X11_tick_l41 (Int32.ofNat n) m) e0 (Int32.ofNat t) x = some (0, v, x') ∧ m_X12_tick_b32 (Int32.ofNat n) (m_X12_tick_l32 (Int32.ofNat n) m) e0 (Int32.ofNat t) y = some (v, y') ∧ _
    unfold m_X11_tick_b41 m_X12_tick_b32
    by_cases ht : t = n
    · subst ht
      rw [if_pos ((le_n (by omega) (by omega)).mpr (Nat.le_refl _)), if_pos ((le_n (by omega) (by omega)).mpr (Nat.le_refl _)), show x 2 ((0 : Fin 10) : Nat) 0 2 = y 40 0 0 37 from hI.1.1.2.2.1.trans (ov_ne (by decide))]
      exact ⟨_, x, y, rfl, rfl, hI, hV⟩
    rw [if_neg (le_f (by omega) (by omega) (by omega)), if_neg (le_f (by omega) (by omega) (by omega))]
    obtain ⟨x', y', w1, w2, w3, w4⟩ := tick_sim (c := 0) hI hV (by omega)
    rw [w1, e_bd, w2, e_bd, e_lt, e_lt, n1]
    exact ih (t + 1) x' y' (by omega) (by omega) w3 w4
theorem sim_tick : Sim_tick Rel := by
  intro i x y p0 hi hR
  by_cases h1 : p0 < 1 ∨ (50 : Int32) < p0
  · refine ⟨2, 0, x, 0, up4 y 40 0 0 0 1, ?_, ?_, by decide, up4_eq, (fun h => absurd h (by decide)), (hR.th 1).up⟩
    · unfold m_X11_tick
      rw [iw_out h1, e_bd, if_pos rfl]
    · unfold m_X12_tick m_X12_fails
      rw [ib_out h1, e_bd, if_pos rfl]
      rfl
  have i1 := iw_in h1
  have i2 := ib_in h1
  obtain ⟨n, hn, rfl⟩ := ex_n (v := p0) (n := 50) (fun q => h1 (Or.inl (Int32.lt_trans q (by decide)))) (fun q => h1 (Or.inr q)) (by decide)
  obtain ⟨x', y', e1, e2, g1, -, -, -, g5, -⟩ := keep_sim (hR.th 0)
  have hins := g1.ins
  have hs := satb hi
  obtain ⟨v, x2, y2, q1, q2, q3, q4⟩ := tk_loop (N := SAT * i) (x0 := x') (y0 := y') (e0 := y' 40 0 0 37) hn (by omega) FU 0 x' y' (Nat.zero_le _) (by unfold FU; omega) hins g1.2.1.2
  rw [← z0] at q1 q2
  refine ⟨0, v, x2, v, y2, ?_, ?_, by decide, ?_, fun _ => rfl, Ins.rel g1 (Nat.le_succ _) (q3.mono (by rw [satS]; omega)) q4⟩
  · unfold m_X11_tick
    rw [i1, e_bd, if_neg no1, e1, e_bd, e_lt, e_lt, show x' 2 ((0 : Fin 10) : Nat) 0 2 = y' 40 0 0 37 from g1.2.1.1.1.2.2.1, q1]
  · unfold m_X12_tick
    rw [i2, e_bd, if_neg no1, e_lt, e2, e_bd, e_lt, e_lt, q2]
  · rw [q3.2.2.2 _ _ _ _ (by omega), g5, up4_eq]
    rfl
/-- all is as it was behind a forecast -/
theorem fore {i : Nat} {x y x' y' : Mem} {s0 : Int32} (hR : Rel i x y) (hC : Con x') (h1 : ∀ k c a t, k < 14 → c ≠ 1 → x' k c a t = x k c a t) (h2 : ∀ k c a t, 14 ≤ k → ¬ (18 ≤ k ∧ k ≤ 21) → x' k c a t = x k c a t) (hY : FY (ZK y 157 0 573) y') : Rel (i + 1) x' (up4 (ZT y' 157 0 573) 40 0 0 0 s0) := by
  obtain ⟨-, ⟨hN, hI⟩, -⟩ := id hR
  have eS : Sl y' 157 0 = Sl (ZK y 157 0 573) 157 0 := by
    funext k s
    exact hY _ _ _ _ (by omega)
  have hA : Agr (V y) (V (up4 (ZT y' 157 0 573) 40 0 0 0 s0)) := by
    refine Agr.up (by decide) (Agr.tr (B := Sl y' 157 0) ?_ ZT_V)
    rw [eS]
    exact ZK_Sl (by decide)
  have e40 : ∀ s, 47 ≤ s → s ≠ 60 → s ≠ 62 → up4 (ZT y' 157 0 573) 40 0 0 0 s0 40 0 0 s = y 40 0 0 s := fun s q1 q2 q3 => by
    rw [up4_ne (by omega), ZT_40 ⟨q2, q3⟩ (by omega), hY _ _ _ _ (by omega), ZK_40 (by decide) ⟨q2, q3⟩]
  have eK : ∀ k s, 148 ≤ k → k ≠ 157 → up4 (ZT y' 157 0 573) 40 0 0 0 s0 k 0 0 s = y k 0 0 s := fun k s q1 q2 => by
    rw [up4_ne (by omega), ZT_o (by omega), hY _ _ _ _ (by omega), ZK_o q2 (by omega)]
  have hm : SAT * i ≤ SAT * (i + 1) := Nat.mul_le_mul_left _ (Nat.le_succ i)
  exact hR.main (Nat.le_succ _) hC (((hN.cell (fun k a t q => h1 _ _ _ _ q (by decide))).congr hA hI).mono hm) (hI.congr hA) (fun k c a t q _ r => h1 _ _ _ _ q r) (fun k c a t q => h2 _ _ _ _ (by omega) (by omega)) (fun s => eK _ _ (by omega) (by omega)) (fun s => eK _ _ (by omega) (by omega)) (fun s => eK _ _ (by omega) (by omega)) (e40 _ (by omega) (by omega) (by omega)) (e40 _ (by omega) (by omega) (by omega)) (e40 _ (by omega) (by omega) (by omega))
theorem j53_y {y : Mem} {p0 v : Int32} : m_X12_findsEnd_j53 p0 v y = some (v, ZT y 157 0 573) := by
  unfold m_X12_findsEnd_j53
  have htk := take_all (y := y) (K := 157) (W := 0) (N := 573) (by decide) (by decide) (by decide)
  rw [show (m_X12_passAll (157, 0, 0) 573 0 0 y) = some (ZT y 157 0 573) from htk, e_bd]
theorem kp_157 {y : Mem} : m_X12_passAll (157, 0, 0) 573 0 1 y = some (ZK y 157 0 573) := keep_all (W := 0) (by decide) (by decide) (by decide)
/-- a copy of the cell, for a forecast -/
theorem fcopy {i : Nat} {x y : Mem} {K : Nat} (hK : 155 ≤ K) (hR : Rel i x y) : ∃ x1, m_X1_copyFrom 1 0 x = some x1 ∧ Ins 1 (SAT * i) x1 (ZK y K 0 573) (V (ZK y K 0 573) 117) x1 (ZK y K 0 573) ∧ Inv (V (ZK y K 0 573)) ∧ (∀ k c a t : Nat, c ≠ 1 → x1 k c a t = x k c a t) ∧ (∀ k c a t : Nat, 14 ≤ k → x1 k c a t = x k c a t) := by
  obtain ⟨hC, ⟨hN, hI⟩, -⟩ := id hR
  obtain ⟨x1, e1, r1, k1, o1, p1⟩ := copy_rep (d := 1) (s := 0) (by decide) hI hN hC
  have hA : Agr (V y) (V (ZK y K 0 573)) := ZK_V hK
  refine ⟨x1, e1, ⟨?_, k1, FX.rf, FY.rf⟩, hI.congr hA, o1, p1⟩
  rw [ov_self]
  exact r1.congr hA hI
theorem ea_loop {x1 y1 : Mem} {N j : Nat} (hN : N < 2 ^ 26) (h30 : j < 30) (hJ : j < (V y1 40 34).toNatClampNeg) : ∀ (m1 m2 t : Nat) (x y : Mem), t ≤ 200 → 200 < t + m1 → 201 < t + m2 → Ins 1 (N + 6 * t) x1 y1 (V y 117) x y → Inv (V y) → y 129 0 0 j ≠ 2 → ∃ cd v x' n y', m_X11_endsAfter_l52 (Int32.ofNat j) m1 (Int32.ofNat (t + 1)) x = some (cd, v, x') ∧ m_X12_findsEnd_l12 (Int32.ofNat j) m2 (Int32.ofNat t) y = some (Int32.ofNat n, ZT y' 157 0 573) ∧ Con x' ∧ FX 1 x1 x' ∧ FY y1 y' ∧ ((cd = 0 ∧ n ≤ 200 ∧ v = Int32.ofNat n) ∨ (cd = 5 ∧ n = 201)) := by
  intro m1
  induction m1 with
  | zero => intro m2 t x y h1 h2; omega
  | succ m1 ih =>
    intro m2 t x y h1 h2 h3 hI hV hne
    obtain ⟨m2, rfl⟩ : ∃ k, m2 = k + 1 := ⟨m2 - 1, by omega⟩
    show ∃ cd v x' n y', m_X11_endsAfter_b52 (Int32.ofNat j) (m_X11_endsAfter_l52 (Int32.ofNat j) m1) (Int32.ofNat (t + 1)) x = some (cd, v, x') ∧ m_X12_findsEnd_b12 (Int32.ofNat j) (m_X12_findsEnd_l12 (Int32.ofNat j) m2) (Int32.ofNat t) y = some (Int32.ofNat n, ZT y' 157 0 573) ∧ _
    obtain ⟨x2, y2, w1, w2, w3, w4⟩ := tick_sim (c := 1) hI hV (by omega)
    have h0j : (0 : Int32) ≤ Int32.ofNat j := (le_n (a := 0) (by decide) (by omega)).mpr (Nat.zero_le _)
    have hnt : ¬ (200 : Int32) < Int32.ofNat t := fun q => by
      have := (lt_n (a := 200) (by decide) (by omega)).mp q
      omega
    have eref : m_X12_findsEnd_b12 (Int32.ofNat j) (m_X12_findsEnd_l12 (Int32.ofNat j) m2) (Int32.ofNat t) y = m_X12_findsEnd_l12 (Int32.ofNat j) m2 (Int32.ofNat (t + 1)) y2 := by
      unfold m_X12_findsEnd_b12 m_X12_findsEnd_j43
      rw [if_neg hnt, if_pos h0j, gd_n h30 (by decide), tn (show j < 2 ^ 31 by omega), if_neg hne, w2, e_bd, e_lt, n1]
    rw [eref]
    unfold m_X11_endsAfter_b52
    by_cases ht : t = 200
    · subst ht
      rw [if_pos (show (200 : Int32) < Int32.ofNat 201 by decide)]
      obtain ⟨m2, rfl⟩ : ∃ k, m2 = k + 1 := ⟨m2 - 1, by omega⟩
      refine ⟨5, 0, x, 201, y2, rfl, ?_, hI.2.1, hI.2.2.1, w3.2.2.2, Or.inr ⟨rfl, rfl⟩⟩
      show m_X12_findsEnd_b12 (Int32.ofNat j) (m_X12_findsEnd_l12 (Int32.ofNat j) m2) (Int32.ofNat 201) y2 = _
      unfold m_X12_findsEnd_b12
      rw [if_pos (show (200 : Int32) < Int32.ofNat 201 by decide), j53_y]
    · have hnt1 : ¬ (200 : Int32) < Int32.ofNat (t + 1) := fun q => by
        have := (lt_n (a := 200) (by decide) (by omega)).mp q
        omega
      have e7 : x2 12 ((1 : Fin 10) : Nat) j 7 = y2 129 0 0 j := by
        obtain ⟨-, -, -, -, -, -, -, k7, -⟩ := w3.1.2.2.2.2.2 j (by rw [ov_ne (by decide), show V y2 40 34 = V y1 40 34 from w3.2.2.2 _ _ _ _ (by omega)]; exact hJ)
        exact k7.trans (ov_ne (by decide))
      rw [if_neg hnt1, w1, e_bd, job_at h30, e_bd]
      simp only [f31 h30]
      rw [e7]
      by_cases he : y2 129 0 0 j = 2
      · rw [if_pos he]
        obtain ⟨m2, rfl⟩ : ∃ k, m2 = k + 1 := ⟨m2 - 1, by omega⟩
        refine ⟨0, Int32.ofNat (t + 1), x2, t + 1, y2, rfl, ?_, w3.2.1, w3.2.2.1, w3.2.2.2, Or.inl ⟨rfl, by omega, rfl⟩⟩
        show m_X12_findsEnd_b12 (Int32.ofNat j) (m_X12_findsEnd_l12 (Int32.ofNat j) m2) (Int32.ofNat (t + 1)) y2 = _
        unfold m_X12_findsEnd_b12
        rw [if_neg hnt1, if_pos h0j, gd_n h30 (by decide), tn (show j < 2 ^ 31 by omega), if_pos he, j53_y]
      · rw [if_neg he, e_lt, n1]
        exact ih m2 (t + 1) x2 y2 (by omega) (by omega) (by omega) w3 w4 he
theorem sim_endsAfter : Sim_endsAfter Rel := by
  intro i x y p0 hi hR
  obtain ⟨hC, ⟨⟨r1, -, -, -, -, r6⟩, hI⟩, -⟩ := id hR
  obtain ⟨J, hJ, eJ, -⟩ := id hI
  replace r6 : ∀ j, j < (V y 40 34).toNatClampNeg → RJob x ((0 : Fin 10) : Nat) (V y) j := r6
  have e1 : x 2 ((0 : Fin 10) : Nat) 0 1 = Int32.ofNat J := r1.2.1.trans eJ
  have ey : y 40 0 0 34 = Int32.ofNat J := eJ
  by_cases h1 : p0 < 0 ∨ Int32.ofNat J - 1 < p0
  · refine ⟨1, 0, x, 0, up4 y 40 0 0 0 1, ?_, ?_, by decide, up4_eq, (fun h => absurd h (by decide)), (hR.th 1).up⟩
    · unfold m_X11_endsAfter m_X11_needJob
      rw [e1, iw_out h1, e_bd, if_pos rfl]
      rfl
    · unfold m_X12_endsAfter m_X12_fails
      rw [isjob_out ey hJ h1, e_bd, if_pos rfl]
      rfl
  have i1 := iw_in h1
  obtain ⟨k, hk, rfl⟩ := in_n (fun q => h1 (Or.inl q)) (fun q => h1 (Or.inr q)) (show J < 2 ^ 31 by omega)
  have hk3 : k < 30 := by omega
  have i2 := isjob_in ey hJ hk
  have hkJ : k < (V y 40 34).toNatClampNeg := by rw [eJ, tn (by omega)]; exact hk
  have e7 : x 12 ((0 : Fin 10) : Nat) k 7 = y 129 0 0 k := (r6 k hkJ).2.2.2.2.2.2.2.1
  have cx : m_X11_endsAfter (Int32.ofNat k) x = if y 129 0 0 k = 2 then some (0, (0 : Int32), x) else if y 129 0 0 k = 3 then some (5, (0 : Int32), x) else (bd_ (m_X1_copyFrom (1 : Fin 10) (0 : Fin 10) x) fun x13 => lt_ (1 : Int32) fun x3_14 => m_X11_endsAfter_l52 (Int32.ofNat k) FU x3_14 x13) := by
    unfold m_X11_endsAfter m_X11_needJob
    rw [e1, i1, e_bd, if_neg no1, e_bx0, job_at hk3, e_bd]
    simp only [f31 hk3]
    rw [e_lt, e7]
  have cy : m_X12_endsAfter (Int32.ofNat k) y = if y 129 0 0 k = 3 then (bd2_ (m_X12_fails (2 : Int32) y) fun r12 y13 => some (r12, y13)) else (bd2_ (m_X12_findsEnd (Int32.ofNat k) y) fun r7 y8 => lt_ r7 fun x2_9 => if x2_9 ≤ (200 : Int32) then (m_X12_endsAfter_j49 (Int32.ofNat k) x2_9 (0 : Int32) y8) else (m_X12_endsAfter_j49 (Int32.ofNat k) x2_9 (2 : Int32) y8)) := by
    unfold m_X12_endsAfter
    rw [i2, e_bd, if_neg no1, gd_n hk3 (by decide), tn (show k < 2 ^ 31 by omega)]
  rw [cx, cy]
  by_cases h3 : y 129 0 0 k = 3
  · refine ⟨5, 0, x, 0, up4 y 40 0 0 0 2, ?_, ?_, by decide, up4_eq, (fun h => absurd h (by decide)), (hR.th 2).up⟩
    · rw [if_neg (by rw [h3]; decide), if_pos h3]
    · rw [if_pos h3]
      rfl
  rw [if_neg h3, if_neg h3]
  have z129 : ZK y 157 0 573 129 0 0 k = y 129 0 0 k := by rw [ZK_o (by decide) (by decide)]
  have h0k : (0 : Int32) ≤ Int32.ofNat k := (le_n (a := 0) (by decide) (by omega)).mpr (Nat.zero_le _)
  -- the reference's end
  have fin : ∀ (n : Nat) (y' : Mem) (s : Int32), n ≤ 201 → (s = if n ≤ 200 then 0 else 2) → (lt_ (Int32.ofNat n) fun x2_9 => if x2_9 ≤ (200 : Int32) then (m_X12_endsAfter_j49 (Int32.ofNat k) x2_9 (0 : Int32) (ZT y' 157 0 573)) else (m_X12_endsAfter_j49 (Int32.ofNat k) x2_9 (2 : Int32) (ZT y' 157 0 573))) = some ((if n ≤ 200 then Int32.ofNat n else 0), up4 (ZT y' 157 0 573) 40 0 0 0 s) := by
    intro n y' s hn hs
    subst hs
    unfold m_X12_endsAfter_j49
    rw [e_lt]
    by_cases q : n ≤ 200
    · have q2 : Int32.ofNat n ≤ 200 := (le_n (b := 200) (by omega) (by decide)).mpr q
      rw [if_pos q2, if_pos q, if_pos q, e_lt, if_pos q2]
    · have q2 : ¬ Int32.ofNat n ≤ 200 := fun w => q ((le_n (b := 200) (by omega) (by decide)).mp w)
      rw [if_neg q2, if_neg q, if_neg q, e_lt, if_neg q2]
  obtain ⟨mm, hmm⟩ := FUs
  by_cases h2 : y 129 0 0 k = 2
  · refine ⟨0, 0, x, 0, up4 (ZT (ZK y 157 0 573) 157 0 573) 40 0 0 0 0, ?_, ?_, by decide, ?_, fun _ => rfl, fore hR hC (fun _ _ _ _ _ _ => rfl) (fun _ _ _ _ _ _ => rfl) FY.rf⟩
    · rw [if_pos h2]
    · unfold m_X12_findsEnd
      rw [kp_157, e_bd, e_lt, hmm, show m_X12_findsEnd_l12 (Int32.ofNat k) (mm + 8) 0 (ZK y 157 0 573) = m_X12_findsEnd_b12 (Int32.ofNat k) (m_X12_findsEnd_l12 (Int32.ofNat k) (mm + 7)) 0 (ZK y 157 0 573) from rfl]
      unfold m_X12_findsEnd_b12
      rw [if_neg (by decide), if_pos h0k, gd_n hk3 (by decide), tn (show k < 2 ^ 31 by omega), z129, if_pos h2, j53_y, e_bd2]
      exact fin 0 _ 0 (by decide) rfl
    · rw [up4_eq]
      rfl
  rw [if_neg h2]
  obtain ⟨x1, c1, c2, c3, c4, c5⟩ := fcopy (K := 157) (by decide) hR
  have hs := satb hi
  obtain ⟨cd, v, x', n, y', q1, q2, q3, q4, q5, q6⟩ := ea_loop (N := SAT * i) (j := k) (by omega) hk3 (by rw [show V (ZK y 157 0 573) 40 34 = V y 40 34 from ZK_40 (by decide) (by decide)]; exact hkJ) FU FU 0 x1 _ (Nat.zero_le _) (by unfold FU; omega) (by unfold FU; omega) c2 c3 (by rw [z129]; exact h2)
  have er : m_X12_findsEnd (Int32.ofNat k) y = some (Int32.ofNat n, ZT y' 157 0 573) := by
    unfold m_X12_findsEnd
    rw [kp_157, e_bd, e_lt, z0]
    exact q2
  have hrel : ∀ s, Rel (i + 1) x' (up4 (ZT y' 157 0 573) 40 0 0 0 s) := fun s => fore hR q3 (fun k c a t w1 w2 => (q4 _ _ _ _ (by omega) (by omega)).trans (c4 _ _ _ _ w2)) (fun k c a t w1 w2 => (q4 _ _ _ _ (by omega) w2).trans (c5 _ _ _ _ w1)) q5
  have ec : (bd_ (m_X1_copyFrom (1 : Fin 10) (0 : Fin 10) x) fun x13 => lt_ (1 : Int32) fun x3_14 => m_X11_endsAfter_l52 (Int32.ofNat k) FU x3_14 x13) = some (cd, v, x') := by
    rw [c1, e_bd, e_lt]
    exact q1
  rw [ec, er, e_bd2]
  rcases q6 with ⟨w1, w2, w3⟩ | ⟨w1, w2⟩
  · refine ⟨cd, v, x', Int32.ofNat n, _, rfl, ?_, Or.inl w1, ?_, fun _ => w3.symm, hrel 0⟩
    · rw [fin n y' 0 (by omega) (by rw [if_pos w2]), if_pos w2]
    · rw [up4_eq, w1]
      rfl
  · refine ⟨cd, v, x', 0, _, rfl, ?_, Or.inr (Or.inr w1), ?_, fun h => absurd (w1.symm.trans h) (by decide), hrel 2⟩
    · rw [fin n y' 2 (by omega) (by rw [if_neg (by omega)]), if_neg (by omega)]
    · rw [up4_eq, w1]
      rfl
theorem quiet {c : Fin 10} {N : Nat} {x0 y0 x y : Mem} {p : Nat → Int32} (h : Ins c N x0 y0 p x y) : ∀ (m t : Nat), t ≤ 3 → 3 < t + m → ∃ q, m_X1_isAllIdle_l2 c m (Int32.ofNat t) x = some q ∧ m_X12_isQuiet_l2 m (Int32.ofNat t) y = some q := by
  intro m
  induction m with
  | zero => intro t h1 h2; omega
  | succ m ih =>
    intro t h1 h2
    show ∃ q, m_X1_isAllIdle_b2 c (m_X1_isAllIdle_l2 c m) (Int32.ofNat t) x = some q ∧ m_X12_isQuiet_b2 (m_X12_isQuiet_l2 m) (Int32.ofNat t) y = some q
    unfold m_X1_isAllIdle_b2 m_X12_isQuiet_b2
    by_cases ht : t = 3
    · subst ht
      rw [if_pos (by decide), if_pos (by decide)]
      exact ⟨1, rfl, rfl⟩
    have h3 : t < 3 := by omega
    obtain ⟨-, g2, -, -, -, -, -, -, -, -, -, g12, -⟩ := h.1.2.2.2.1 t h3
    rw [if_neg (le3 h3), if_neg (le3 h3), arm_at h3, e_bd, gd_n h3 (by decide), tn (show t < 2 ^ 31 by omega)]
    simp only [f4 h3]
    rw [show x 0 c t 2 = y 114 0 0 t from g2.trans (ov_ne (by decide)), show x 0 c t 12 = y 111 0 0 t from g12.trans (ov_ne (by decide))]
    by_cases q1 : y 114 0 0 t = 0
    · rw [if_pos q1, if_pos q1]
      by_cases q2 : y 111 0 0 t ≤ 0
      · rw [if_pos q2, if_pos q2, e_lt, e_lt, n1]
        exact ih (t + 1) (by omega) (by omega)
      · rw [if_neg q2, if_neg q2]
        exact ⟨0, rfl, rfl⟩
    · rw [if_neg q1, if_neg q1]
      exact ⟨0, rfl, rfl⟩
theorem quiet_n {c : Fin 10} {N : Nat} {x0 y0 x y : Mem} {p : Nat → Int32} (h : Ins c N x0 y0 p x y) : ∃ q, m_X1_isAllIdle c x = some q ∧ m_X12_isQuiet y = some q := by
  unfold m_X1_isAllIdle m_X12_isQuiet
  rw [e_lt, e_lt, z0]
  exact quiet h FU 0 (Nat.zero_le _) (by unfold FU; omega)
theorem ia_loop {x1 y1 : Mem} {N : Nat} (hN : N < 2 ^ 26) : ∀ (m t : Nat) (x y : Mem), t ≤ 201 → 201 < t + m → Ins 1 (N + 6 * t) x1 y1 (V y 117) x y → Inv (V y) → ∃ cd v x' n y', m_X11_idleAfter_l13 m (Int32.ofNat t) x = some (cd, v, x') ∧ m_X12_findsEnd_l12 (-1) m (Int32.ofNat t) y = some (Int32.ofNat n, ZT y' 157 0 573) ∧ Con x' ∧ FX 1 x1 x' ∧ FY y1 y' ∧ ((cd = 0 ∧ n ≤ 200 ∧ v = Int32.ofNat n) ∨ (cd = 5 ∧ n = 201)) := by
  intro m
  induction m with
  | zero => intro t x y h1 h2; omega
  | succ m ih =>
    intro t x y h1 h2 hI hV
    show ∃ cd v x' n y', m_X11_idleAfter_b13 (m_X11_idleAfter_l13 m) (Int32.ofNat t) x = some (cd, v, x') ∧ m_X12_findsEnd_b12 (-1) (m_X12_findsEnd_l12 (-1) m) (Int32.ofNat t) y = some (Int32.ofNat n, ZT y' 157 0 573) ∧ _
    unfold m_X11_idleAfter_b13 m_X12_findsEnd_b12 m_X12_findsEnd_j43
    by_cases ht : t = 201
    · subst ht
      rw [if_pos (show (200 : Int32) < Int32.ofNat 201 by decide), if_pos (show (200 : Int32) < Int32.ofNat 201 by decide), j53_y]
      exact ⟨5, 0, x, 201, y, rfl, rfl, hI.2.1, hI.2.2.1, hI.2.2.2, Or.inr ⟨rfl, rfl⟩⟩
    have hnt : ¬ (200 : Int32) < Int32.ofNat t := fun q => by
      have := (lt_n (a := 200) (by decide) (by omega)).mp q
      omega
    obtain ⟨q, q1, q2⟩ := quiet_n (c := 1) hI
    rw [if_neg hnt, if_neg hnt, q1, e_bd, if_neg (show ¬ (0 : Int32) ≤ -1 by decide), q2, e_bd]
    by_cases hq : q = 0
    · rw [if_pos hq, if_pos hq]
      obtain ⟨x2, y2, w1, w2, w3, w4⟩ := tick_sim (c := 1) hI hV (by omega)
      rw [w1, e_bd, w2, e_bd, e_lt, e_lt, n1]
      exact ih (t + 1) x2 y2 (by omega) (by omega) w3 w4
    · rw [if_neg hq, if_neg hq, j53_y]
      exact ⟨0, Int32.ofNat t, x, t, y, rfl, rfl, hI.2.1, hI.2.2.1, hI.2.2.2, Or.inl ⟨rfl, by omega, rfl⟩⟩
theorem sim_idleAfter : Sim_idleAfter Rel := by
  intro i x y hi hR
  obtain ⟨x1, c1, c2, c3, c4, c5⟩ := fcopy (K := 157) (by decide) hR
  have hs := satb hi
  obtain ⟨cd, v, x', n, y', q1, q2, q3, q4, q5, q6⟩ := ia_loop (N := SAT * i) (by omega) FU 0 x1 _ (Nat.zero_le _) (by unfold FU; omega) c2 c3
  have hrel : ∀ s, Rel (i + 1) x' (up4 (ZT y' 157 0 573) 40 0 0 0 s) := fun s => fore hR q3 (fun k c a t w1 w2 => (q4 _ _ _ _ (by omega) (by omega)).trans (c4 _ _ _ _ w2)) (fun k c a t w1 w2 => (q4 _ _ _ _ (by omega) w2).trans (c5 _ _ _ _ w1)) q5
  have ec : m_X11_idleAfter x = some (cd, v, x') := by
    unfold m_X11_idleAfter
    rw [c1, e_bd, e_lt, z0]
    exact q1
  have er : m_X12_findsEnd (-1) y = some (Int32.ofNat n, ZT y' 157 0 573) := by
    unfold m_X12_findsEnd
    rw [kp_157, e_bd, e_lt, z0]
    exact q2
  rw [ec]
  unfold m_X12_idleAfter m_X12_idleAfter_j19
  rw [er, e_bd2, e_lt]
  rcases q6 with ⟨w1, w2, w3⟩ | ⟨w1, w2⟩
  · have hl : Int32.ofNat n ≤ 200 := (le_n (b := 200) (by omega) (by decide)).mpr w2
    rw [if_pos hl, e_lt, if_pos hl]
    refine ⟨cd, v, x', Int32.ofNat n, _, rfl, rfl, Or.inl w1, ?_, fun _ => w3.symm, hrel 0⟩
    rw [up4_eq, w1]
    rfl
  · have hl : ¬ Int32.ofNat n ≤ 200 := fun q => by
      have := (le_n (b := 200) (by omega) (by decide)).mp q
      omega
    rw [if_neg hl, e_lt, if_neg hl]
    refine ⟨cd, v, x', 0, _, rfl, rfl, Or.inr w1, ?_, fun h => absurd (w1.symm.trans h) (by decide), hrel 1⟩
    rw [up4_eq, w1]
    rfl
