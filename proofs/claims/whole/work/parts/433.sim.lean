/-- what holds once a job has ended -/
theorem Inv.stop {A A' : St} {a j : Nat} (hI : Inv A) (ha : a < 3) (h0 : A 114 a ≠ 0) (hj0 : ajob A a = j) (f113 : A' 113 a = -1) (f114 : A' 114 a = 0) (f115 : A' 115 a = 0) (f116 : A' 116 a = 0) (fo : ∀ k s, RdK k s → ¬ (113 ≤ k ∧ k ≤ 116 ∧ s = a) → ¬ (103 ≤ k ∧ k ≤ 107) → A' k s = A k s) (fS : ∀ d, d < 3 → ∀ cap n pp pr : Nat, A 103 d = Int32.ofNat cap → A 104 d = Int32.ofNat n → A 106 d = Int32.ofNat pp → A 107 d = Int32.ofNat pr → cap ≤ 4 → n + pp ≤ cap → pr ≤ n → one (A 128 j = Int32.ofNat d) ≤ pp → one (A 127 j = Int32.ofNat d) ≤ pr → (∀ k, k < n → ∃ m : Nat, m < 2 ^ 31 ∧ A 105 (4 * d + k) = Int32.ofNat m) → A' 103 d = Int32.ofNat cap ∧ A' 104 d = Int32.ofNat (n - one (A 127 j = Int32.ofNat d) + one (A 128 j = Int32.ofNat d)) ∧ A' 106 d = Int32.ofNat (pp - one (A 128 j = Int32.ofNat d)) ∧ A' 107 d = Int32.ofNat (pr - one (A 127 j = Int32.ofNat d)) ∧ ∀ k, k < n - one (A 127 j = Int32.ofNat d) + one (A 128 j = Int32.ofNat d) → ∃ m : Nat, m < 2 ^ 31 ∧ A' 105 (4 * d + k) = Int32.ofNat m) : Inv A' := by
  obtain ⟨J, hJ, eJ, hj, hA, hS, hZ, hD⟩ := hI
  have ho : ∀ b, b < 3 → b ≠ a → ∀ k, 113 ≤ k → k ≤ 116 → A' k b = A k b := fun b hb hba k q1 q2 => fo _ _ (rdk (by omega)) (by omega) (by omega)
  have hcnt : ∀ f d, f = 127 ∨ f = 128 → cntB A f d = cntB A' f d + one (A f j = Int32.ofNat d) := fun f d hf => by
    have := cnt_add (A := A') (A' := A) (f := f) (d := d) ha f114 h0 hj0 (fun b hb hba => ⟨(ho b hb hba 114 (by decide) (by decide)).symm, (ho b hb hba 113 (by decide) (by decide)).symm⟩) (fun i => (fo _ _ (rdk (by omega)) (by omega) (by omega)).symm)
    rw [fo f j (rdk (by omega)) (by omega) (by omega)] at this
    exact this
  have hha : hold A' a = 0 := hold_0 f114
  have hhb : ∀ b, b < 3 → b ≠ a → hold A' b = hold A b := fun b hb hba => hold_kp (ho b hb hba _ (by decide) (by decide)) (ho b hb hba _ (by decide) (by decide)) (ho b hb hba _ (by decide) (by decide)) (fo _ _ (rdk (by decide)) (by omega) (by omega)) (fo _ _ (rdk (by decide)) (by omega) (by omega))
  refine ⟨J, hJ, (fo 40 34 (Or.inl ⟨rfl, rfl⟩) (by omega) (by omega)).trans eJ, fun i q => (hj i q).kp (fun k u v => fo _ _ (rdk (by omega)) (by omega) (by omega)), fun b q => ?_, fun d q => ?_, hZ.kp (fun z _ => fo _ _ (rdk (by decide)) (by omega) (by omega)), fun b d hb hd' hbd => ?_⟩
  · by_cases e : b = a
    · subst e
      obtain ⟨-, r, g2, g3, g4⟩ := hA b q
      refine ⟨Or.inl ⟨f114, f113, f115, f116⟩, r, (fo _ _ (rdk (by decide)) (by omega) (by omega)).trans g2, g3, fun k hk => ?_⟩
      obtain ⟨i, i1, i2⟩ := g4 k hk
      exact ⟨i, i1, (fo _ _ (rdk (by decide)) (by omega) (by omega)).trans i2⟩
    · exact (hA b q).kp (Nat.le_refl _) hJ (fun k u v w => fo _ _ (rdk (by omega)) (by omega) (by omega)) (fun k hk => fo _ _ (rdk (by decide)) (by omega) (by omega)) (fun i _ => fo _ _ (rdk (by decide)) (by omega) (by omega))
  · obtain ⟨cap, n, pp, pr, g1, g2, g3, g4, g5, g6, g7, g8, g9, g10⟩ := hS d q
    have c1 := hcnt 128 d (by decide)
    have c2 := hcnt 127 d (by decide)
    obtain ⟨u1, u2, u3, u4, u5⟩ := fS d q cap n pp pr g1 g2 g3 g4 g5 g6 g7 (by omega) (by omega) g10
    exact ⟨cap, _, _, _, u1, u2, u3, u4, g5, by omega, by omega, by omega, by omega, u5⟩
  · by_cases e1 : b = a
    · rw [e1, hha, Int32.zero_and]
    · by_cases e2 : d = a
      · rw [e2, hha, Int32.and_zero]
      · rw [hhb b hb e1, hhb d hd' e2]
        exact hD b d hb hd' hbd
theorem ofsub {a b : Nat} (h : b ≤ a) : Int32.ofNat a - Int32.ofNat b = Int32.ofNat (a - b) := (Int32.ofNat_sub a b h).symm
theorem cnt_ge {A : St} {f d a j : Nat} (ha : a < 3) (h1 : A 114 a ≠ 0) (hj : ajob A a = j) : one (A f j = Int32.ofNat d) ≤ cntB A f d := by
  have e : one (A f j = Int32.ofNat d) ≤ one (A 114 a ≠ 0 ∧ A f (ajob A a) = Int32.ofNat d) := by
    rw [hj]
    unfold one
    by_cases w : A f j = Int32.ofNat d
    · rw [if_pos w, if_pos ⟨h1, w⟩]
      exact Nat.le_refl _
    · rw [if_neg w]
      exact Nat.zero_le _
  unfold cntB
  match a, ha with
  | 0, _ => omega
  | 1, _ => omega
  | 2, _ => omega
theorem ej_sim {c : Fin 10} {N : Nat} {x0 y0 x y : Mem} {p : Nat → Int32} {A : St} (h : Ins c N x0 y0 p x y) (hW : InvW (V y)) (hI : Inv A) {a : Nat} (hA : ∀ k s, RdK k s → ¬ (k = 116 ∧ s = a) → V y k s = A k s) (ha : a < 3) (h1 : V y 114 a ≠ 0) (hN : N < 2 ^ 29) : ∃ x' y', m_X1_endJob c (c, Fin.ofNat 4 a) x = some x' ∧ m_X12_ends (Int32.ofNat a) y = some y' ∧ Ins c (N + 2) x0 y0 p x' y' ∧ Inv (V y') ∧ XF x x' ∧ YF y y' := by
  obtain ⟨j, q, pa, n, h30, hJ, a113, a115, a123, a124, hp, hq, -⟩ := hW.act ha h1
  have hn5 := hp.2.1
  obtain ⟨J, hJ30, eJ, hj, hAr, hS, -, -⟩ := id hW
  have hJ' := hJ
  rw [eJ, tn (by omega)] at hJ'
  obtain ⟨-, -, -, hb1, hb2⟩ := hj j hJ'
  obtain ⟨-, k1, k2, k3, -, k5, k6, -, k8, -⟩ := h.1.2.2.2.2.2 j (by rw [ov_ne (by decide)]; exact hJ)
  obtain ⟨-, g2, g3, g4, -⟩ := h.1.2.2.2.1 a ha
  have ej : ajob (V y) a = j := by unfold ajob; rw [a113, tn (by omega)]
  have ezx : m_X5_zoneAt (c, Fin.ofNat 31 j) (Int32.ofNat q) x = some (Int32.ofNat (dgt pa n q)) := zone_x (by rw [f31 h30]; exact k1.trans ((ov_ne (by decide)).trans a123)) (by rw [f31 h30]; exact k2.trans ((ov_ne (by decide)).trans a124)) hp hq
  obtain ⟨M, x7, eadd, enote, hL, oL⟩ := h.log (by omega) (Int32.ofNat a) 3 (Int32.ofNat (dgt pa n q))
  generalize hy7 : nY y M (Int32.ofNat a) 3 (Int32.ofNat (dgt pa n q)) = y7 at hL
  have o7 : ∀ k d i s, k ≠ 132 → ¬ (k = 40 ∧ s = 40) → y7 k d i s = y k d i s := fun k d i s q1 q2 => by rw [← hy7]; exact nY_o ⟨q1, q2⟩
  have e127 : y7 127 0 0 j = V y 127 j := o7 _ _ _ _ (by omega) (by omega)
  have e128 : y7 128 0 0 j = V y 128 j := o7 _ _ _ _ (by omega) (by omega)
  -- the buffers' numbers
  have hajA : ajob A a = j := by
    unfold ajob
    rw [← hA 113 a (rdk (by decide)) (by omega)]
    exact ej
  have hA1 : A 114 a ≠ 0 := by rw [← hA 114 a (rdk (by decide)) (by omega)]; exact h1
  have hcntp : ∀ f d, f = 127 ∨ f = 128 → d < 3 → one (V y f j = Int32.ofNat d) ≤ cntB (V y) f d := fun f d _ _ => cnt_ge ha h1 ej
  have hs1 : ∀ d, d < 3 → ∃ n : Nat, y7 104 0 0 d = Int32.ofNat n ∧ n ≤ 4 ∧ (y7 127 0 0 j = Int32.ofNat d → 1 ≤ n) ∧ ∀ k, k < n → ∃ m : Nat, m < 2 ^ 31 ∧ y7 105 0 0 (4 * d + k) = Int32.ofNat m := fun d hd => by
    obtain ⟨cap, n, pp, pr, u1, u2, u3, u4, u5, u6, u7, u8, u9, u10⟩ := hS d hd
    refine ⟨n, (o7 _ _ _ _ (by omega) (by omega)).trans u2, by omega, fun w => ?_, fun k hk => by rw [o7 _ _ _ _ (by omega) (by omega)]; exact u10 k hk⟩
    have := hcntp 127 d (by omega) hd
    rw [on_t (by rw [← e127]; exact w)] at this
    omega
  obtain ⟨pv, x1, y1, cl1, rf1, hI1, hpv, fx1, fy1, fs1⟩ := pt1 (c := c) hL (a := a) (j := j) (tm := y 40 0 0 33) (w37 := y 40 0 0 37 + 1) (w39 := y 40 0 0 39 + (y 40 0 0 33 - y 130 0 0 j)) (by rw [e127]; exact hb1) hs1
  have f127 : y1 127 0 0 j = V y 127 j := (fy1 _ _ _ _ (by omega)).trans e127
  have f128 : y1 128 0 0 j = V y 128 j := (fy1 _ _ _ _ (by omega)).trans e128
  have x15 : x1 12 c j 5 = y1 127 0 0 j := by rw [f127, fx1 _ _ _ _ (by omega), oL _ _ _ _ (by omega)]; exact k5.trans (ov_ne (by decide))
  have x16 : x1 12 c j 6 = y1 128 0 0 j := by rw [f128, fx1 _ _ _ _ (by omega), oL _ _ _ _ (by omega)]; exact k6.trans (ov_ne (by decide))
  have hs2 : ∀ d, d < 3 → ∃ n : Nat, y1 104 0 0 d = Int32.ofNat n ∧ n ≤ 4 ∧ (y1 128 0 0 j = Int32.ofNat d → n < 4) := fun d hd => by
    obtain ⟨cap, n, pp, pr, u1, u2, u3, u4, u5, u6, u7, u8, u9, u10⟩ := hS d hd
    obtain ⟨v1, -, -⟩ := fs1 d hd n ((o7 _ _ _ _ (by omega) (by omega)).trans u2) (by omega)
    refine ⟨_, v1, by omega, fun w => ?_⟩
    have := hcntp 128 d (by omega) hd
    rw [on_t (by rw [← f128]; exact w)] at this
    omega
  obtain ⟨x2, y2, cl2, rf2, hI2, fx2, fy2, fs2⟩ := pt2 (c := c) hI1 (a := a) (j := j) (tm := y 40 0 0 33) (w37 := y 40 0 0 37 + 1) (w39 := y 40 0 0 39 + (y 40 0 0 33 - y 130 0 0 j)) (pv := pv) h30 ha x15 x16 (by rw [f128]; exact hb2) hs2 (by rw [f127]; rw [e127] at hpv; exact hpv) (by omega)
  have oX2 : ∀ k d i s, ¬ (6 ≤ k ∧ k ≤ 10) → ¬ (k = 2 ∧ (s = 4 ∨ s = 5)) → x2 k d i s = x k d i s := fun k d i s q1 q2 => (fx2 _ _ _ _ (by omega) q2).trans ((fx1 _ _ _ _ (by omega)).trans (oL _ _ _ _ (by omega)))
  have oY2 : ∀ k d i s, k ≠ 132 → ¬ (104 ≤ k ∧ k ≤ 109) → ¬ (k = 40 ∧ (s = 35 ∨ s = 36 ∨ s = 40)) → y2 k d i s = y k d i s := fun k d i s q1 q2 q3 => (fy2 _ _ _ _ (by omega) (by omega)).trans ((fy1 _ _ _ _ (by omega)).trans (o7 _ _ _ _ q1 (by omega)))
  -- the job, the numbers, the arm
  have hI3 := (((hI2.job3 (f := 7) (K := 129) (v := 2) h30 (by omega)).job3 (f := 9) (K := 131) (v := y 40 0 0 33) h30 (by omega)).sca (f := 2) (K := 37) (v := y 40 0 0 37 + 1) (by omega)).sca (f := 6) (K := 39) (v := y 40 0 0 39 + (y 40 0 0 33 - y 130 0 0 j)) (by omega)
  generalize hX : up4 (up4 (up4 (up4 x2 12 c j 7 2) 12 c j 9 (y 40 0 0 33)) 2 c 0 2 (y 40 0 0 37 + 1)) 2 c 0 6 (y 40 0 0 39 + (y 40 0 0 33 - y 130 0 0 j)) = X at hI3
  have ff114 : GJ a j (y 40 0 0 33) (y 40 0 0 37 + 1) (y 40 0 0 39 + (y 40 0 0 33 - y 130 0 0 j)) y2 114 0 0 a = 0 := by
    unfold GJ
    rw [up4_ne (by omega), up4_ne (by omega), up4_ne (by omega), up4_ne (by omega), up4_ne (by omega), up4_ne (by omega), up4_ne (by omega), up4_eq]
  have ff113 : GJ a j (y 40 0 0 33) (y 40 0 0 37 + 1) (y 40 0 0 39 + (y 40 0 0 33 - y 130 0 0 j)) y2 113 0 0 a = -1 := by
    unfold GJ
    rw [up4_ne (by omega), up4_ne (by omega), up4_ne (by omega), up4_ne (by omega), up4_ne (by omega), up4_ne (by omega), up4_eq]
  have ff115 : GJ a j (y 40 0 0 33) (y 40 0 0 37 + 1) (y 40 0 0 39 + (y 40 0 0 33 - y 130 0 0 j)) y2 115 0 0 a = 0 := by
    unfold GJ
    rw [up4_ne (by omega), up4_ne (by omega), up4_ne (by omega), up4_ne (by omega), up4_ne (by omega), up4_eq]
  have ff116 : GJ a j (y 40 0 0 33) (y 40 0 0 37 + 1) (y 40 0 0 39 + (y 40 0 0 33 - y 130 0 0 j)) y2 116 0 0 a = 0 := by
    unfold GJ
    rw [up4_ne (by omega), up4_ne (by omega), up4_ne (by omega), up4_ne (by omega), up4_eq]
  have hfin : Ins c (N + 2) x0 y0 p (up4 (up4 (up4 (up4 (up4 X 0 c a 2 0) 0 c a 3 (-1)) 0 c a 4 0) 0 c a 5 0) 0 c a 6 0) (GJ a j (y 40 0 0 33) (y 40 0 0 37 + 1) (y 40 0 0 39 + (y 40 0 0 33 - y 130 0 0 j)) y2) := hI3.grp (a := a) (fun k d i s w => by rw [up4_ne (by omega), up4_ne (by omega), up4_ne (by omega), up4_ne (by omega), up4_ne (by omega)]) (fun k d i s w => GJ_off w) (by rw [ff114, up4_ne (by omega), up4_ne (by omega), up4_ne (by omega), up4_ne (by omega), up4_eq]) (by rw [ff113, up4_ne (by omega), up4_ne (by omega), up4_ne (by omega), up4_eq]) (by rw [ff115, up4_ne (by omega), up4_ne (by omega), up4_eq]) (by rw [ff116, up4_ne (by omega), up4_eq]) (by rw [up4_eq]; exact (hold_0 ff114).symm)
  have oG : ∀ k d i s, ¬ (113 ≤ k ∧ k ≤ 116 ∧ s = a) → ¬ (129 ≤ k ∧ k ≤ 132) → ¬ (k = 40 ∧ 35 ≤ s ∧ s ≤ 40) → ¬ (104 ≤ k ∧ k ≤ 109) → GJ a j (y 40 0 0 33) (y 40 0 0 37 + 1) (y 40 0 0 39 + (y 40 0 0 33 - y 130 0 0 j)) y2 k d i s = y k d i s := fun k d i s w1 w2 w3 w4 => (GJ_o (by omega)).trans (oY2 _ _ _ _ (by omega) w4 (by omega))
  refine ⟨_, _, ?_, ?_, hfin, ?_, fun k b i s w => ?_, ⟨fun s => oG _ _ _ _ (by omega) (by omega) (by omega) (by omega), fun s => oG _ _ _ _ (by omega) (by omega) (by omega) (by omega), oG _ _ _ _ (by omega) (by omega) (by omega) (by omega)⟩⟩
  · unfold m_X1_endJob m_X1_moveParts m_X0_rest
    simp only [f4 ha]
    rw [show x 0 c a 3 = Int32.ofNat j from g3.trans ((ov_ne (by decide)).trans a113), show x 0 c a 4 = Int32.ofNat q from g4.trans ((ov_ne (by decide)).trans a115), job_at h30, e_bd, ezx, e_bd, ins_x2 h, show x 0 c a 0 = Int32.ofNat a from (h.2.1 c c.isLt).2 a ha, eadd, e_bd]
    simp only [f31 h30]
    rw [e_lt, show x7 12 c j 5 = y7 127 0 0 j by rw [e127, oL _ _ _ _ (by omega)]; exact k5.trans (ov_ne (by decide)), cl1 (fun v m => m_X1_moveParts_j34 c (c, Fin.ofNat 31 j) v m), cl2, e_bd, e_lt, e_lt, up4_ne (k' := 2) (by omega), show x2 2 c 0 0 = y 40 0 0 33 from (oX2 _ _ _ _ (by omega) (by omega)).trans (ins_x2 h), e_lt, up4_ne (k' := 2) (s' := 2) (by omega), up4_ne (k' := 2) (s' := 2) (by omega), show x2 2 c 0 2 = y 40 0 0 37 from (oX2 _ _ _ _ (by omega) (by omega)).trans (h.1.1.2.2.1.trans (ov_ne (by decide))), e_lt, up4_ne (k' := 2) (s' := 6) (by omega), up4_ne (k' := 2) (s' := 6) (by omega), up4_ne (k' := 2) (s' := 6) (by omega), show x2 2 c 0 6 = y 40 0 0 39 from (oX2 _ _ _ _ (by omega) (by omega)).trans (h.1.1.2.2.2.2.2.2.trans (ov_ne (by decide))), up4_ne (k' := 12) (s' := 9) (by omega), up4_eq (k := 12), up4_ne (k' := 12) (s' := 8) (by omega), up4_ne (k' := 12) (s' := 8) (by omega), up4_ne (k' := 12) (s' := 8) (by omega), show x2 12 c j 8 = y 130 0 0 j from (oX2 _ _ _ _ (by omega) (by omega)).trans (k8.trans (ov_ne (by decide))), hX, e_lt, e_lt, e_lt, e_lt, e_lt, e_bd]
  · unfold m_X12_ends m_X12_zoneOf
    rw [gd_n ha (by decide), e_lt, gd_n ha (by decide), tn (show a < 2 ^ 31 by omega), show y 113 0 0 a = Int32.ofNat j from a113, show y 115 0 0 a = Int32.ofNat q from a115, zone_y h30 a123 a124 hp hq, e_bd, e_bd, enote y rfl, e_bd, hy7, e_lt, e_lt, e_lt, e_lt, gd_n h30 (by decide), e_lt, e_lt, e_lt, e_lt, tn (show j < 2 ^ 31 by omega)]
    have e16 : up4 (up4 (up4 (up4 (up4 (up4 (up4 (up4 y7 114 0 0 a 0) 113 0 0 a (-1)) 115 0 0 a 0) 116 0 0 a 0) 129 0 0 j 2) 131 0 0 j (y 40 0 0 33)) 40 0 0 37 (y 40 0 0 37 + 1)) 40 0 0 39 (y 40 0 0 39 + (y 40 0 0 33 - y 130 0 0 j)) = GJ a j (y 40 0 0 33) (y 40 0 0 37 + 1) (y 40 0 0 39 + (y 40 0 0 33 - y 130 0 0 j)) y7 := rfl
    have r33 : ∀ t, t ≠ 40 → up4 (up4 (up4 (up4 (up4 y7 114 0 0 a 0) 113 0 0 a (-1)) 115 0 0 a 0) 116 0 0 a 0) 129 0 0 j 2 40 0 0 t = y 40 0 0 t := fun t ht => by rw [up4_ne (by omega), up4_ne (by omega), up4_ne (by omega), up4_ne (by omega), up4_ne (by omega)]; exact o7 _ _ _ _ (by omega) (by omega)
    have r130 : up4 (up4 (up4 (up4 (up4 y7 114 0 0 a 0) 113 0 0 a (-1)) 115 0 0 a 0) 116 0 0 a 0) 129 0 0 j 2 130 0 0 j = y 130 0 0 j := by rw [up4_ne (by omega), up4_ne (by omega), up4_ne (by omega), up4_ne (by omega), up4_ne (by omega)]; exact o7 _ _ _ _ (by omega) (by omega)
    generalize up4 (up4 (up4 (up4 (up4 y7 114 0 0 a 0) 113 0 0 a (-1)) 115 0 0 a 0) 116 0 0 a 0) 129 0 0 j 2 = u at e16 r33 r130 ⊢
    rw [r33 33 (by omega), up4_ne (k := 131) (k' := 40) (s' := 37) (by omega), r33 37 (by omega), up4_ne (k := 40) (s := 37) (s' := 39) (by omega), up4_ne (k := 131) (k' := 40) (s' := 39) (by omega), r33 39 (by omega), up4_ne (k := 40) (s := 37) (s' := 33) (by omega), up4_ne (k := 131) (k' := 40) (s' := 33) (by omega), r33 33 (by omega), up4_ne (k := 40) (s := 37) (k' := 130) (by omega), up4_ne (k := 131) (k' := 130) (by omega), r130, e16, show GJ a j (y 40 0 0 33) (y 40 0 0 37 + 1) (y 40 0 0 39 + (y 40 0 0 33 - y 130 0 0 j)) y7 127 0 0 j = y7 127 0 0 j from GJ_o (by omega), rf1 (fun v m => m_X12_ends_j116 (Int32.ofNat a) (Int32.ofNat j) v m)]
    exact rf2
  · have oV : ∀ k s, V (GJ a j (y 40 0 0 33) (y 40 0 0 37 + 1) (y 40 0 0 39 + (y 40 0 0 33 - y 130 0 0 j)) y2) k s = GJ a j (y 40 0 0 33) (y 40 0 0 37 + 1) (y 40 0 0 39 + (y 40 0 0 33 - y 130 0 0 j)) y2 k 0 0 s := fun _ _ => rfl
    have b127 : A 127 j = V y 127 j := (hA 127 j (rdk (by decide)) (by omega)).symm
    have b128 : A 128 j = V y 128 j := (hA 128 j (rdk (by decide)) (by omega)).symm
    refine hI.stop (A' := V (GJ a j (y 40 0 0 33) (y 40 0 0 37 + 1) (y 40 0 0 39 + (y 40 0 0 33 - y 130 0 0 j)) y2)) ha hA1 hajA ff113 ff114 ff115 ff116 (fun k s w1 w2 w3 => ?_) (fun d hd cap n pp pr u1 u2 u3 u4 u5 u6 u7 u8 u9 u10 => ?_)
    · have w4 := w1
      unfold RdK at w4
      rw [oV, oG _ _ _ _ w2 (by omega) (by omega) (by omega)]
      exact hA k s w1 (by omega)
    · rw [b127] at u9 ⊢
      rw [b128] at u8 ⊢
      have v2 : y 104 0 0 d = Int32.ofNat n := (hA 104 d (rdk (by decide)) (by omega)).trans u2
      have v3 : y 106 0 0 d = Int32.ofNat pp := (hA 106 d (rdk (by decide)) (by omega)).trans u3
      have v4 : y 107 0 0 d = Int32.ofNat pr := (hA 107 d (rdk (by decide)) (by omega)).trans u4
      obtain ⟨s1a, s1b, s1c⟩ := fs1 d hd n ((o7 _ _ _ _ (by omega) (by omega)).trans v2) (by omega)
      rw [e127] at s1a s1b s1c
      obtain ⟨s2a, s2b, s2c, s2d⟩ := fs2 d hd _ s1a (by omega)
      rw [f128] at s2a s2b s2d
      simp only [oV]
      refine ⟨?_, ?_, ?_, ?_, fun k hk => ?_⟩
      · rw [GJ_o (by omega), oY2 _ _ _ _ (by omega) (by omega) (by omega)]
        exact (hA 103 d (rdk (by decide)) (by omega)).trans u1
      · rw [GJ_o (by omega)]
        exact s2a
      · rw [GJ_o (by omega), s2b, fy1 _ _ _ _ (by omega), o7 _ _ _ _ (by omega) (by omega), v3, ofsub u8]
      · rw [GJ_o (by omega), fy2 _ _ _ _ (by omega) (by omega), s1b, o7 _ _ _ _ (by omega) (by omega), v4, ofsub u9]
      · rw [GJ_o (by omega)]
        by_cases hk2 : k < n - one (V y 127 j = Int32.ofNat d)
        · rw [s2c k hk2, s1c k hk2, o7 _ _ _ _ (by omega) (by omega)]
          obtain ⟨m, m1, m2⟩ := u10 (k + one (V y 127 j = Int32.ofNat d)) (by omega)
          exact ⟨m, m1, (hA 105 _ (rdk (by decide)) (by omega)).trans m2⟩
        · have hone : one (V y 128 j = Int32.ofNat d) = 1 := by
            have := one_le (V y 128 j = Int32.ofNat d)
            omega
          have hv : V y 128 j = Int32.ofNat d := by
            by_cases w : V y 128 j = Int32.ofNat d
            · exact w
            · rw [on_f w] at hone
              exact absurd hone (by decide)
          have hkn : k = n - one (V y 127 j = Int32.ofNat d) := by omega
          rw [hkn]
          exact s2d hv
  · rw [up4_ne (by omega), up4_ne (by omega), up4_ne (by omega), up4_ne (by omega), up4_ne (by omega), ← hX, up4_ne (by omega), up4_ne (by omega), up4_ne (by omega), up4_ne (by omega)]
    exact oX2 _ _ _ _ (by omega) (by omega)
