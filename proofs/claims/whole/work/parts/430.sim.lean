/-! MOVES -/
theorem ArmW.kp {A A' : St} {J a : Nat} (h : ArmW A J a) (hJ30 : J ≤ 30) (hA : ∀ k, 111 ≤ k → k ≤ 115 → k ≠ 112 → A' k a = A k a) (hr : ∀ k, k < 30 → A' 112 (30 * a + k) = A 112 (30 * a + k)) (h4 : ∀ j, j < J → A' 124 j = A 124 j) : ArmW A' J a := by
  obtain ⟨g, r, g2, g3, g4⟩ := h
  refine ⟨?_, r, by rw [hA 111 (by decide) (by decide) (by decide)]; exact g2, g3, fun k hk => by rw [hr k (by omega)]; exact g4 k hk⟩
  rw [hA 113 (by decide) (by decide) (by decide), hA 114 (by decide) (by decide) (by decide), hA 115 (by decide) (by decide) (by decide)]
  refine g.imp id fun ⟨j, p, n, w1, w2, w3, w4, w5⟩ => ⟨j, p, n, w1, ?_, ?_, ?_, ?_⟩
  · rw [hA 113 (by decide) (by decide) (by decide)]; exact w2
  · rw [hA 115 (by decide) (by decide) (by decide)]; exact w3
  · rw [h4 j w1]; exact w4
  · rw [hA 114 (by decide) (by decide) (by decide)]; exact w5
theorem cnt_same {A A' : St} {f d : Nat} (h : ∀ b, b < 3 → (A' 114 b ≠ 0 ↔ A 114 b ≠ 0) ∧ A' 113 b = A 113 b) (hf : ∀ i, A' f i = A f i) : cntB A' f d = cntB A f d := by
  have e : ∀ b, b < 3 → one (A' 114 b ≠ 0 ∧ A' f (ajob A' b) = Int32.ofNat d) = one (A 114 b ≠ 0 ∧ A f (ajob A b) = Int32.ofNat d) := fun b hb => by
    unfold ajob
    rw [(h b hb).2, hf]
    unfold one
    by_cases q : A 114 b ≠ 0 ∧ A f (A 113 b).toNatClampNeg = Int32.ofNat d
    · rw [if_pos q, if_pos ⟨(h b hb).1.mpr q.1, q.2⟩]
    · rw [if_neg q, if_neg (fun w => q ⟨(h b hb).1.mp w.1, w.2⟩)]
  unfold cntB
  rw [e 0 (by decide), e 1 (by decide), e 2 (by decide)]
/-- an arm that has a job goes on with it -/
theorem Inv.go {A A' : St} {a : Nat} (hI : Inv A) (ha : a < 3) (h0 : A 114 a ≠ 0) (f114 : A' 114 a ≠ 0) (f113 : A' 113 a = A 113 a) (fo : ∀ k s, RdK k s → ¬ (113 ≤ k ∧ k ≤ 116 ∧ s = a) → A' k s = A k s) (hact : ∀ J, J ≤ 30 → A 40 34 = Int32.ofNat J → ActOk A' J a) (hd : ∀ b, b < 3 → b ≠ a → hold A b &&& hold A' a = 0) : Inv A' := by
  obtain ⟨J, hJ, eJ, hj, hA, hS, hZ, hD⟩ := hI
  have ho : ∀ b, b < 3 → b ≠ a → ∀ k, 113 ≤ k → k ≤ 116 → A' k b = A k b := fun b hb hba k q1 q2 => fo _ _ (rdk (by omega)) (by omega)
  have hcnt : ∀ f d, f = 127 ∨ f = 128 → cntB A' f d = cntB A f d := fun f d hf => cnt_same (fun b hb => by
    by_cases e : b = a
    · subst e
      exact ⟨⟨fun _ => h0, fun _ => f114⟩, f113⟩
    · rw [ho b hb e 114 (by decide) (by decide)]
      exact ⟨Iff.rfl, ho b hb e 113 (by decide) (by decide)⟩) (fun i => fo _ _ (rdk (by omega)) (by omega))
  have hhb : ∀ b, b < 3 → b ≠ a → hold A' b = hold A b := fun b hb hba => hold_kp (ho b hb hba _ (by decide) (by decide)) (ho b hb hba _ (by decide) (by decide)) (ho b hb hba _ (by decide) (by decide)) (fo _ _ (rdk (by decide)) (by omega)) (fo _ _ (rdk (by decide)) (by omega))
  refine ⟨J, hJ, (fo 40 34 (Or.inl ⟨rfl, rfl⟩) (by omega)).trans eJ, fun i q => (hj i q).kp (fun k u v => fo _ _ (rdk (by omega)) (by omega)), fun b q => ?_, fun d q => (hS d q).kp (fun k u v w => fo _ _ (rdk (by omega)) (by omega)) (fun k u => fo _ _ (rdk (by decide)) (by omega)) (hcnt _ _ (by decide)) (hcnt _ _ (by decide)), hZ.kp (fun z _ => fo _ _ (rdk (by decide)) (by omega)), fun b d hb hd' hbd => ?_⟩
  · by_cases e : b = a
    · subst e
      obtain ⟨-, r, g2, g3, g4⟩ := hA b q
      refine ⟨Or.inr (hact J hJ eJ), r, (fo _ _ (rdk (by decide)) (by omega)).trans g2, g3, fun k hk => ?_⟩
      obtain ⟨i, i1, i2⟩ := g4 k hk
      exact ⟨i, i1, (fo _ _ (rdk (by decide)) (by omega)).trans i2⟩
    · exact (hA b q).kp (Nat.le_refl _) hJ (fun k u v w => fo _ _ (rdk (by omega)) (by omega)) (fun k hk => fo _ _ (rdk (by decide)) (by omega)) (fun i _ => fo _ _ (rdk (by decide)) (by omega))
  · by_cases e1 : b = a
    · have e2 : d ≠ a := fun e => hbd (e1.trans e.symm)
      rw [e1, hhb d hd' e2, Int32.and_comm]
      exact hd d hd' e2
    · rw [hhb b hb e1]
      by_cases e2 : d = a
      · rw [e2]
        exact hd b hb e1
      · rw [hhb d hd' e2]
        exact hD b d hb hd' hbd
theorem hbo_x {x : Mem} {c : Fin 10} {h : Nat → Int32} {a : Nat} (ha : a < 3) (hn : x 0 c a 0 = Int32.ofNat a) (h6 : ∀ b, b < 3 → x 0 c b 6 = h b) : ∀ (m t : Nat), t ≤ 3 → 3 < t + m → m_X1_heldByOthers_l4 c (c, Fin.ofNat 4 a) m (othT h (fun _ => true) a t) (Int32.ofNat t) x = some (othT h (fun _ => true) a 3) := by
  intro m
  induction m with
  | zero => intro t h1 h2; omega
  | succ m ih =>
    intro t h1 h2
    show m_X1_heldByOthers_b4 c (c, Fin.ofNat 4 a) (m_X1_heldByOthers_l4 c (c, Fin.ofNat 4 a) m) _ (Int32.ofNat t) x = _
    unfold m_X1_heldByOthers_b4 m_X1_heldByOthers_j28
    by_cases ht : t = 3
    · subst ht
      rw [if_pos (by decide)]
    have h3 : t < 3 := by omega
    have hnext := ih (t + 1) (by omega) (by omega)
    rw [show othT h (fun _ => true) a (t + 1) = othT h (fun _ => true) a t ||| (if t ≠ a ∧ true = true then h t else 0) from rfl] at hnext
    simp only [f4 ha]
    rw [if_neg (le3 h3), hn]
    by_cases hta : t = a
    · rw [if_pos (by rw [hta]), e_lt, n1]
      rw [if_neg (fun q => q.1 hta), Int32.or_zero] at hnext
      exact hnext
    · rw [if_neg (fun q => hta ((eq_n (by omega) (by omega)).mp q)), arm_at h3, e_bd]
      simp only [f4 h3]
      rw [h6 t h3, e_lt, e_lt, n1]
      rw [if_pos ⟨hta, rfl⟩] at hnext
      exact hnext
theorem bes_y {y : Mem} {h : Nat → Int32} {a : Nat} {z : Int32} (ha : a < 3) (hh : ∀ b, b < 3 → b ≠ a → m_X12_holds (Int32.ofNat b) y = some (h b)) : ∀ (m t : Nat), t ≤ 3 → 3 < t + m → m_X12_isBeside_l5 (Int32.ofNat a) z m (othT h (fun _ => true) a t) (Int32.ofNat t) y = (if (othT h (fun _ => true) a 3 &&& ((shl32 (1 : Int32) (z + (1 : Int32))) ||| (sar32 (shl32 (1 : Int32) z) (1 : Int32)))) = 0 then some (0 : Int32) else some (1 : Int32)) := by
  intro m
  induction m with
  | zero => intro t h1 h2; omega
  | succ m ih =>
    intro t h1 h2
    show m_X12_isBeside_b5 (Int32.ofNat a) z (m_X12_isBeside_l5 (Int32.ofNat a) z m) _ (Int32.ofNat t) y = _
    unfold m_X12_isBeside_b5 m_X12_isBeside_j28
    by_cases ht : t = 3
    · subst ht
      rw [if_pos (by decide)]
    have h3 : t < 3 := by omega
    have hnext := ih (t + 1) (by omega) (by omega)
    rw [show othT h (fun _ => true) a (t + 1) = othT h (fun _ => true) a t ||| (if t ≠ a ∧ true = true then h t else 0) from rfl] at hnext
    rw [if_neg (le3 h3)]
    by_cases hta : t = a
    · rw [if_pos (by rw [hta]), e_lt, e_lt, n1]
      rw [if_neg (fun q => q.1 hta)] at hnext
      exact hnext
    · rw [if_neg (fun q => hta ((eq_n (by omega) (by omega)).mp q)), hh t h3 hta, e_bd, e_lt, e_lt, n1]
      rw [if_pos ⟨hta, rfl⟩] at hnext
      exact hnext
theorem divw {w : Nat} (hw : w ≤ 9) : (1 : Int32) + Int32.ofNat w / 4 = Int32.ofNat (1 + w / 4) := by
  rw [show (4 : Int32) = Int32.ofNat 4 from rfl, div_n (by omega) (by decide), Int32.ofNat_add]
  rfl
theorem mv_sim {c : Fin 10} {N : Nat} {x0 y0 x y : Mem} {p : Nat → Int32} {A : St} (h : Ins c N x0 y0 p x y) (hW : InvW (V y)) (hI : Inv A) {a : Nat} (hA : ∀ k s, RdK k s → ¬ (k = 116 ∧ s = a) → V y k s = A k s) (ha : a < 3) {j q : Nat} (h0 : V y 114 a = 1 ∨ V y 114 a = 3) (h30 : j < 30) (hJ : j < (V y 40 34).toNatClampNeg) (a113 : V y 113 a = Int32.ofNat j) (a115 : V y 115 a = Int32.ofNat q) (hq : q + 1 < (V y 124 j).toNatClampNeg) (hC : ∀ b, b < 3 → b ≠ a → hold (V y) b &&& con (V y) (znA (V y) j (q + 1)) = 0) (hN : N < 2 ^ 30) : ∃ z x' y', m_X12_zoneAt (Int32.ofNat j) (Int32.ofNat q + 1) y = some z ∧ m_X1_startMove c (c, Fin.ofNat 4 a) x = some x' ∧ (gd_ (Int32.ofNat j) 30 (bd_ (m_X12_isBeside (Int32.ofNat a) z (up4 y 114 0 0 a 2)) fun r13 => if r13 = 0 then (m_X12_requestsNext_j90 (Int32.ofNat a) z (0 : Int32) ((1 : Int32) + (((up4 y 114 0 0 a 2) 126 0 0 (Int32.ofNat j).toNatClampNeg) / (4 : Int32))) (Int32.ofNat a) (up4 y 114 0 0 a 2)) else (m_X12_requestsNext_j90 (Int32.ofNat a) z (1 : Int32) ((1 : Int32) + (((up4 y 114 0 0 a 2) 126 0 0 (Int32.ofNat j).toNatClampNeg) / (4 : Int32))) (Int32.ofNat a) (up4 y 114 0 0 a 2)))) = some y' ∧ Ins c (N + 1) x0 y0 p x' y' ∧ Inv (V y') ∧ XF x x' ∧ YF y y' := by
  obtain ⟨J, hJ30, eJ, hj, hAr, -, -, hD⟩ := id hW
  have hJ' := hJ
  rw [eJ, tn (by omega)] at hJ'
  obtain ⟨⟨pa, n, e123, e124, hp⟩, -, ⟨wt, w1, e126⟩, -⟩ := hj j hJ'
  have hn5 := hp.2.1
  have hpl := path_lt hp
  rw [e124, tn (by omega)] at hq
  have hzn : ∀ i, znA (V y) j i = dgt pa n i := fun i => by
    unfold znA
    rw [e123, e124, tn (show n < 2 ^ 31 by omega), tn (show pa < 2 ^ 31 by omega)]
  have hz8 := (dgt_ok hp hq).1
  obtain ⟨-, k1, k2, -, k4, -⟩ := h.1.2.2.2.2.2 j (by rw [ov_ne (by decide)]; exact hJ)
  obtain ⟨-, g2, g3, g4, g5, g6, -⟩ := h.1.2.2.2.1 a ha
  have hnum : x 0 c a 0 = Int32.ofNat a := (h.2.1 c c.isLt).2 a ha
  have h6 : ∀ b, b < 3 → x 0 c b 6 = hold (V y) b := fun b hb => (h.1.2.2.2.1 b hb).2.2.2.2.2.1.trans hold_ov
  have ej : ajob (V y) a = j := by unfold ajob; rw [a113, tn (by omega)]
  have eq' : apos (V y) a = q := by unfold apos; rw [a115, tn (by omega)]
  have hn0 : V y 114 a ≠ 0 := by rcases h0 with w | w <;> rw [w] <;> decide
  have hha : hold (V y) a = bit (dgt pa n q) := by
    unfold hold
    rw [if_neg hn0, if_neg (by rcases h0 with w | w <;> rw [w] <;> decide), ej, eq', hzn]
  have o10 : ∀ k s, ¬ (k = 114 ∧ s = a) → V (up4 y 114 0 0 a 2) k s = V y k s := fun k s w => up4_ne (by omega)
  have hh10 : ∀ b, b < 3 → b ≠ a → m_X12_holds (Int32.ofNat b) (up4 y 114 0 0 a 2) = some (hold (V y) b) := fun b hb hba => by
    rw [holds_w hJ30 (fun i hi => (hj i hi).kp (fun k _ _ => o10 _ _ (by omega))) hb ((hAr b hb).kp hJ30 (fun k _ _ _ => o10 _ _ (by omega)) (fun k _ => o10 _ _ (by omega)) (fun i _ => o10 _ _ (by omega)))]
    rw [hold_kp (A := V y) (o10 _ _ (by omega)) (o10 _ _ (by omega)) (o10 _ _ (by omega)) (o10 _ _ (by omega)) (o10 _ _ (by omega))]
  have hbes := bes_y (z := Int32.ofNat (dgt pa n (q + 1))) ha hh10 FU 0 (Nat.zero_le _) (by unfold FU; omega)
  have hhbo := hbo_x (c := c) ha hnum h6 FU 0 (Nat.zero_le _) (by unfold FU; omega)
  have ezx : m_X5_zoneAt (c, Fin.ofNat 31 j) (Int32.ofNat (q + 1)) x = some (Int32.ofNat (dgt pa n (q + 1))) := zone_x (by rw [f31 h30]; exact k1.trans ((ov_ne (by decide)).trans e123)) (by rw [f31 h30]; exact k2.trans ((ov_ne (by decide)).trans e124)) hp hq
  have ezy : m_X12_zoneAt (Int32.ofNat j) (Int32.ofNat (q + 1)) y = some (Int32.ofNat (dgt pa n (q + 1))) := zone_y h30 e123 e124 hp hq
  -- for either length of the move
  have key : ∀ s : Nat, s ≤ 1 → ∃ x' y', m_X1_startMove_j49 c (c, Fin.ofNat 4 a) (c, Fin.ofNat 31 j) (Int32.ofNat (dgt pa n (q + 1))) (Int32.ofNat s) x = some x' ∧ m_X12_requestsNext_j90 (Int32.ofNat a) (Int32.ofNat (dgt pa n (q + 1))) (Int32.ofNat s) ((1 : Int32) + (((up4 y 114 0 0 a 2) 126 0 0 (Int32.ofNat j).toNatClampNeg) / (4 : Int32))) (Int32.ofNat a) (up4 y 114 0 0 a 2) = some y' ∧ Ins c (N + 1) x0 y0 p x' y' ∧ Inv (V y') ∧ XF x x' ∧ YF y y' := by
    intro s hs
    generalize hX : up4 (up4 (up4 x 0 c a 2 2) 0 c a 5 (Int32.ofNat (1 + wt / 4 + s))) 0 c a 6 (hold (V y) a ||| bit (dgt pa n (q + 1))) = X
    generalize hY : up4 (up4 y 114 0 0 a 2) 116 0 0 a (Int32.ofNat (1 + wt / 4 + s)) = Y
    have oX : ∀ k d i t, ¬ (k = 0 ∧ d = (c : Nat) ∧ i = a ∧ 2 ≤ t ∧ t ≤ 6) → X k d i t = x k d i t := fun k d i t w => by rw [← hX, up4_ne (by omega), up4_ne (by omega), up4_ne (by omega)]
    have oY : ∀ k d i t, ¬ (113 ≤ k ∧ k ≤ 116 ∧ t = a) → Y k d i t = y k d i t := fun k d i t w => by rw [← hY, up4_ne (by omega), up4_ne (by omega)]
    have f113 : Y 113 0 0 a = Int32.ofNat j := by rw [← hY, up4_ne (by omega), up4_ne (by omega)]; exact a113
    have f115 : Y 115 0 0 a = Int32.ofNat q := by rw [← hY, up4_ne (by omega), up4_ne (by omega)]; exact a115
    have f114 : Y 114 0 0 a = 2 := by rw [← hY, up4_ne (by omega), up4_eq]
    have f116 : Y 116 0 0 a = Int32.ofNat (1 + wt / 4 + s) := by rw [← hY, up4_eq]
    have hhY : hold (V Y) a = hold (V y) a ||| bit (dgt pa n (q + 1)) := by
      rw [hha]
      unfold hold
      have e2 : ajob (V Y) a = j := by unfold ajob; rw [show V Y 113 a = Int32.ofNat j from f113, tn (by omega)]
      have e3 : apos (V Y) a = q := by unfold apos; rw [show V Y 115 a = Int32.ofNat q from f115, tn (by omega)]
      have e1 : ∀ i, znA (V Y) j i = dgt pa n i := fun i => by
        rw [← hzn]
        unfold znA
        rw [show V Y 123 j = V y 123 j from oY _ _ _ _ (by omega), show V Y 124 j = V y 124 j from oY _ _ _ _ (by omega)]
      rw [if_neg (by rw [show V Y 114 a = 2 from f114]; decide), if_pos (show V Y 114 a = 2 from f114), e2, e3, e1, e1]
    have hIns : Ins c N x0 y0 p X Y := h.grp (a := a) oX oY (by rw [f114, ← hX, up4_ne (by omega), up4_ne (by omega), up4_eq]) (by rw [f113, ← hX, up4_ne (by omega), up4_ne (by omega), up4_ne (by omega)]; exact g3.trans ((ov_ne (by decide)).trans a113)) (by rw [f115, ← hX, up4_ne (by omega), up4_ne (by omega), up4_ne (by omega)]; exact g4.trans ((ov_ne (by decide)).trans a115)) (by rw [f116, ← hX, up4_ne (by omega), up4_eq]) (by rw [hhY, ← hX, up4_eq])
    obtain ⟨M, x', eadd, enote, hL, oL⟩ := hIns.log hN (Int32.ofNat a) 1 (Int32.ofNat (dgt pa n (q + 1)))
    have tY : Y 40 0 0 33 = y 40 0 0 33 := oY _ _ _ _ (by omega)
    rw [tY] at eadd
    have edv : (1 : Int32) + Int32.ofNat wt / 4 + Int32.ofNat s = Int32.ofNat (1 + wt / 4 + s) := by rw [divw w1, Int32.ofNat_add (1 + wt / 4)]
    have oN : ∀ k s', k ≠ 132 → ¬ (k = 40 ∧ s' = 40) → V (nY Y M (Int32.ofNat a) 1 (Int32.ofNat (dgt pa n (q + 1)))) k s' = Y k 0 0 s' := fun k s' q1 q2 => nY_o ⟨q1, q2⟩
    refine ⟨x', nY Y M (Int32.ofNat a) 1 (Int32.ofNat (dgt pa n (q + 1))), ?_, ?_, hL, ?_, fun k b i t w => ?_, ⟨fun t => ?_, fun t => ?_, ?_⟩⟩
    · unfold m_X1_startMove_j49
      simp only [f4 ha, f31 h30]
      rw [e_lt, e_lt, e_lt, up4_ne (k' := 12) (by omega), show x 12 c j 4 = Int32.ofNat wt from k4.trans ((ov_ne (by decide)).trans e126), edv, e_lt, up4_ne (k' := 0) (s' := 6) (by omega), up4_ne (k' := 0) (s' := 6) (by omega), h6 a ha, one_bit, hX, show X 2 c 0 0 = y 40 0 0 33 from (ins_x2 hIns).trans tY, show X 0 c a 0 = Int32.ofNat a from (hIns.2.1 c c.isLt).2 a ha, eadd, e_bd]
    · unfold m_X12_requestsNext_j90
      rw [gd_n ha (by decide), e_lt, tn (show j < 2 ^ 31 by omega), tn (show a < 2 ^ 31 by omega), up4_ne (k' := 126) (by omega), show y 126 0 0 j = Int32.ofNat wt from e126, edv, hY, enote Y rfl, e_bd]
    · have fA : ∀ k s', RdK k s' → ¬ (113 ≤ k ∧ k ≤ 116 ∧ s' = a) → V (nY Y M (Int32.ofNat a) 1 (Int32.ofNat (dgt pa n (q + 1)))) k s' = A k s' := fun k s' w1 w2 => by
        have w3 := w1
        unfold RdK at w3
        rw [oN _ _ (by omega) (by omega), oY _ _ _ _ w2]
        exact hA k s' w1 (by omega)
      have A0 : A 114 a ≠ 0 := by rw [← hA 114 a (rdk (by decide)) (by omega)]; exact hn0
      refine hI.go ha A0 (by rw [oN _ _ (by omega) (by omega), f114]; decide) (by rw [oN _ _ (by omega) (by omega), f113, ← hA 113 a (rdk (by decide)) (by omega)]; exact a113.symm) fA (fun J' hJ' eJ' => ?_) (fun b hb hba => ?_)
      · refine ⟨j, q, n, ?_, by rw [oN _ _ (by omega) (by omega)]; exact f113, by rw [oN _ _ (by omega) (by omega)]; exact f115, ?_, hn5, by omega, Or.inr (Or.inl ⟨by rw [oN _ _ (by omega) (by omega)]; exact f114, hq, 1 + wt / 4 + s, by omega, by omega, by rw [oN _ _ (by omega) (by omega)]; exact f116⟩)⟩
        · rw [← hA 40 34 (Or.inl ⟨rfl, rfl⟩) (by omega)] at eJ'
          have := (eq_n (by omega) (by omega)).mp (eJ.symm.trans eJ')
          omega
        · rw [oN _ _ (by omega) (by omega), oY _ _ _ _ (by omega)]
          exact e124
      · have e1 : hold (V (nY Y M (Int32.ofNat a) 1 (Int32.ofNat (dgt pa n (q + 1))))) a = hold (V Y) a := hold_kp (oN _ _ (by omega) (by omega)) (oN _ _ (by omega) (by omega)) (oN _ _ (by omega) (by omega)) (oN _ _ (by omega) (by omega)) (oN _ _ (by omega) (by omega))
        have e2 : hold A b = hold (V y) b := (hold_kp (hA _ _ (rdk (by decide)) (by omega)) (hA _ _ (rdk (by decide)) (by omega)) (hA _ _ (rdk (by decide)) (by omega)) (hA _ _ (rdk (by decide)) (by omega)) (hA _ _ (rdk (by decide)) (by omega)) : hold (V y) b = hold A b).symm
        rw [e1, e2, hhY, and_or0]
        refine ⟨hD b a hb ha hba, ?_⟩
        have := hC b hb hba
        rw [hzn] at this
        exact (and_or0.mp this).2
    · rw [oL _ _ _ _ (by omega), oX _ _ _ _ (by omega)]
    · rw [nY_o (by omega), oY _ _ _ _ (by omega)]
    · rw [nY_o (by omega), oY _ _ _ _ (by omega)]
    · rw [nY_o (by omega), oY _ _ _ _ (by omega)]
  refine ⟨Int32.ofNat (dgt pa n (q + 1)), ?_⟩
  have hhbo0 := hhbo
  rw [← z0, show othT (hold (V y)) (fun _ => true) a 0 = 0 from rfl] at hhbo0
  have hbes0 := hbes
  rw [← z0, show othT (hold (V y)) (fun _ => true) a 0 = 0 from rfl] at hbes0
  unfold m_X1_startMove m_X1_heldByOthers m_X12_isBeside
  simp only [f4 ha]
  rw [show x 0 c a 3 = Int32.ofNat j from g3.trans ((ov_ne (by decide)).trans a113), show x 0 c a 4 = Int32.ofNat q from g4.trans ((ov_ne (by decide)).trans a115), job_at h30, e_bd, n1 (a := q), ezx, e_bd, e_lt, e_lt, e_lt, e_lt, hhbo0, e_bd, e_lt, e_lt, hbes0, gd_n h30 (by decide)]
  by_cases hm : (othT (hold (V y)) (fun _ => true) a 3 &&& ((shl32 (1 : Int32) (Int32.ofNat (dgt pa n (q + 1)) + (1 : Int32))) ||| (sar32 (shl32 (1 : Int32) (Int32.ofNat (dgt pa n (q + 1)))) (1 : Int32)))) = 0
  · obtain ⟨x', y', q1, q2, q3⟩ := key 0 (by decide)
    rw [if_pos hm, if_pos hm, e_bd, if_pos rfl]
    exact ⟨x', y', ezy, q1, q2, q3⟩
  · obtain ⟨x', y', q1, q2, q3⟩ := key 1 (by decide)
    rw [if_neg hm, if_neg hm, e_bd, if_neg no1]
    exact ⟨x', y', ezy, q1, q2, q3⟩
