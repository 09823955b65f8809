/-! THE ENDS: of a move, of a job -/
theorem em_sim {c : Fin 10} {N : Nat} {x0 y0 x y : Mem} {p : Nat → Int32} {A : St} (h : Ins c N x0 y0 p x y) (hW : InvW (V y)) (hI : Inv A) {a : Nat} (hA : ∀ k s, RdK k s → ¬ (k = 116 ∧ s = a) → V y k s = A k s) (ha : a < 3) (h2 : V y 114 a = 2) (hN : N < 2 ^ 30) : ∃ x' y', m_X1_endMove c (c, Fin.ofNat 4 a) x = some x' ∧ (bd_ (m_X12_zoneOf (Int32.ofNat a) y) fun r22 => bd_ (m_X12_notes (Int32.ofNat a) (2 : Int32) r22 y) fun y25 => bd_ (m_X12_works (Int32.ofNat a) ((y25 115 0 0 (Int32.ofNat a).toNatClampNeg) + (1 : Int32)) y25) fun y28 => some y28) = some y' ∧ Ins c (N + 1) x0 y0 p x' y' ∧ Inv (V y') ∧ XF x x' ∧ YF y y' := by
  have hn0 : V y 114 a ≠ 0 := by rw [h2]; decide
  obtain ⟨j, q, pa, n, h30, hJ, a113, a115, a123, a124, hp, hq0, hst⟩ := hW.act ha hn0
  have hq : q + 1 < n := by
    rcases hst with w | ⟨w, w2⟩ | ⟨w, w2⟩
    · rw [h2] at w; exact absurd w (by decide)
    · exact w2
    · exact w2
  have hn5 := hp.2.1
  have hpl := path_lt hp
  obtain ⟨J, hJ30, eJ, hj, hAr, -, -, hD⟩ := id hW
  have hJ' := hJ
  rw [eJ, tn (by omega)] at hJ'
  obtain ⟨-, ⟨wk, w1, w2, e125⟩, -⟩ := hj j hJ'
  have hzn : ∀ i, znA (V y) j i = dgt pa n i := fun i => by
    unfold znA
    rw [a123, a124, tn (show n < 2 ^ 31 by omega), tn (show pa < 2 ^ 31 by omega)]
  obtain ⟨-, k1, k2, k3, -⟩ := h.1.2.2.2.2.2 j (by rw [ov_ne (by decide)]; exact hJ)
  obtain ⟨-, g2, g3, g4, g5, g6, -⟩ := h.1.2.2.2.1 a ha
  have ej : ajob (V y) a = j := by unfold ajob; rw [a113, tn (by omega)]
  have eq' : apos (V y) a = q := by unfold apos; rw [a115, tn (by omega)]
  have hha : hold (V y) a = bit (dgt pa n q) ||| bit (dgt pa n (q + 1)) := by
    unfold hold
    rw [if_neg hn0, if_pos h2, ej, eq', hzn, hzn]
  have ezx : ∀ i, i < n → m_X5_zoneAt (c, Fin.ofNat 31 j) (Int32.ofNat i) x = some (Int32.ofNat (dgt pa n i)) := fun i hi => zone_x (by rw [f31 h30]; exact k1.trans ((ov_ne (by decide)).trans a123)) (by rw [f31 h30]; exact k2.trans ((ov_ne (by decide)).trans a124)) hp hi
  generalize hX : up4 (up4 (up4 (up4 x 0 c a 2 1) 0 c a 4 (Int32.ofNat (q + 1))) 0 c a 5 (Int32.ofNat wk)) 0 c a 6 (bit (dgt pa n (q + 1))) = X
  generalize hY : up4 (up4 (up4 y 114 0 0 a 1) 115 0 0 a (Int32.ofNat (q + 1))) 116 0 0 a (Int32.ofNat wk) = Y
  have oX : ∀ k d i t, ¬ (k = 0 ∧ d = (c : Nat) ∧ i = a ∧ 2 ≤ t ∧ t ≤ 6) → X k d i t = x k d i t := fun k d i t w => by rw [← hX, up4_ne (by omega), up4_ne (by omega), up4_ne (by omega), up4_ne (by omega)]
  have oY : ∀ k d i t, ¬ (113 ≤ k ∧ k ≤ 116 ∧ t = a) → Y k d i t = y k d i t := fun k d i t w => by rw [← hY, up4_ne (by omega), up4_ne (by omega), up4_ne (by omega)]
  have f113 : Y 113 0 0 a = Int32.ofNat j := by rw [← hY, up4_ne (by omega), up4_ne (by omega), up4_ne (by omega)]; exact a113
  have f114 : Y 114 0 0 a = 1 := by rw [← hY, up4_ne (by omega), up4_ne (by omega), up4_eq]
  have f115 : Y 115 0 0 a = Int32.ofNat (q + 1) := by rw [← hY, up4_ne (by omega), up4_eq]
  have f116 : Y 116 0 0 a = Int32.ofNat wk := by rw [← hY, up4_eq]
  have hhY : hold (V Y) a = bit (dgt pa n (q + 1)) := by
    unfold hold
    have e2 : ajob (V Y) a = j := by unfold ajob; rw [show V Y 113 a = Int32.ofNat j from f113, tn (by omega)]
    have e3 : apos (V Y) a = q + 1 := by unfold apos; rw [show V Y 115 a = Int32.ofNat (q + 1) from f115, tn (by omega)]
    have e1 : ∀ i, znA (V Y) j i = dgt pa n i := fun i => by
      rw [← hzn]
      unfold znA
      rw [show V Y 123 j = V y 123 j from oY _ _ _ _ (by omega), show V Y 124 j = V y 124 j from oY _ _ _ _ (by omega)]
    rw [if_neg (by rw [show V Y 114 a = 1 from f114]; exact no1), if_neg (by rw [show V Y 114 a = 1 from f114]; decide), e2, e3, e1]
  have hIns : Ins c N x0 y0 p X Y := h.grp (a := a) oX oY (by rw [f114, ← hX, up4_ne (by omega), up4_ne (by omega), up4_ne (by omega), up4_eq]) (by rw [f113, ← hX, up4_ne (by omega), up4_ne (by omega), up4_ne (by omega), up4_ne (by omega)]; exact g3.trans ((ov_ne (by decide)).trans a113)) (by rw [f115, ← hX, up4_ne (by omega), up4_ne (by omega), up4_eq]) (by rw [f116, ← hX, up4_ne (by omega), up4_eq]) (by rw [hhY, ← hX, up4_eq])
  obtain ⟨M, x', eadd, enote, hL, oL⟩ := hIns.log hN (Int32.ofNat a) 2 (Int32.ofNat (dgt pa n q))
  have tY : Y 40 0 0 33 = y 40 0 0 33 := oY _ _ _ _ (by omega)
  rw [tY] at eadd
  have oN : ∀ k s', k ≠ 132 → ¬ (k = 40 ∧ s' = 40) → V (nY Y M (Int32.ofNat a) 2 (Int32.ofNat (dgt pa n q))) k s' = Y k 0 0 s' := fun k s' q1 q2 => nY_o ⟨q1, q2⟩
  refine ⟨x', nY Y M (Int32.ofNat a) 2 (Int32.ofNat (dgt pa n q)), ?_, ?_, hL, ?_, fun k b i t w => ?_, ⟨fun t => ?_, fun t => ?_, ?_⟩⟩
  · unfold m_X1_endMove m_X0_workAt
    simp only [f4 ha]
    rw [show x 0 c a 3 = Int32.ofNat j from g3.trans ((ov_ne (by decide)).trans a113), show x 0 c a 4 = Int32.ofNat q from g4.trans ((ov_ne (by decide)).trans a115), job_at h30, e_bd, ezx q hq0, e_bd, e_lt, n1, ezx (q + 1) hq, e_bd]
    simp only [f31 h30]
    rw [show x 12 c j 3 = Int32.ofNat wk from k3.trans ((ov_ne (by decide)).trans e125), e_lt, e_lt, e_lt, e_lt, e_bd, one_bit, hX, show X 2 c 0 0 = y 40 0 0 33 from (ins_x2 hIns).trans tY, show X 0 c a 0 = Int32.ofNat a from (hIns.2.1 c c.isLt).2 a ha, eadd, e_bd]
  · unfold m_X12_zoneOf
    rw [gd_n ha (by decide), tn (show a < 2 ^ 31 by omega), show y 113 0 0 a = Int32.ofNat j from a113, show y 115 0 0 a = Int32.ofNat q from a115, zone_y h30 a123 a124 hp hq0, e_bd, e_bd, enote y (by rw [← hY, up4_ne (by omega), up4_ne (by omega), up4_ne (by omega)]), e_bd, nY_o (by omega), show y 115 0 0 a = Int32.ofNat q from a115, n1, works_y ha h30 ((nY_o (by omega)).trans a113) ((nY_o (by omega)).trans e125), e_bd, ← hY, nY_up (by omega) (by omega), nY_up (by omega) (by omega), nY_up (by omega) (by omega)]
  · have fA : ∀ k s', RdK k s' → ¬ (113 ≤ k ∧ k ≤ 116 ∧ s' = a) → V (nY Y M (Int32.ofNat a) 2 (Int32.ofNat (dgt pa n q))) k s' = A k s' := fun k s' w1 w2 => by
      have w3 := w1
      unfold RdK at w3
      rw [oN _ _ (by omega) (by omega), oY _ _ _ _ w2]
      exact hA k s' w1 (by omega)
    have A0 : A 114 a ≠ 0 := by rw [← hA 114 a (rdk (by decide)) (by omega)]; exact hn0
    refine hI.go ha A0 (by rw [oN _ _ (by omega) (by omega), f114]; exact no1) (by rw [oN _ _ (by omega) (by omega), f113, ← hA 113 a (rdk (by decide)) (by omega)]; exact a113.symm) fA (fun J' hJ'' eJ' => ?_) (fun b hb hba => ?_)
    · refine ⟨j, q + 1, n, ?_, by rw [oN _ _ (by omega) (by omega)]; exact f113, by rw [oN _ _ (by omega) (by omega)]; exact f115, ?_, hn5, hq, Or.inl ⟨by rw [oN _ _ (by omega) (by omega)]; exact f114, wk, w1, w2, by rw [oN _ _ (by omega) (by omega)]; exact f116⟩⟩
      · rw [← hA 40 34 (Or.inl ⟨rfl, rfl⟩) (by omega)] at eJ'
        have := (eq_n (by omega) (by omega)).mp (eJ.symm.trans eJ')
        omega
      · rw [oN _ _ (by omega) (by omega), oY _ _ _ _ (by omega)]
        exact a124
    · have e1 : hold (V (nY Y M (Int32.ofNat a) 2 (Int32.ofNat (dgt pa n q)))) a = hold (V Y) a := hold_kp (oN _ _ (by omega) (by omega)) (oN _ _ (by omega) (by omega)) (oN _ _ (by omega) (by omega)) (oN _ _ (by omega) (by omega)) (oN _ _ (by omega) (by omega))
      have e2 : hold A b = hold (V y) b := (hold_kp (hA _ _ (rdk (by decide)) (by omega)) (hA _ _ (rdk (by decide)) (by omega)) (hA _ _ (rdk (by decide)) (by omega)) (hA _ _ (rdk (by decide)) (by omega)) (hA _ _ (rdk (by decide)) (by omega)) : hold (V y) b = hold A b).symm
      have := hD b a hb ha hba
      rw [hha, and_or0] at this
      rw [e1, e2, hhY]
      exact this.2
  · rw [oL _ _ _ _ (by omega), oX _ _ _ _ (by omega)]
  · rw [nY_o (by omega), oY _ _ _ _ (by omega)]
  · rw [nY_o (by omega), oY _ _ _ _ (by omega)]
  · rw [nY_o (by omega), oY _ _ _ _ (by omega)]
/-! parts, when a job ends -/
theorem Ins.tak {N : Nat} {c b r : Nat} {x0 y0 x y x' y' : Mem} {p : Nat → Int32} (h : Ins c N x0 y0 p x y) (hr : r < 4) (hb : b < 3) (e : y 104 0 0 b = Int32.ofNat (r + 1)) (h4 : ∀ d, d < 3 → (y 104 0 0 d).toNatClampNeg ≤ 4) (hx : x' = up4 (up4 (up4 (bk x 10 c b 0 r (fun s => x 10 c b (s + 1))) 9 c b 1 (Int32.ofNat r)) 9 c b 5 (x 9 c b 5 + 1)) 9 c b 3 (x 9 c b 3 - 1)) (hy : y' = tkY y b r) : Ins c N x0 y0 p x' y' := by
  have ex : ∀ k d i s, ¬ (k = 9 ∧ d = c ∧ i = b ∧ (s = 1 ∨ s = 5 ∨ s = 3)) → ¬ (k = 10 ∧ d = c ∧ i = b) → x' k d i s = x k d i s := fun k d i s q1 q2 => by rw [hx, up4_ne (by omega), up4_ne (by omega), up4_ne (by omega), bk_out (by omega)]
  have ey : ∀ k d i s, ¬ ((k = 104 ∨ k = 107 ∨ k = 109) ∧ s = b) → ¬ (k = 105 ∧ 4 * b ≤ s ∧ s < 4 * b + 4) → y' k d i s = y k d i s := fun k d i s q1 q2 => by
    rw [hy]
    unfold tkY
    rw [up4_ne (by omega), up4_ne (by omega), blk_out (by omega), up4_ne (by omega)]
  refine h.gen (h.1.tak (b := b) (r := r) hr ((ov_ne (by decide)).trans e) (fun d hd => by rw [ov_ne (by decide)]; exact h4 d hd) (fun k i s q1 q2 => ex _ _ _ _ (by omega) (by omega)) (by rw [hx, up4_ne (by omega), up4_ne (by omega), up4_eq]) (by rw [hx, up4_ne (by omega), up4_eq]) (by rw [hx, up4_eq]) (fun k hk => by rw [hx, up4_ne (by omega), up4_ne (by omega), up4_ne (by omega), bk_in (by omega) (by omega), Nat.sub_zero]) (fun k s q1 q2 => ?_) ?_ ?_ ?_ (fun k hk => ?_)) (fun d q => ⟨by rw [ex _ _ _ _ (by omega) (by omega)]; exact (h.2.1 d q).1, fun b' r' => by rw [ex _ _ _ _ (by omega) (by omega)]; exact (h.2.1 d q).2 b' r'⟩) (fun k d i s q _ => ex _ _ _ _ (by omega) (by omega)) (fun k d i s q => ey _ _ _ _ (by omega) (by omega))
  · by_cases e : k = 117
    · subst e
      rfl
    · rw [ov_ne e, ov_ne e]
      exact ey _ _ _ _ q1 q2
  · rw [ov_ne (by decide), hy]
    show tkY y b r 104 0 0 b = _
    unfold tkY
    rw [up4_ne (by omega), up4_ne (by omega), blk_out (by omega), up4_eq]
  · rw [ov_ne (by decide), ov_ne (by decide), hy]
    show tkY y b r 109 0 0 b = y 109 0 0 b + 1
    unfold tkY
    rw [up4_eq]
  · rw [ov_ne (by decide), ov_ne (by decide), hy]
    show tkY y b r 107 0 0 b = y 107 0 0 b - 1
    unfold tkY
    rw [up4_ne (by omega), up4_eq]
  · rw [ov_ne (by decide), ov_ne (by decide), hy]
    show tkY y b r 105 0 0 (4 * b + k) = y 105 0 0 (4 * b + (k + 1))
    unfold tkY
    rw [up4_ne (by omega), up4_ne (by omega), blk_in (by omega) (by omega), Nat.add_sub_cancel_left]
/-- what the reference does to a job and its arm as the job ends -/
def GJ (a j : Nat) (tm w37 w39 : Int32) (u : Mem) : Mem := up4 (up4 (up4 (up4 (up4 (up4 (up4 (up4 u 114 0 0 a 0) 113 0 0 a (-1)) 115 0 0 a 0) 116 0 0 a 0) 129 0 0 j 2) 131 0 0 j tm) 40 0 0 37 w37) 40 0 0 39 w39
def PK (k s : Nat) : Prop := (103 ≤ k ∧ k ≤ 109) ∨ (k = 40 ∧ (s = 35 ∨ s = 36))
theorem GJ_up {a j : Nat} {tm w37 w39 v : Int32} {u : Mem} {K s : Nat} (h : PK K s) : GJ a j tm w37 w39 (up4 u K 0 0 s v) = up4 (GJ a j tm w37 w39 u) K 0 0 s v := by
  unfold PK at h
  unfold GJ
  rw [up4_comm (k := K) (k1 := 114) (by omega), up4_comm (k := K) (k1 := 113) (by omega), up4_comm (k := K) (k1 := 115) (by omega), up4_comm (k := K) (k1 := 116) (by omega), up4_comm (k := K) (k1 := 129) (by omega), up4_comm (k := K) (k1 := 131) (by omega), up4_comm (k := K) (k1 := 40) (s1 := 37) (by omega), up4_comm (k := K) (k1 := 40) (s1 := 39) (by omega)]
theorem GJ_o {a j : Nat} {tm w37 w39 : Int32} {u : Mem} {K c i s : Nat} (h : ¬ (113 ≤ K ∧ K ≤ 116 ∧ s = a) ∧ ¬ (K = 129 ∧ s = j) ∧ ¬ (K = 131 ∧ s = j) ∧ ¬ (K = 40 ∧ (s = 37 ∨ s = 39))) : GJ a j tm w37 w39 u K c i s = u K c i s := by
  unfold GJ
  rw [up4_ne (by omega), up4_ne (by omega), up4_ne (by omega), up4_ne (by omega), up4_ne (by omega), up4_ne (by omega), up4_ne (by omega), up4_ne (by omega)]
theorem GJ_p {a j : Nat} {tm w37 w39 : Int32} {u : Mem} {K s : Nat} (h : PK K s) : GJ a j tm w37 w39 u K 0 0 s = u K 0 0 s := GJ_o (by unfold PK at h; omega)
theorem GJ_blk {a j lo n : Nat} {tm w37 w39 : Int32} {u : Mem} {f : Nat → Int32} : GJ a j tm w37 w39 (blk u 105 lo n f) = blk (GJ a j tm w37 w39 u) 105 lo n f := by
  unfold GJ
  rw [blk_up (by omega), blk_up (by omega), blk_up (by omega), blk_up (by omega), blk_up (by omega), blk_up (by omega), blk_up (by omega), blk_up (by omega)]
theorem GJ_tk {a j b r : Nat} {tm w37 w39 : Int32} {u : Mem} : tkY (GJ a j tm w37 w39 u) b r = GJ a j tm w37 w39 (tkY u b r) := by
  unfold tkY
  rw [GJ_up (by unfold PK; omega), GJ_up (by unfold PK; omega), GJ_blk, GJ_up (by unfold PK; omega), GJ_p (by unfold PK; omega), GJ_p (by unfold PK; omega), show (fun s => GJ a j tm w37 w39 u 105 0 0 (4 * b + (s + 1))) = (fun s => u 105 0 0 (4 * b + (s + 1))) from funext fun s => GJ_p (by unfold PK; omega)]
theorem GJ_off {a j : Nat} {tm w37 w39 : Int32} {u : Mem} {K c i s : Nat} (h : ¬ (113 ≤ K ∧ K ≤ 116 ∧ s = a)) : GJ a j tm w37 w39 u K c i s = up4 (up4 (up4 (up4 u 129 0 0 j 2) 131 0 0 j tm) 40 0 0 37 w37) 40 0 0 39 w39 K c i s := by
  have cg : ∀ (u u' : Mem) (k d e t : Nat) (v : Int32), u K c i s = u' K c i s → up4 u k d e t v K c i s = up4 u' k d e t v K c i s := fun u u' k d e t v q => by rw [up4_at, up4_at, q]
  unfold GJ
  exact cg _ _ _ _ _ _ _ (cg _ _ _ _ _ _ _ (cg _ _ _ _ _ _ _ (cg _ _ _ _ _ _ _ (by rw [up4_ne (by omega), up4_ne (by omega), up4_ne (by omega), up4_ne (by omega)]))))
