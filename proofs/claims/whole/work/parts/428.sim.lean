/-! STARTING A JOB -/
def inc (y : Mem) (K : Nat) (v : Int32) : Mem := if v < 0 then y else up4 y K 0 0 v.toNatClampNeg (y K 0 0 v.toNatClampNeg + 1)
theorem inc_up {y : Mem} {K k s : Nat} {v w : Int32} (h : k ≠ K) : inc (up4 y k 0 0 s w) K v = up4 (inc y K v) k 0 0 s w := by
  unfold inc
  by_cases q : v < 0
  · rw [if_pos q, if_pos q]
  · rw [if_neg q, if_neg q, up4_ne (by omega), up4_comm (by omega)]
theorem inc_o {y : Mem} {K k c i s : Nat} {v : Int32} (h : k ≠ K) : inc y K v k c i s = y k c i s := by
  unfold inc
  by_cases q : v < 0
  · rw [if_pos q]
  · rw [if_neg q, up4_ne (by omega)]
def incX (x : Mem) (c f : Nat) (v : Int32) : Mem := if v < 0 then x else up4 x 9 c v.toNatClampNeg f (x 9 c v.toNatClampNeg f + 1)
theorem incX_o {x : Mem} {c f k d i s : Nat} {v : Int32} (h : k ≠ 9) : incX x c f v k d i s = x k d i s := by
  unfold incX
  by_cases q : v < 0
  · rw [if_pos q]
  · rw [if_neg q, up4_ne (by omega)]
theorem Ins.inn {c N f K : Nat} {x0 y0 x y : Mem} {p : Nat → Int32} {v : Int32} (h : Ins c N x0 y0 p x y) (hv : BufOk v) (hf : (f = 2 ∧ K = 106) ∨ (f = 3 ∧ K = 107)) : Ins c N x0 y0 p (incX x c f v) (inc y K v) := by
  unfold incX inc
  rcases buf_neg hv with ⟨-, q⟩ | ⟨b, hb, e, q, -⟩
  · rw [if_pos q, if_pos q]
    exact h
  · rw [if_neg q, if_neg q, e, tn (show b < 2 ^ 31 by omega)]
    have e9 : x 9 c b f = y K 0 0 b := by
      obtain ⟨-, -, g3, g4, -⟩ := h.1.2.2.2.2.1 b hb
      rcases hf with ⟨rfl, rfl⟩ | ⟨rfl, rfl⟩
      · exact g3.trans (ov_ne (by decide))
      · exact g4.trans (ov_ne (by decide))
    rw [e9]
    exact h.sto (by omega)
/-- the arms that have to do with a buffer, one more -/
theorem cnt_add {A A' : St} {f d a j : Nat} (ha : a < 3) (h0 : A 114 a = 0) (h1 : A' 114 a ≠ 0) (hj : ajob A' a = j) (ho : ∀ b, b < 3 → b ≠ a → A' 114 b = A 114 b ∧ A' 113 b = A 113 b) (hf : ∀ i, A' f i = A f i) : cntB A' f d = cntB A f d + one (A f j = Int32.ofNat d) := by
  have e : ∀ b, b < 3 → b ≠ a → one (A' 114 b ≠ 0 ∧ A' f (ajob A' b) = Int32.ofNat d) = one (A 114 b ≠ 0 ∧ A f (ajob A b) = Int32.ofNat d) := fun b hb hba => by
    unfold ajob
    rw [(ho b hb hba).1, (ho b hb hba).2, hf]
  have e1 : one (A 114 a ≠ 0 ∧ A f (ajob A a) = Int32.ofNat d) = 0 := by
    unfold one
    rw [if_neg (fun q => q.1 h0)]
  have e2 : one (A' 114 a ≠ 0 ∧ A' f (ajob A' a) = Int32.ofNat d) = one (A f j = Int32.ofNat d) := by
    rw [hj, hf]
    unfold one
    by_cases q : A f j = Int32.ofNat d
    · rw [if_pos ⟨h1, q⟩, if_pos q]
    · rw [if_neg (fun w => q w.2), if_neg q]
  unfold cntB
  match a, ha with
  | 0, _ =>
    rw [e 1 (by decide) (by decide), e 2 (by decide) (by decide)]
    omega
  | 1, _ =>
    rw [e 0 (by decide) (by decide), e 2 (by decide) (by decide)]
    omega
  | 2, _ =>
    rw [e 0 (by decide) (by decide), e 1 (by decide) (by decide)]
    omega
theorem one_le (p : Prop) [Decidable p] : one p ≤ 1 := by
  unfold one
  split <;> omega
theorem inc_at {y : Mem} {K d : Nat} {v : Int32} (hv : BufOk v) (hd : d < 3) : inc y K v K 0 0 d = y K 0 0 d + Int32.ofNat (one (v = Int32.ofNat d)) := by
  unfold inc one
  rcases buf_neg hv with ⟨e, q⟩ | ⟨b, hb, e, q, -⟩
  · rw [if_pos q, if_neg (fun w => by rw [w] at q; exact ge0 (show d < 2 ^ 31 by omega) q)]
    exact (Int32.add_zero _).symm
  · rw [if_neg q, e, tn (show b < 2 ^ 31 by omega)]
    by_cases w : d = b
    · subst w
      rw [up4_eq, if_pos rfl]
      rfl
    · rw [up4_ne (by omega), if_neg (fun u => w ((eq_n (by omega) (by omega)).mp u).symm)]
      exact (Int32.add_zero _).symm
/-- what holds once a job has started -/
theorem Inv.start {A A' : St} {a j r z : Nat} (hI : Inv A) (ha : a < 3) (h0 : A 114 a = 0) (hjJ : j < (A 40 34).toNatClampNeg) (hr30 : r < 30) (e111 : A 111 a = Int32.ofNat (r + 1)) (hB : BufA A j) (hz : z = znA A j 0) (hC : ∀ b, b < 3 → b ≠ a → hold A b &&& con A z = 0) (f111 : A' 111 a = Int32.ofNat r) (f112 : ∀ k, k < r → A' 112 (30 * a + k) = A 112 (30 * a + (k + 1))) (f113 : A' 113 a = Int32.ofNat j) (f114 : A' 114 a = 1) (f115 : A' 115 a = 0) (f116 : A' 116 a = A 125 j) (f106 : ∀ d, d < 3 → A' 106 d = A 106 d + Int32.ofNat (one (A 128 j = Int32.ofNat d))) (f107 : ∀ d, d < 3 → A' 107 d = A 107 d + Int32.ofNat (one (A 127 j = Int32.ofNat d))) (fo : ∀ k s, RdK k s → ¬ (k = 111 ∧ s = a) → ¬ (k = 112 ∧ 30 * a ≤ s ∧ s < 30 * a + 30) → ¬ (113 ≤ k ∧ k ≤ 116 ∧ s = a) → k ≠ 106 → k ≠ 107 → A' k s = A k s) : Inv A' := by
  obtain ⟨J, hJ, eJ, hj, hA, hS, hZ, hD⟩ := hI
  rw [eJ, tn (by omega)] at hjJ
  obtain ⟨⟨pa, n, e123, e124, hp⟩, ⟨wk, w1, w2, e125⟩, -, hb1, hb2⟩ := hj j hjJ
  have hn1 := hp.1
  have hn5 := hp.2.1
  have hpl := path_lt hp
  have ej : ajob A' a = j := by unfold ajob; rw [f113, tn (by omega)]
  have ho : ∀ b, b < 3 → b ≠ a → A' 114 b = A 114 b ∧ A' 113 b = A 113 b := fun b hb hba => ⟨fo _ _ (rdk (by decide)) (by omega) (by omega) (by omega) (by omega) (by omega), fo _ _ (rdk (by decide)) (by omega) (by omega) (by omega) (by omega) (by omega)⟩
  have hcnt : ∀ f d, f = 127 ∨ f = 128 → cntB A' f d = cntB A f d + one (A f j = Int32.ofNat d) := fun f d hf => cnt_add ha h0 (by rw [f114]; exact no1) ej ho (fun i => fo _ _ (rdk (by omega)) (by omega) (by omega) (by omega) (by omega) (by omega))
  have hz8 : z < 8 ∧ z = dgt pa n 0 := by
    have : znA A j 0 = dgt pa n 0 := by
      unfold znA
      rw [e123, e124, tn (show n < 2 ^ 31 by omega), tn (show pa < 2 ^ 31 by omega)]
    rw [hz, this]
    exact ⟨(dgt_ok hp (by omega)).1, rfl⟩
  have hha : hold A' a = bit z := by
    unfold hold
    rw [if_neg (by rw [f114]; exact no1), if_neg (by rw [f114]; decide), ej]
    have e0 : apos A' a = 0 := by unfold apos; rw [f115]; rfl
    have e1 : znA A' j 0 = z := by
      unfold znA
      rw [fo 123 _ (rdk (by decide)) (by omega) (by omega) (by omega) (by omega) (by omega), fo 124 _ (rdk (by decide)) (by omega) (by omega) (by omega) (by omega) (by omega)]
      exact hz.symm
    rw [e0, e1]
  have hhb : ∀ b, b < 3 → b ≠ a → hold A' b = hold A b := fun b hb hba => hold_kp (ho b hb hba).2 (ho b hb hba).1 (fo _ _ (rdk (by decide)) (by omega) (by omega) (by omega) (by omega) (by omega)) (fo _ _ (rdk (by decide)) (by omega) (by omega) (by omega) (by omega) (by omega)) (fo _ _ (rdk (by decide)) (by omega) (by omega) (by omega) (by omega) (by omega))
  refine ⟨J, hJ, (fo 40 34 (Or.inl ⟨rfl, rfl⟩) (by omega) (by omega) (by omega) (by omega) (by omega)).trans eJ, fun i q => (hj i q).kp (fun k u v => fo _ _ (rdk (by omega)) (by omega) (by omega) (by omega) (by omega) (by omega)), fun b q => ?_, fun d q => ?_, hZ.kp (fun z _ => fo _ _ (rdk (by decide)) (by omega) (by omega) (by omega) (by omega) (by omega)), fun b d hb hd hbd => ?_⟩
  · by_cases e : b = a
    · subst e
      obtain ⟨-, r', g2, g3, g4⟩ := hA b q
      have hr : r' = r + 1 := (eq_n (by omega) (by omega)).mp (g2.symm.trans e111)
      refine ⟨Or.inr ⟨j, 0, n, hjJ, f113, f115, (fo 124 _ (rdk (by decide)) (by omega) (by omega) (by omega) (by omega) (by omega)).trans e124, hn5, by omega, Or.inl ⟨f114, wk, w1, w2, f116.trans e125⟩⟩, r, f111, by omega, fun k hk => ?_⟩
      obtain ⟨i, i1, i2⟩ := g4 (k + 1) (by omega)
      exact ⟨i, i1, by rw [f112 k hk]; exact i2⟩
    · exact (hA b q).kp (Nat.le_refl _) hJ (fun k u v w => fo _ _ (rdk (by omega)) (by omega) (by omega) (by omega) (by omega) (by omega)) (fun k hk => fo _ _ (rdk (by decide)) (by omega) (by omega) (by omega) (by omega) (by omega)) (fun i _ => fo _ _ (rdk (by decide)) (by omega) (by omega) (by omega) (by omega) (by omega))
  · obtain ⟨cap, m, pp, pr, g1, g2, g3, g4, g5, g6, g7, g8, g9, g10⟩ := hS d q
    have c1 := hcnt 128 d (by decide)
    have c2 := hcnt 127 d (by decide)
    refine ⟨cap, m, pp + one (A 128 j = Int32.ofNat d), pr + one (A 127 j = Int32.ofNat d), ?_, ?_, ?_, ?_, g5, ?_, ?_, by omega, by omega, fun k hk => by rw [fo 105 _ (rdk (by decide)) (by omega) (by omega) (by omega) (by omega) (by omega)]; exact g10 k hk⟩
    · exact (fo 103 _ (rdk (by decide)) (by omega) (by omega) (by omega) (by omega) (by omega)).trans g1
    · exact (fo 104 _ (rdk (by decide)) (by omega) (by omega) (by omega) (by omega) (by omega)).trans g2
    · rw [f106 d q, g3, ← Int32.ofNat_add]
    · rw [f107 d q, g4, ← Int32.ofNat_add]
    · unfold one
      by_cases e : A 128 j = Int32.ofNat d
      · rw [if_pos e]
        rcases hB.2 with w | ⟨b, hb, w, hlt⟩
        · exfalso
          rw [e] at w
          have h9 := ge0 (show d < 2 ^ 31 by omega)
          rw [w] at h9
          exact h9 lt0_neg
        · have : b = d := (eq_n (by omega) (by omega)).mp (w.symm.trans e)
          subst this
          rw [g1, g2, g3, ← Int32.ofNat_add, lt_n (by omega) (by omega)] at hlt
          omega
      · rw [if_neg e]
        omega
    · unfold one
      by_cases e : A 127 j = Int32.ofNat d
      · rw [if_pos e]
        rcases hB.1 with w | ⟨b, hb, w, hlt⟩
        · exfalso
          rw [e] at w
          have h9 := ge0 (show d < 2 ^ 31 by omega)
          rw [w] at h9
          exact h9 lt0_neg
        · have : b = d := (eq_n (by omega) (by omega)).mp (w.symm.trans e)
          subst this
          rw [g2, g4, lt_n (by omega) (by omega)] at hlt
          omega
      · rw [if_neg e]
        omega
  · have hbz : ∀ b, b < 3 → b ≠ a → hold A b &&& bit z = 0 := fun b hb hba => (and_or0.mp (hC b hb hba)).2
    by_cases e1 : b = a
    · have e2 : d ≠ a := fun e => hbd (e1.trans e.symm)
      rw [e1, hha, hhb d hd e2, Int32.and_comm]
      exact hbz d hd e2
    · rw [hhb b hb e1]
      by_cases e2 : d = a
      · rw [e2, hha]
        exact hbz b hb e1
      · rw [hhb d hd e2]
        exact hD b d hb hd hbd
