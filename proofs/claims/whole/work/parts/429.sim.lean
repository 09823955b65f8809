theorem stl_y {y : Mem} {a j r : Nat} (ha : a < 3) (hr : r < 30) (e : y 111 0 0 a = Int32.ofNat r) {g : Nat → Int32} (hg : g = fun s => y 112 0 0 (30 * a + (s + 1))) : ∀ (m t : Nat), t ≤ r → r < t + m → m_X12_starts_l34 (Int32.ofNat a) m (Int32.ofNat j) (Int32.ofNat t) (blk y 112 (30 * a) t g) = m_X12_starts_b34 (Int32.ofNat a) (fun _ _ _ => none) (Int32.ofNat j) (Int32.ofNat r) (blk y 112 (30 * a) r g) := by
  intro m
  induction m with
  | zero => intro t h1 h2; omega
  | succ m ih =>
    intro t h1 h2
    show m_X12_starts_b34 (Int32.ofNat a) (m_X12_starts_l34 (Int32.ofNat a) m) (Int32.ofNat j) (Int32.ofNat t) _ = _
    by_cases ht : t = r
    · subst ht
      unfold m_X12_starts_b34
      rw [gd_n ha (by decide), gd_n ha (by decide), tn (show a < 2 ^ 31 by omega), blk_out (k' := 111) (by omega), e, if_pos ((le_n (by omega) (by omega)).mpr (Nat.le_refl _)), if_pos ((le_n (by omega) (by omega)).mpr (Nat.le_refl _))]
    · have step : m_X12_starts_b34 (Int32.ofNat a) (m_X12_starts_l34 (Int32.ofNat a) m) (Int32.ofNat j) (Int32.ofNat t) (blk y 112 (30 * a) t g) = m_X12_starts_l34 (Int32.ofNat a) m (Int32.ofNat j) (Int32.ofNat (t + 1)) (blk y 112 (30 * a) (t + 1) g) := by
       unfold m_X12_starts_b34
       rw [gd_n ha (by decide), tn (show a < 2 ^ 31 by omega), blk_out (k' := 111) (by omega), e, if_neg (le_f (by omega) (by omega) (by omega)), m30, n1, gd_n (show 30 * a + t + 1 < 90 by omega) (by decide), gd_n (show 30 * a + t < 90 by omega) (by decide), e_lt, e_lt, tn (show 30 * a + t < 2 ^ 31 by omega), tn (show 30 * a + t + 1 < 2 ^ 31 by omega), blk_out (k' := 112) (s := 30 * a + t + 1) (by omega), n1]
       have hq := blk_succ (y := y) (k := 112) (lo := 30 * a) (n := t) (f := g)
       rw [show g t = y 112 0 0 (30 * a + t + 1) by rw [hg]; rfl] at hq
       rw [hq]
      rw [step]
      exact ih (t + 1) (by omega) (by omega)
def XF (x x' : Mem) : Prop := ∀ k b i s, 14 ≤ k → x' k b i s = x k b i s
def YF (y y' : Mem) : Prop := (∀ s, y' 117 0 0 s = y 117 0 0 s) ∧ (∀ s, y' 147 0 0 s = y 147 0 0 s) ∧ y' 40 0 0 46 = y 40 0 0 46
theorem ins_x2 {c N : Nat} {x0 y0 x y : Mem} {p : Nat → Int32} (h : Ins c N x0 y0 p x y) : x 2 c 0 0 = y 40 0 0 33 := h.1.1.1.trans (ov_ne (by decide))
theorem Ins.row {N : Nat} {c a r : Nat} {x0 y0 x y x' y' : Mem} {p : Nat → Int32} (h : Ins c N x0 y0 p x y) (hr : r < 30) (e : y 111 0 0 a = Int32.ofNat (r + 1)) (h30 : ∀ b, b < 3 → (y 111 0 0 b).toNatClampNeg ≤ 30) (hx : x' = up4 (bk x 1 c a 0 r (fun s => x 1 c a (s + 1))) 0 c a 12 (Int32.ofNat r)) (hy : y' = blk (up4 y 111 0 0 a (Int32.ofNat r)) 112 (30 * a) r (fun s => y 112 0 0 (30 * a + (s + 1)))) : Ins c N x0 y0 p x' y' := by
  subst hx hy
  have ex : ∀ k d i s, ¬ (k = 0 ∧ d = c ∧ i = a ∧ s = 12) → ¬ (k = 1 ∧ d = c ∧ i = a) → up4 (bk x 1 c a 0 r (fun s => x 1 c a (s + 1))) 0 c a 12 (Int32.ofNat r) k d i s = x k d i s := fun k d i s q1 q2 => by rw [up4_ne (by omega), bk_out (by omega)]
  have ey : ∀ k d i s, ¬ (k = 111 ∧ s = a) → ¬ (k = 112 ∧ 30 * a ≤ s ∧ s < 30 * a + 30) → blk (up4 y 111 0 0 a (Int32.ofNat r)) 112 (30 * a) r (fun s => y 112 0 0 (30 * a + (s + 1))) k d i s = y k d i s := fun k d i s q1 q2 => by rw [blk_out (by omega), up4_ne (by omega)]
  refine h.gen (h.1.row (a := a) (r := r) hr ((ov_ne (by decide)).trans e) (fun b hb => by rw [ov_ne (by decide)]; exact h30 b hb) (fun k i s q1 q2 => ex _ _ _ _ (by omega) (by omega)) up4_eq (fun k hk => by rw [up4_ne (by omega), bk_in (by omega) (by omega), Nat.sub_zero]) (fun k s q1 q2 => ?_) ?_ (fun k hk => ?_)) (fun d q => ⟨by rw [ex _ _ _ _ (by omega) (by omega)]; exact (h.2.1 d q).1, fun b r => by rw [ex _ _ _ _ (by omega) (by omega)]; exact (h.2.1 d q).2 b r⟩) (fun k d i s q _ => ex _ _ _ _ (by omega) (by omega)) (fun k d i s q => ey _ _ _ _ (by omega) (by omega))
  · by_cases e : k = 117
    · subst e
      rfl
    · rw [ov_ne e, ov_ne e]
      exact ey _ _ _ _ q1 q2
  · rw [ov_ne (by decide)]
    show blk _ _ _ _ _ 111 0 0 a = _
    rw [blk_out (by omega), up4_eq]
  · rw [ov_ne (by decide), ov_ne (by decide)]
    show blk _ _ _ _ _ 112 0 0 (30 * a + k) = _
    rw [blk_in (by omega) (by omega), Nat.add_sub_cancel_left]
    rfl
/-- the group of an arm -/
theorem Ins.grp {c N a : Nat} {x0 y0 x y x' y' : Mem} {p : Nat → Int32} (h : Ins c N x0 y0 p x y) (hx : ∀ k d i s, ¬ (k = 0 ∧ d = c ∧ i = a ∧ 2 ≤ s ∧ s ≤ 6) → x' k d i s = x k d i s) (hA : ∀ k d i s, ¬ (113 ≤ k ∧ k ≤ 116 ∧ s = a) → y' k d i s = y k d i s) (e2 : x' 0 c a 2 = y' 114 0 0 a) (e3 : x' 0 c a 3 = y' 113 0 0 a) (e4 : x' 0 c a 4 = y' 115 0 0 a) (e5 : x' 0 c a 5 = y' 116 0 0 a) (e6 : x' 0 c a 6 = hold (V y') a) : Ins c N x0 y0 p x' y' := by
  refine h.gen (h.1.grp (a := a) (fun k i s q => hx _ _ _ _ (by omega)) (fun k s q => ?_) (e2.trans (ov_ne (A := V y') (p := p) (by decide)).symm) (e3.trans (ov_ne (A := V y') (p := p) (by decide)).symm) (e4.trans (ov_ne (A := V y') (p := p) (by decide)).symm) (e5.trans (ov_ne (A := V y') (p := p) (by decide)).symm) (e6.trans hold_ov.symm)) (fun d q => ⟨by rw [hx _ _ _ _ (by omega)]; exact (h.2.1 d q).1, fun b r => by rw [hx _ _ _ _ (by omega)]; exact (h.2.1 d q).2 b r⟩) (fun k d i s q _ => hx _ _ _ _ (by omega)) (fun k d i s q => hA _ _ _ _ (by omega))
  by_cases e : k = 117
  · subst e
    rfl
  · rw [ov_ne e, ov_ne e]
    exact hA _ _ _ _ q
theorem incx_l {X : Mem} {c : Fin 10} {v : Int32} {f : Nat} (hv : BufOk v) {k : Mem → Option Mem} : (if v = (-1 : Int32) then k X else (bd_ (m_X1_storeAt c v) fun r => lt_ (up4 X 9 ↑r.1 ↑r.2 f (X 9 ↑r.1 ↑r.2 f + 1)) fun x15 => k x15)) = k (incX X c f v) := by
  unfold incX
  rcases buf_neg hv with ⟨e, q⟩ | ⟨b, hb, e, q, q2⟩
  · rw [if_pos e, if_pos q]
  · rw [if_neg q2, if_neg q, e, sto_at hb, e_bd]
    simp only [f4 hb]
    rw [e_lt, tn (show b < 2 ^ 31 by omega)]
theorem incy_l {y : Mem} {v : Int32} {K : Nat} (hv : BufOk v) {k : Mem → Option Mem} : (if v < 0 then k y else (lt_ v fun z => gd_ z 3 (lt_ (up4 y K 0 0 z.toNatClampNeg (y K 0 0 z.toNatClampNeg + 1)) fun y19 => k y19))) = k (inc y K v) := by
  unfold inc
  rcases buf_neg hv with ⟨e, q⟩ | ⟨b, hb, e, q, q2⟩
  · rw [if_pos q, if_pos q]
  · rw [if_neg q, if_neg q, e, e_lt, gd_n hb (by decide), e_lt]
theorem works_y {y : Mem} {a j w : Nat} {q : Int32} (ha : a < 3) (h30 : j < 30) (e113 : y 113 0 0 a = Int32.ofNat j) (e125 : y 125 0 0 j = Int32.ofNat w) : m_X12_works (Int32.ofNat a) q y = some (up4 (up4 (up4 y 114 0 0 a 1) 115 0 0 a q) 116 0 0 a (Int32.ofNat w)) := by
  unfold m_X12_works
  rw [gd_n ha (by decide), e_lt, e_lt, tn (show a < 2 ^ 31 by omega), up4_ne (k' := 113) (by omega), up4_ne (k' := 113) (by omega), e113, gd_n h30 (by decide), e_lt, tn (show j < 2 ^ 31 by omega), up4_ne (k' := 125) (by omega), up4_ne (k' := 125) (by omega), e125]
theorem st_sim {c : Fin 10} {N : Nat} {x0 y0 x y : Mem} {p : Nat → Int32} (h : Ins c N x0 y0 p x y) (hI : Inv (V y)) {a j r : Nat} (ha : a < 3) (h0 : V y 114 a = 0) (h30 : j < 30) (hJ : j < (V y 40 34).toNatClampNeg) (hr : r < 30) (e111 : V y 111 a = Int32.ofNat (r + 1)) (e112 : V y 112 (30 * a) = Int32.ofNat j) (hB : BufA (V y) j) (hC : ∀ b, b < 3 → b ≠ a → hold (V y) b &&& con (V y) (znA (V y) j 0) = 0) (hN : N < 2 ^ 30) : ∃ x' y', m_X1_startJob c (c, Fin.ofNat 4 a) x = some x' ∧ m_X12_starts_l34 (Int32.ofNat a) FU (Int32.ofNat j) 0 (up4 y 111 0 0 a (Int32.ofNat r)) = some y' ∧ Ins c (N + 1) x0 y0 p x' y' ∧ Inv (V y') ∧ XF x x' ∧ YF y y' := by
  have hjok : JobOk (V y) j := by
    obtain ⟨J, hJ30, eJ, hj, -⟩ := id hI
    rw [eJ, tn (by omega)] at hJ
    exact hj j hJ
  obtain ⟨⟨pa, n, e123, e124, hp⟩, ⟨wk, w1, w2, e125⟩, -, hb1, hb2⟩ := hjok
  have hn1 := hp.1
  have hn5 := hp.2.1
  have hpl := path_lt hp
  have ezn : znA (V y) j 0 = dgt pa n 0 := by
    unfold znA
    rw [e123, e124, tn (show n < 2 ^ 31 by omega), tn (show pa < 2 ^ 31 by omega)]
  obtain ⟨-, k1, k2, k3, -, k5, k6, -⟩ := h.1.2.2.2.2.2 j (by rw [ov_ne (by decide)]; exact hJ)
  obtain ⟨-, -, -, -, -, -, -, -, -, -, -, g12, g13⟩ := h.1.2.2.2.1 a ha
  have x12 : x 0 c a 12 = Int32.ofNat (r + 1) := g12.trans ((ov_ne (by decide)).trans e111)
  have xr0 : x 1 c a 0 = Int32.ofNat j := (g13 0 (by rw [ov_ne (by decide), e111, tn (by omega)]; omega)).trans ((ov_ne (by decide)).trans e112)
  have hnum : x 0 c a 0 = Int32.ofNat a := (h.2.1 c c.isLt).2 a ha
  have xt := ins_x2 h
  -- the class's steps and the reference's, in step
  generalize hX3 : up4 (bk x 1 c a 0 r (fun s => x 1 c a (s + 1))) 0 c a 12 (Int32.ofNat r) = X3
  generalize hY3 : blk (up4 y 111 0 0 a (Int32.ofNat r)) 112 (30 * a) r (fun s => y 112 0 0 (30 * a + (s + 1))) = Y3
  have h3 : Ins c N x0 y0 p X3 Y3 := h.row hr e111 hI.row30 hX3.symm hY3.symm
  have oX3 : ∀ k d i s, ¬ (k = 0 ∧ s = 12) → k ≠ 1 → X3 k d i s = x k d i s := fun k d i s q1 q2 => by rw [← hX3, up4_ne (by omega), bk_out (by omega)]
  have oY3 : ∀ k d i s, k ≠ 111 → k ≠ 112 → Y3 k d i s = y k d i s := fun k d i s q1 q2 => by rw [← hY3, blk_out (by omega), up4_ne (by omega)]
  generalize hX11 : up4 (up4 X3 12 c j 7 1) 12 c j 8 (y 40 0 0 33) = X11
  generalize hY11 : up4 (up4 Y3 129 0 0 j 1) 130 0 0 j (y 40 0 0 33) = Y11
  have h11 : Ins c N x0 y0 p X11 Y11 := by
    rw [← hX11, ← hY11]
    exact (h3.job3 h30 (by omega)).job3 h30 (by omega)
  have oX11 : ∀ k d i s, ¬ (k = 0 ∧ s = 12) → k ≠ 1 → ¬ (k = 12 ∧ 7 ≤ s) → X11 k d i s = x k d i s := fun k d i s q1 q2 q3 => by rw [← hX11, up4_ne (by omega), up4_ne (by omega)]; exact oX3 _ _ _ _ q1 q2
  have oY11 : ∀ k d i s, k ≠ 111 → k ≠ 112 → k ≠ 129 → k ≠ 130 → Y11 k d i s = y k d i s := fun k d i s q1 q2 q3 q4 => by rw [← hY11, up4_ne (by omega), up4_ne (by omega)]; exact oY3 _ _ _ _ q1 q2
  have h15 := h11.inn (f := 3) (K := 107) hb1 (by omega)
  have h19 := h15.inn (f := 2) (K := 106) hb2 (by omega)
  generalize hX19 : incX (incX X11 c 3 (V y 127 j)) c 2 (V y 128 j) = X19 at h19
  generalize hY19 : inc (inc Y11 107 (V y 127 j)) 106 (V y 128 j) = Y19 at h19
  have oX19 : ∀ k d i s, ¬ (k = 0 ∧ s = 12) → k ≠ 1 → ¬ (k = 12 ∧ 7 ≤ s) → k ≠ 9 → X19 k d i s = x k d i s := fun k d i s q1 q2 q3 q4 => by rw [← hX19, incX_o q4, incX_o q4]; exact oX11 _ _ _ _ q1 q2 q3
  have oY19 : ∀ k d i s, k ≠ 111 → k ≠ 112 → k ≠ 129 → k ≠ 130 → k ≠ 107 → k ≠ 106 → Y19 k d i s = y k d i s := fun k d i s q1 q2 q3 q4 q5 q6 => by rw [← hY19, inc_o q6, inc_o q5]; exact oY11 _ _ _ _ q1 q2 q3 q4
  generalize hX23 : up4 (up4 (up4 (up4 (up4 X19 0 c a 3 (Int32.ofNat j)) 0 c a 2 1) 0 c a 4 0) 0 c a 5 (Int32.ofNat wk)) 0 c a 6 (bit (dgt pa n 0)) = X23
  generalize hY23 : up4 (up4 (up4 (up4 Y19 113 0 0 a (Int32.ofNat j)) 114 0 0 a 1) 115 0 0 a 0) 116 0 0 a (Int32.ofNat wk) = Y23
  have oX23 : ∀ k d i s, ¬ (k = 0 ∧ d = (c : Nat) ∧ i = a ∧ 2 ≤ s ∧ s ≤ 6) → X23 k d i s = X19 k d i s := fun k d i s q => by rw [← hX23, up4_ne (by omega), up4_ne (by omega), up4_ne (by omega), up4_ne (by omega), up4_ne (by omega)]
  have oY23 : ∀ k d i s, ¬ (113 ≤ k ∧ k ≤ 116 ∧ s = a) → Y23 k d i s = Y19 k d i s := fun k d i s q => by rw [← hY23, up4_ne (by omega), up4_ne (by omega), up4_ne (by omega), up4_ne (by omega)]
  have f113 : Y23 113 0 0 a = Int32.ofNat j := by rw [← hY23, up4_ne (by omega), up4_ne (by omega), up4_ne (by omega), up4_eq]
  have f114 : Y23 114 0 0 a = 1 := by rw [← hY23, up4_ne (by omega), up4_ne (by omega), up4_eq]
  have f115 : Y23 115 0 0 a = 0 := by rw [← hY23, up4_ne (by omega), up4_eq]
  have f116 : Y23 116 0 0 a = Int32.ofNat wk := by rw [← hY23, up4_eq]
  have hholdY : hold (V Y23) a = bit (dgt pa n 0) := by
    unfold hold
    rw [if_neg (by rw [show V Y23 114 a = 1 from f114]; exact no1), if_neg (by rw [show V Y23 114 a = 1 from f114]; decide)]
    have e0 : apos (V Y23) a = 0 := by unfold apos; rw [show V Y23 115 a = 0 from f115]; rfl
    have e2 : ajob (V Y23) a = j := by unfold ajob; rw [show V Y23 113 a = Int32.ofNat j from f113, tn (by omega)]
    have e1 : znA (V Y23) j 0 = dgt pa n 0 := by
      rw [← ezn]
      unfold znA
      rw [show V Y23 123 j = V y 123 j from (oY23 _ _ _ _ (by omega)).trans (oY19 _ _ _ _ (by omega) (by omega) (by omega) (by omega) (by omega) (by omega)), show V Y23 124 j = V y 124 j from (oY23 _ _ _ _ (by omega)).trans (oY19 _ _ _ _ (by omega) (by omega) (by omega) (by omega) (by omega) (by omega))]
    rw [e0, e2, e1]
  have h23 : Ins c N x0 y0 p X23 Y23 := h19.grp (a := a) oX23 oY23 (by rw [f114, ← hX23, up4_ne (by omega), up4_ne (by omega), up4_ne (by omega), up4_eq]) (by rw [f113, ← hX23, up4_ne (by omega), up4_ne (by omega), up4_ne (by omega), up4_ne (by omega), up4_eq]) (by rw [f115, ← hX23, up4_ne (by omega), up4_ne (by omega), up4_eq]) (by rw [f116, ← hX23, up4_ne (by omega), up4_eq]) (by rw [hholdY, ← hX23, up4_eq])
  obtain ⟨M, x', eadd, enote, hL, oL⟩ := h23.log hN (Int32.ofNat a) 0 (Int32.ofNat (dgt pa n 0))
  have t23 : Y23 40 0 0 33 = y 40 0 0 33 := (oY23 _ _ _ _ (by omega)).trans (oY19 _ _ _ _ (by omega) (by omega) (by omega) (by omega) (by omega) (by omega))
  rw [t23] at eadd
  refine ⟨x', nY Y23 M (Int32.ofNat a) 0 (Int32.ofNat (dgt pa n 0)), ?_, ?_, hL, ?_, fun k b i s q => ?_, ⟨fun s => ?_, fun s => ?_, ?_⟩⟩
  · unfold m_X1_startJob
    have ez3 : m_X5_zoneAt (c, Fin.ofNat 31 j) 0 X3 = some (Int32.ofNat (dgt pa n 0)) := zone_x (x := X3) (q := 0) (by rw [f31 h30, oX3 _ _ _ _ (by omega) (by omega)]; exact k1.trans ((ov_ne (by decide)).trans e123)) (by rw [f31 h30, oX3 _ _ _ _ (by omega) (by omega)]; exact k2.trans ((ov_ne (by decide)).trans e124)) hp (by omega)
    rw [row_x ha x12 hr, hX3, e_bd2, e_lt, xr0, job_at h30, e_bd, ez3, e_bd, e_lt]
    simp only [f4 ha, f31 h30]
    rw [e_lt, e_lt, up4_ne (k' := 2) (by omega), oX3 2 _ _ _ (by omega) (by omega), xt, hX11, show X11 12 c j 5 = V y 127 j from (oX11 _ _ _ _ (by omega) (by omega) (by omega)).trans (k5.trans (ov_ne (by decide))), incx_l hb1 (k := m_X1_startJob_j56 c (c, Fin.ofNat 4 a) (Int32.ofNat j) (c, Fin.ofNat 31 j) (Int32.ofNat (dgt pa n 0)))]
    unfold m_X1_startJob_j56
    simp only [f31 h30]
    rw [show incX X11 c 3 (V y 127 j) 12 c j 6 = V y 128 j from (incX_o (by omega)).trans ((oX11 _ _ _ _ (by omega) (by omega) (by omega)).trans (k6.trans (ov_ne (by decide)))), incx_l hb2 (k := m_X1_startJob_j81 c (c, Fin.ofNat 4 a) (Int32.ofNat j) (c, Fin.ofNat 31 j) (Int32.ofNat (dgt pa n 0))), hX19]
    unfold m_X1_startJob_j81 m_X0_workAt
    simp only [f4 ha, f31 h30]
    rw [e_lt, e_lt, e_lt, e_lt, e_lt, e_bd, up4_ne (k' := 12) (by omega), show X19 12 c j 3 = Int32.ofNat wk from (oX19 _ _ _ _ (by omega) (by omega) (by omega) (by omega)).trans (k3.trans ((ov_ne (by decide)).trans e125)), one_bit, hX23, show X23 2 c 0 0 = y 40 0 0 33 from ins_x2 h23 |>.trans t23, show X23 0 c a 0 = Int32.ofNat a from (h23.2.1 c c.isLt).2 a ha, eadd, e_bd]
  · have hl := stl_y (y := up4 y 111 0 0 a (Int32.ofNat r)) (j := j) ha hr up4_eq rfl FU 0 (Nat.zero_le _) (by unfold FU; omega)
    rw [blk_0, ← z0, show (fun s => up4 y 111 0 0 a (Int32.ofNat r) 112 0 0 (30 * a + (s + 1))) = (fun s => y 112 0 0 (30 * a + (s + 1))) from funext fun s => up4_ne (by omega), hY3] at hl
    rw [hl]
    unfold m_X12_starts_b34 m_X12_starts_j122 m_X12_starts_j146
    rw [gd_n ha (by decide), tn (show a < 2 ^ 31 by omega), show Y3 111 0 0 a = Int32.ofNat r by rw [← hY3, blk_out (by omega), up4_eq], if_pos ((le_n (by omega) (by omega)).mpr (Nat.le_refl _)), e_lt, gd_n h30 (by decide), e_lt, e_lt, tn (show j < 2 ^ 31 by omega), up4_comm (k := 113) (k1 := 129) (by omega), up4_ne (k' := 40) (by omega), up4_ne (k' := 40) (by omega), oY3 40 _ _ _ (by omega) (by omega), up4_comm (k := 113) (k1 := 130) (by omega), hY11]
    generalize hYa : up4 Y11 113 0 0 a (Int32.ofNat j) = Ya
    have q1 : Ya 127 0 0 j = V y 127 j := by rw [← hYa, up4_ne (by omega)]; exact oY11 _ _ _ _ (by omega) (by omega) (by omega) (by omega)
    have q2 : inc Ya 107 (V y 127 j) 128 0 0 j = V y 128 j := by rw [inc_o (by omega), ← hYa, up4_ne (by omega)]; exact oY11 _ _ _ _ (by omega) (by omega) (by omega) (by omega)
    rw [q1, incy_l hb1 (k := fun y => gd_ (Int32.ofNat j) 30 (if y 128 0 0 j < 0 then (bd_ (m_X12_works (Int32.ofNat a) 0 y) fun y31 => bd_ (m_X12_zoneAt (Int32.ofNat j) 0 y31) fun r33 => bd_ (m_X12_notes (Int32.ofNat a) 0 r33 y31) fun y36 => some y36) else lt_ (y 128 0 0 j) fun z26 => gd_ z26 3 (lt_ (up4 y 106 0 0 z26.toNatClampNeg (y 106 0 0 z26.toNatClampNeg + 1)) fun y28 => (bd_ (m_X12_works (Int32.ofNat a) 0 y28) fun y31 => bd_ (m_X12_zoneAt (Int32.ofNat j) 0 y31) fun r33 => bd_ (m_X12_notes (Int32.ofNat a) 0 r33 y31) fun y36 => some y36))))]
    rw [gd_n h30 (by decide), q2, incy_l hb2 (k := fun y => (bd_ (m_X12_works (Int32.ofNat a) 0 y) fun y31 => bd_ (m_X12_zoneAt (Int32.ofNat j) 0 y31) fun r33 => bd_ (m_X12_notes (Int32.ofNat a) 0 r33 y31) fun y36 => some y36)), ← hYa, inc_up (by omega), inc_up (by omega), hY19, works_y ha h30 up4_eq (show up4 Y19 113 0 0 a (Int32.ofNat j) 125 0 0 j = Int32.ofNat wk by rw [up4_ne (by omega)]; exact (oY19 _ _ _ _ (by omega) (by omega) (by omega) (by omega) (by omega) (by omega)).trans e125), e_bd, hY23]
    have ez : m_X12_zoneAt (Int32.ofNat j) 0 Y23 = some (Int32.ofNat (dgt pa n 0)) := zone_y (q := 0) h30 ((oY23 _ _ _ _ (by omega)).trans ((oY19 _ _ _ _ (by omega) (by omega) (by omega) (by omega) (by omega) (by omega)).trans e123)) ((oY23 _ _ _ _ (by omega)).trans ((oY19 _ _ _ _ (by omega) (by omega) (by omega) (by omega) (by omega) (by omega)).trans e124)) hp (by omega)
    rw [ez, e_bd, enote Y23 rfl, e_bd]
  · have oN : ∀ k s, k ≠ 132 → ¬ (k = 40 ∧ s = 40) → V (nY Y23 M (Int32.ofNat a) 0 (Int32.ofNat (dgt pa n 0))) k s = Y23 k 0 0 s := fun k s q1 q2 => nY_o ⟨q1, q2⟩
    have o106 : ∀ d, d < 3 → Y23 106 0 0 d = V y 106 d + Int32.ofNat (one (V y 128 j = Int32.ofNat d)) := fun d hd => by
      rw [oY23 _ _ _ _ (by omega), ← hY19, inc_at hb2 hd, inc_o (by omega), oY11 _ _ _ _ (by omega) (by omega) (by omega) (by omega)]
      rfl
    have o107 : ∀ d, d < 3 → Y23 107 0 0 d = V y 107 d + Int32.ofNat (one (V y 127 j = Int32.ofNat d)) := fun d hd => by
      rw [oY23 _ _ _ _ (by omega), ← hY19, inc_o (by omega), inc_at hb1 hd, oY11 _ _ _ _ (by omega) (by omega) (by omega) (by omega)]
      rfl
    have o111 : Y23 111 0 0 a = Int32.ofNat r := by
      rw [oY23 _ _ _ _ (by omega), ← hY19, inc_o (by omega), inc_o (by omega), ← hY11, up4_ne (by omega), up4_ne (by omega), ← hY3, blk_out (by omega), up4_eq]
    have o111' : ∀ s, s ≠ a → Y23 111 0 0 s = y 111 0 0 s := fun s q => by
      rw [oY23 _ _ _ _ (by omega), ← hY19, inc_o (by omega), inc_o (by omega), ← hY11, up4_ne (by omega), up4_ne (by omega), ← hY3, blk_out (by omega), up4_ne (by omega)]
    have o112 : ∀ k, k < r → Y23 112 0 0 (30 * a + k) = V y 112 (30 * a + (k + 1)) := fun k hk => by
      rw [oY23 _ _ _ _ (by omega), ← hY19, inc_o (by omega), inc_o (by omega), ← hY11, up4_ne (by omega), up4_ne (by omega), ← hY3, blk_in (by omega) (by omega), Nat.add_sub_cancel_left]
      rfl
    have o112' : ∀ s, ¬ (30 * a ≤ s ∧ s < 30 * a + 30) → Y23 112 0 0 s = y 112 0 0 s := fun s q => by
      rw [oY23 _ _ _ _ (by omega), ← hY19, inc_o (by omega), inc_o (by omega), ← hY11, up4_ne (by omega), up4_ne (by omega), ← hY3, blk_out (by omega), up4_ne (by omega)]
    refine hI.start (j := j) (r := r) (z := znA (V y) j 0) ha h0 hJ hr e111 hB rfl hC ((oN _ _ (by omega) (by omega)).trans o111) (fun k hk => (oN _ _ (by omega) (by omega)).trans (o112 k hk)) ((oN _ _ (by omega) (by omega)).trans f113) ((oN _ _ (by omega) (by omega)).trans f114) ((oN _ _ (by omega) (by omega)).trans f115) ((oN _ _ (by omega) (by omega)).trans (f116.trans e125.symm)) (fun d hd => (oN _ _ (by omega) (by omega)).trans (o106 d hd)) (fun d hd => (oN _ _ (by omega) (by omega)).trans (o107 d hd)) (fun k s q q1 q2 q3 q4 q5 => ?_)
    unfold RdK at q
    rw [oN _ _ (by omega) (by omega)]
    by_cases e1 : k = 111
    · subst e1
      exact o111' s (fun e => q1 ⟨rfl, e⟩)
    by_cases e2 : k = 112
    · subst e2
      exact o112' s (fun e => q2 ⟨rfl, e⟩)
    rw [oY23 _ _ _ _ q3]
    exact oY19 _ _ _ _ e1 e2 (by omega) (by omega) q5 q4
  · rw [oL _ _ _ _ (by omega), oX23 _ _ _ _ (by omega), oX19 _ _ _ _ (by omega) (by omega) (by omega) (by omega)]
  · rw [nY_o (by omega), oY23 _ _ _ _ (by omega), oY19 _ _ _ _ (by omega) (by omega) (by omega) (by omega) (by omega) (by omega)]
  · rw [nY_o (by omega), oY23 _ _ _ _ (by omega), oY19 _ _ _ _ (by omega) (by omega) (by omega) (by omega) (by omega) (by omega)]
  · rw [nY_o (by omega), oY23 _ _ _ _ (by omega), oY19 _ _ _ _ (by omega) (by omega) (by omega) (by omega) (by omega) (by omega)]
