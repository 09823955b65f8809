/-! withdraw -/
theorem Rep.rl {x : Mem} {c N a r : Nat} {A : St} (hR : Rep x c A N) (hr : r < 30) (e : A 111 a = Int32.ofNat (r + 1)) : Rep (up4 x 0 c a 12 (Int32.ofNat r)) c (S4 A 111 a (Int32.ofNat r)) N := by
  refine hR.of_arm (a := a) (fun k i s h => up4_ne (by omega)) (fun k s h => S4_ne (by omega)) (fun k b _ _ _ _ _ => S4_ne (by omega)) (fun b k _ _ _ => S4_ne (by omega)) (fun ha => ?_)
  obtain ⟨g1, g2, g3, g4, g5, g6, g7, g8, g9, g10, g11, g12, g13⟩ := hR.2.2.2.1 a ha
  have hh : hold (S4 A 111 a (Int32.ofNat r)) a = hold A a := hold_kp (S4_ne (by omega)) (S4_ne (by omega)) (S4_ne (by omega)) (S4_ne (by omega)) (S4_ne (by omega))
  refine ⟨?_, ?_, ?_, ?_, ?_, ?_, ?_, ?_, ?_, ?_, ?_, ?_, fun k hk => ?_⟩
  · rw [up4_ne (by omega), S4_ne (by omega)]; exact g1
  · rw [up4_ne (by omega), S4_ne (by omega)]; exact g2
  · rw [up4_ne (by omega), S4_ne (by omega)]; exact g3
  · rw [up4_ne (by omega), S4_ne (by omega)]; exact g4
  · rw [up4_ne (by omega), S4_ne (by omega)]; exact g5
  · rw [up4_ne (by omega), hh]; exact g6
  · rw [up4_ne (by omega), S4_ne (by omega)]; exact g7
  · rw [up4_ne (by omega), S4_ne (by omega)]; exact g8
  · rw [up4_ne (by omega), S4_ne (by omega)]; exact g9
  · rw [up4_ne (by omega), S4_ne (by omega)]; exact g10
  · rw [up4_ne (by omega), S4_ne (by omega)]; exact g11
  · rw [up4_eq, S4_eq]
  · rw [S4_eq, tn (by omega)] at hk
    rw [up4_ne (by omega), S4_ne (by omega)]
    exact g13 k (by rw [e, tn (by omega)]; omega)
theorem Inv.rl {A : St} {a r : Nat} (hI : Inv A) (hr : r < 30) (e : A 111 a = Int32.ofNat (r + 1)) : Inv (S4 A 111 a (Int32.ofNat r)) := by
  obtain ⟨J, hJ, eJ, hj, hA, hS, hZ, hD⟩ := hI
  have o : ∀ k s, k ≠ 111 → S4 A 111 a (Int32.ofNat r) k s = A k s := fun k s q => S4_ne (by omega)
  refine ⟨J, hJ, (o _ _ (by omega)).trans eJ, fun i q => (hj i q).kp (fun k _ _ => o _ _ (by omega)), fun b q => ?_, fun d q => (hS d q).kp (fun k _ _ _ => o _ _ (by omega)) (fun k _ => o _ _ (by omega)) (cntB_kp (fun _ _ => o _ _ (by omega)) (fun _ _ => o _ _ (by omega)) (fun _ _ => o _ _ (by omega))) (cntB_kp (fun _ _ => o _ _ (by omega)) (fun _ _ => o _ _ (by omega)) (fun _ _ => o _ _ (by omega))), hZ.kp (fun _ _ => o _ _ (by omega)), hD.kp (fun _ _ => hold_kp (o _ _ (by omega)) (o _ _ (by omega)) (o _ _ (by omega)) (o _ _ (by omega)) (o _ _ (by omega)))⟩
  by_cases hb : b = a
  · subst hb
    obtain ⟨g, r', g2, g3, g4⟩ := hA b q
    have hrr : r' = r + 1 := (eq_n (by omega) (by omega)).mp (g2.symm.trans e)
    refine ⟨?_, r, S4_eq, by omega, fun k hk => ?_⟩
    · rw [o 113 _ (by omega), o 114 _ (by omega), o 115 _ (by omega), o 116 _ (by omega)]
      refine g.imp id fun ⟨j, p, n, w1, w2, w3, w4, w5⟩ => ⟨j, p, n, w1, ?_, ?_, ?_, ?_⟩
      · rw [o _ _ (by omega)]; exact w2
      · rw [o _ _ (by omega)]; exact w3
      · rw [o _ _ (by omega)]; exact w4
      · rw [o 114 _ (by omega), o 116 _ (by omega)]; exact w5
    · obtain ⟨i, i1, i2⟩ := g4 k (by omega)
      exact ⟨i, i1, (o _ _ (by omega)).trans i2⟩
  · exact (hA b q).kp (Nat.le_refl _) hJ (fun k u v w => S4_ne (by omega)) (fun k hk => o _ _ (by omega)) (fun i _ => o _ _ (by omega))
theorem sim_withdraw : Sim_withdraw Rel := by
  intro i x y p0 hi hR
  by_cases h1 : p0 < 0 ∨ (2 : Int32) < p0
  · refine ⟨1, 0, x, 0, up4 y 40 0 0 0 1, ?_, ?_, by decide, up4_eq, (fun h => absurd h (by decide)), (hR.th 1).up⟩
    · unfold m_X11_withdraw m_X11_needArm
      rw [iw_out h1, e_bd, if_pos rfl]
      rfl
    · unfold m_X12_withdraw m_X12_isArm m_X12_fails
      rw [ib_out h1, e_bd, e_gb0, e_bd, if_pos rfl]
      rfl
  have i1 := iw_in h1
  have i2 := ib_in h1
  obtain ⟨a, ha, rfl⟩ := ex_n (n := 2) (fun q => h1 (Or.inl q)) (fun q => h1 (Or.inr q)) (by decide)
  have ha3 : a < 3 := by omega
  obtain ⟨-, -, -, -, -, -, -, -, -, -, -, g12, -⟩ := hR.2.1.1.2.2.2.1 a ha3
  replace g12 : x 0 ((0 : Fin 10) : Nat) a 12 = y 111 0 0 a := g12
  by_cases hz : y 111 0 0 a = 0
  · refine ⟨5, 0, x, 0, up4 y 40 0 0 0 2, ?_, ?_, by decide, up4_eq, (fun h => absurd h (by decide)), (hR.th 2).up⟩
    · unfold m_X11_withdraw m_X11_needArm
      rw [i1, e_bd, if_neg no1, e_bx0, arm_at ha3, e_bd]
      simp only [f4 ha3]
      rw [g12, if_pos hz]
    · unfold m_X12_withdraw m_X12_isArm m_X12_fails
      rw [i2, e_bd, e_gb1, e_bd, if_neg no1, gd_n ha3 (by decide), tn (show a < 2 ^ 31 by omega), if_pos hz]
      rfl
  obtain ⟨x', y', e1, e2, g1, g2, g3, -, g5, -⟩ := keep_sim (hR.th 0)
  have hins := g1.ins
  have hI : Inv (V y') := g1.2.1.2
  obtain ⟨J, hJ, eJ, hj, hA, -⟩ := id hI
  obtain ⟨-, r0, w1, w2, w3⟩ := hA a ha3
  have hz' : ¬ V y' 111 a = 0 := by
    rw [← g2 111 a (mn3 (by decide) ha3)]
    exact hz
  obtain ⟨r, rfl⟩ : ∃ r, r0 = r + 1 := ⟨r0 - 1, by
    have : r0 ≠ 0 := fun e => hz' (by rw [w1, e]; rfl)
    omega⟩
  obtain ⟨j, j1, j2⟩ := w3 r (by omega)
  have h30 : j < 30 := by omega
  obtain ⟨-, -, -, -, -, -, -, -, -, -, -, k12, k13⟩ := g1.2.1.1.2.2.2.1 a ha3
  have x12 : x' 0 ((0 : Fin 10) : Nat) a 12 = Int32.ofNat (r + 1) := k12.trans w1
  have xr : x' 1 ((0 : Fin 10) : Nat) a r = Int32.ofNat j := (k13 r (by rw [w1, tn (by omega)]; omega)).trans j2
  have x3 : x' 2 ((0 : Fin 10) : Nat) 0 3 = y' 40 0 0 38 := g1.2.1.1.1.2.2.2.1
  have s1' : Ins 0 (SAT * i) x' y' (V y' 117) (up4 x' 0 0 a 12 (Int32.ofNat r)) (up4 y' 111 0 0 a (Int32.ofNat r)) := hins.up (Rep.rl hins.1 (by omega) ((ov_ne (by decide)).trans w1)) (by decide) (by omega) (by omega) (by omega) (by omega)
  have s2 := (s1'.job3 (f := 7) (K := 129) (v := 3) h30 (by omega)).sca (f := 3) (K := 38) (v := y' 40 0 0 38 + 1) (by omega)
  refine ⟨0, Int32.ofNat j, _, Int32.ofNat j, _, ?_, ?_, by decide, ?_, fun _ => rfl, Ins.fin g1 s2 (by rw [satS]; omega) (fun s => by rw [up4_ne (by omega), up4_ne (by omega), up4_ne (by omega)]) ?_⟩
  · unfold m_X11_withdraw m_X11_needArm m_X1_takeBackLast m_X0_takeLastOfRow m_X0_rowAt
    rw [i1, e_bd, if_neg no1, e_bx0, arm_at ha3, e_bd]
    simp only [f4 ha3]
    rw [g12, if_neg hz, e1, e_bd, e_bd]
    simp only [f4 ha3]
    rw [x12, s1, if_neg (ge0 (by omega)), if_neg (le_f (by omega) (by omega) (by omega)), if_neg (show ¬ (30 : Int32) ≤ Int32.ofNat r from le_f (a := 30) (by decide) (by omega) (by omega)), gd_n (show r < 30 by omega) (by decide), tn (show r < 2 ^ 31 by omega), xr, e_bd, e_lt, if_neg (gt0 (by omega)), e_lt, e_bd2, e_lt, job_at h30, e_bd]
    simp only [f31 h30]
    rw [e_lt, e_lt, e_bd2, up4_ne (k' := 2) (by omega), up4_ne (k' := 2) (by omega), x3]
    rfl
  · unfold m_X12_withdraw m_X12_isArm
    rw [i2, e_bd, e_gb1, e_bd, if_neg no1, gd_n ha3 (by decide), tn (show a < 2 ^ 31 by omega), if_neg hz, e_lt, e2, e_bd, e_lt, show y' 111 0 0 a = Int32.ofNat (r + 1) from w1, s1, up4_eq, m30, gd_n (show 30 * a + r < 90 by omega) (by decide), tn (show 30 * a + r < 2 ^ 31 by omega), e_lt, up4_ne (k' := 112) (by omega), show y' 112 0 0 (30 * a + r) = Int32.ofNat j from j2, gd_n h30 (by decide), e_lt, e_lt, tn (show j < 2 ^ 31 by omega), up4_ne (k' := 40) (by omega), up4_ne (k' := 40) (by omega)]
  · rw [up4_ne (by omega), up4_ne (by omega), up4_ne (by omega), g5, up4_eq]
    rfl
  · refine Inv.wy (Inv.wy ?_ (by unfold RdK; omega)) (by unfold RdK; omega)
    rw [V_up]
    exact hI.rl (by omega) w1
/-! INTERLOCKS -/
theorem sumT_upd {f g : Nat → Int32} {d : Int32} {i : Nat} : ∀ n, i < n → (∀ k, k < n → k ≠ i → g k = f k) → g i = f i + d → sumT n g = sumT n f + d
  | 0, h, _, _ => by omega
  | n + 1, h, ho, hi => by
    show sumT n g + g n = sumT n f + f n + d
    by_cases e : i = n
    · subst e
      rw [hi, sumT_congr i (fun k hk => ho k (by omega) (by omega)), Int32.add_assoc]
    · rw [sumT_upd n (by omega) (fun k hk => ho k (by omega)) hi, ho n (by omega) (fun w => e w.symm), Int32.add_assoc, Int32.add_comm d, ← Int32.add_assoc]
/-- one pair of zones changes -/
theorem icnt_upd {A A' : St} {hi lo : Nat} {d : Int32} (h8 : hi < 8) (hl : lo < hi) (ho : ∀ z k, z < 8 → k < z → ¬ (z = hi ∧ k = lo) → bz (A' 101 z) k = bz (A 101 z) k) (hd : bz (A' 101 hi) lo = bz (A 101 hi) lo + d) : icnt A' = icnt A + d := by
  unfold icnt
  refine sumT_upd (i := hi) 8 h8 (fun z hz hne => sumT_congr z fun k hk => ho z k hz hk (fun w => hne w.1)) ?_
  exact sumT_upd (i := lo) hi hl (fun k hk hne => ho hi k h8 hk (fun w => hne w.2)) hd
theorem bz_tb {v : Int32} {k : Nat} (hk : k < 32) : bz v k = if tb v k = true then 1 else 0 := sar_bit hk
def flip (v : Int32) (w : Nat) (made : Int32) : Int32 := if made = 0 then v &&& (bit w ^^^ (-1)) else v ||| bit w
theorem tb_flip {v : Int32} {w k : Nat} {made : Int32} (hw : w < 32) (hk : k < 32) : tb (flip v w made) k = if k = w then decide (made ≠ 0) else tb v k := by
  unfold flip
  by_cases hm : made = 0
  · rw [if_pos hm, tb_and, tb_not hk, tb_bit hw hk]
    by_cases e : k = w
    · simp [e, hm]
    · simp [e]
  · rw [if_neg hm, tb_or, tb_bit hw hk]
    by_cases e : k = w
    · simp [e, hm]
    · simp [e]
theorem flip_same {v : Int32} {w : Nat} {made : Int32} (hw : w < 32) (h : tb v w = decide (made ≠ 0)) : flip v w made = v := by
  apply tb_ext
  intro k hk
  rw [tb_flip hw hk]
  by_cases e : k = w
  · rw [if_pos e, e, h]
  · rw [if_neg e]
theorem xor_flip {v : Int32} {o w : Nat} {made : Int32} (ho : o < 32) (hw : w < 32) (how : o ≠ w) (h : tb v w = !decide (made ≠ 0)) : (v ||| bit o) ^^^ bit w = flip v w made ||| bit o := by
  apply tb_ext
  intro k hk
  have ex : tb ((v ||| bit o) ^^^ bit w) k = (tb (v ||| bit o) k ^^ tb (bit w) k) := by
    unfold tb
    rw [Int32.toBitVec_xor, BitVec.getLsbD_xor]
  rw [ex, tb_or, tb_or, tb_flip hw hk, tb_bit ho hk, tb_bit hw hk]
  by_cases e : k = w
  · subst e
    have : ¬ k = o := fun e => how e.symm
    simp [this, h]
  · simp [e]
theorem flip_lt {v : Int32} {w m : Nat} {made : Int32} (hw : w < 8) (hm : m < 256) (e : v = Int32.ofNat m) : ∃ m' : Nat, m' < 256 ∧ flip v w made = Int32.ofNat m' := by
  subst e
  by_cases h : made = 0
  · have key : ∀ w, w < 8 → ∀ m, m < 256 → ∃ m', m' < 256 ∧ Int32.ofNat m &&& (bit w ^^^ (-1)) = Int32.ofNat m' := fun w hw m hm => by
      have k2 : ∀ w, w < 8 → ∀ m, m < 256 → (Int32.ofNat m &&& (bit w ^^^ (-1))).toNatClampNeg < 256 ∧ Int32.ofNat (Int32.ofNat m &&& (bit w ^^^ (-1))).toNatClampNeg = Int32.ofNat m &&& (bit w ^^^ (-1)) := by decide +kernel
      exact ⟨_, (k2 w hw m hm).1, (k2 w hw m hm).2.symm⟩
    unfold flip
    rw [if_pos h]
    exact key w hw m hm
  · have key : ∀ w, w < 8 → ∀ m, m < 256 → ∃ m', m' < 256 ∧ Int32.ofNat m ||| bit w = Int32.ofNat m' := fun w hw m hm => by
      have k2 : ∀ w, w < 8 → ∀ m, m < 256 → (Int32.ofNat m ||| bit w).toNatClampNeg < 256 ∧ Int32.ofNat (Int32.ofNat m ||| bit w).toNatClampNeg = Int32.ofNat m ||| bit w := by decide +kernel
      exact ⟨_, (k2 w hw m hm).1, (k2 w hw m hm).2.symm⟩
    unfold flip
    rw [if_neg h]
    exact key w hw m hm
theorem locks_y {y : Mem} {o w : Nat} {made : Int32} (ho : o < 8) (hw : w < 8) (how : o ≠ w) : m_X12_locks (Int32.ofNat o) (Int32.ofNat w) made y = some (up4 (up4 y 101 0 0 o (flip (y 101 0 0 o) w made)) 101 0 0 w (flip (y 101 0 0 w) o made)) := by
  unfold m_X12_locks m_X12_locks_j34 m_X12_locks_j69 flip
  by_cases h : made = 0
  · rw [if_pos h, if_pos h, if_pos h, gd_n ho (by decide), gd_n ho (by decide), e_lt, if_pos h, gd_n hw (by decide), gd_n hw (by decide), e_lt, tn (show o < 2 ^ 31 by omega), tn (show w < 2 ^ 31 by omega), up4_ne (k' := 101) (s' := w) (by omega), one_bit, one_bit]
  · rw [if_neg h, if_neg h, if_neg h, gd_n ho (by decide), gd_n ho (by decide), e_lt, if_neg h, gd_n hw (by decide), gd_n hw (by decide), e_lt, tn (show o < 2 ^ 31 by omega), tn (show w < 2 ^ 31 by omega), up4_ne (k' := 101) (s' := w) (by omega), one_bit, one_bit]
theorem hasI_x {x : Mem} {c : Fin 10} {A : St} {o w : Nat} (ho : o < 8) (hw : w < 8) (how : o ≠ w) (h4 : ∀ z, z < 8 → x 4 c 0 z = con A z) : m_X10_hasInterlock c (Int32.ofNat o) (Int32.ofNat w) x = some (if tb (A 101 o) w = true then 1 else 0) := by
  unfold m_X10_hasInterlock
  have i1 : m_X11_isWithin (Int32.ofNat w) 0 7 = some 1 := iw_in (fun q => by
    rcases q with q | q
    · exact ge0 (by omega) q
    · have := (lt_n (a := 7) (by decide) (show w < 2 ^ 31 by omega)).mp q
      omega)
  rw [if_neg (fun q => how ((eq_n (by omega) (by omega)).mp q)), i1, e_bd, if_neg no1, cof_x ho h4, e_bd, one_bit]
  have e : con A o &&& bit w = 0 ↔ tb (A 101 o) w = false := by
    rw [and_bit (by omega)]
    unfold con
    rw [tb_or, tb_bit (by omega) (by omega)]
    have : ¬ w = o := fun e => how e.symm
    simp [this]
  cases t : tb (A 101 o) w with
  | true => rw [if_neg (fun q => by rw [e, t] at q; exact absurd q (by decide)), if_pos rfl]
  | false => rw [if_pos (e.mpr t), if_neg (by decide)]
theorem lk_sim {c : Fin 10} {N : Nat} {x0 y0 x y : Mem} (h : Ins c N x0 y0 (V y 117) x y) (hI : Inv (V y)) {o w : Nat} {made : Int32} (hm : made = 0 ∨ made = 1) (ho : o < 8) (hw : w < 8) (how : o ≠ w) : ∃ x' y', m_X10_putInterlock c (Int32.ofNat o) (Int32.ofNat w) made x = some ((if tb (y 101 0 0 o) w = true then 1 else 0), x') ∧ m_X12_locks (Int32.ofNat o) (Int32.ofNat w) made y = some y' ∧ Ins c N x0 y0 (V y' 117) x' y' ∧ Inv (V y') := by
  have h4 : ∀ z, z < 8 → x 4 c 0 z = con (V y) z := h.1.con
  have hZ : ZonesOk (V y) := by
    obtain ⟨J, -, -, -, -, -, hz, -⟩ := hI
    exact hz
  have hsym : tb (V y 101 o) w = tb (V y 101 w) o := by
    have := hZ.2 o w ho hw
    rw [and_bit (by omega), and_bit (by omega)] at this
    cases t1 : tb (V y 101 o) w <;> cases t2 : tb (V y 101 w) o <;> simp_all
  unfold m_X10_putInterlock
  rw [hasI_x ho hw how h4, e_bd, e_lt, locks_y ho hw how]
  have eif : (if tb (V y 101 o) w = true then (1 : Int32) else 0) = (if tb (y 101 0 0 o) w = true then 1 else 0) := rfl
  rw [eif]
  by_cases hs : (if tb (y 101 0 0 o) w = true then (1 : Int32) else 0) = made
  · have ht : tb (y 101 0 0 o) w = decide (made ≠ 0) := by
      rw [← hs]
      cases tb (y 101 0 0 o) w <;> rfl
    have ht2 : tb (y 101 0 0 w) o = decide (made ≠ 0) := by
      rw [← ht]
      exact hsym.symm
    rw [if_pos hs, flip_same (by omega) ht, flip_same (by omega) ht2, up4_self, up4_self]
    refine ⟨x, y, ?_, rfl, h, hI⟩
    cases tb (y 101 0 0 o) w <;> rfl
  · have ht : tb (y 101 0 0 o) w = !decide (made ≠ 0) := by
      rcases hm with rfl | rfl
      · cases t : tb (y 101 0 0 o) w
        · rw [t] at hs; exact absurd rfl hs
        · rfl
      · cases t : tb (y 101 0 0 o) w
        · rfl
        · rw [t] at hs; exact absurd rfl hs
    have ht2 : tb (y 101 0 0 w) o = !decide (made ≠ 0) := by
      rw [← ht]
      exact hsym.symm
    have d1' : x 4 c 0 o = y 101 0 0 o ||| bit o := h4 o ho
    have d2' : x 4 c 0 w = y 101 0 0 w ||| bit w := h4 w hw
    have e30 : x 3 c 0 0 = icnt (V y) := h.1.2.1.1.trans (icnt_congr (fun z _ => ov_ne (by decide)))
    generalize hY : up4 (up4 y 101 0 0 o (flip (y 101 0 0 o) w made)) 101 0 0 w (flip (y 101 0 0 w) o made) = Y
    have yo : Y 101 0 0 o = flip (y 101 0 0 o) w made := by rw [← hY, up4_ne (by omega), up4_eq]
    have yw : Y 101 0 0 w = flip (y 101 0 0 w) o made := by rw [← hY, up4_eq]
    have oY : ∀ k d i s, ¬ (k = 101 ∧ (s = o ∨ s = w)) → Y k d i s = y k d i s := fun k d i s q => by rw [← hY, up4_ne (by omega), up4_ne (by omega)]
    have bits : ∀ z k, z < 8 → k < 8 → tb (V Y 101 z) k = if (z = o ∧ k = w) ∨ (z = w ∧ k = o) then decide (made ≠ 0) else tb (V y 101 z) k := fun z k hz hk => by
      by_cases e1 : z = o
      · subst e1
        rw [show V Y 101 z = flip (y 101 0 0 z) w made from yo, tb_flip (by omega) (by omega)]
        by_cases e2 : k = w
        · rw [if_pos e2, if_pos (Or.inl ⟨rfl, e2⟩)]
        · rw [if_neg e2, if_neg (by omega)]
          rfl
      · by_cases e3 : z = w
        · subst e3
          rw [show V Y 101 z = flip (y 101 0 0 z) o made from yw, tb_flip (by omega) (by omega)]
          by_cases e2 : k = o
          · rw [if_pos e2, if_pos (Or.inr ⟨rfl, e2⟩)]
          · rw [if_neg e2, if_neg (by omega)]
            rfl
        · rw [show V Y 101 z = V y 101 z from oY _ _ _ _ (by omega), if_neg (by omega)]
    have hcnt : icnt (V Y) = icnt (V y) + (if made = 0 then (-1) else 1) := by
      have gen : ∀ hi lo, hi < 8 → lo < hi → ((hi = o ∧ lo = w) ∨ (hi = w ∧ lo = o)) → icnt (V Y) = icnt (V y) + (if made = 0 then (-1) else 1) := fun hi lo q1 q2 q3 => by
        refine icnt_upd (hi := hi) (lo := lo) q1 q2 (fun z k hz hk hne => ?_) ?_
        · rw [bz_tb (by omega), bz_tb (by omega), bits z k hz (by omega), if_neg (c := (z = o ∧ k = w) ∨ (z = w ∧ k = o)) (by omega)]
        · rw [bz_tb (by omega), bz_tb (by omega), bits hi lo q1 (by omega), if_pos (c := (hi = o ∧ lo = w) ∨ (hi = w ∧ lo = o)) q3]
          have ht3 : tb (V y 101 hi) lo = !decide (made ≠ 0) := by
            rcases q3 with ⟨rfl, rfl⟩ | ⟨rfl, rfl⟩
            · exact ht
            · exact ht2
          rw [ht3]
          rcases hm with rfl | rfl
          · rfl
          · rfl
      by_cases q : w < o
      · exact gen o w ho q (Or.inl ⟨rfl, rfl⟩)
      · exact gen w o hw (by omega) (Or.inr ⟨rfl, rfl⟩)
    refine ⟨up4 (up4 (up4 x 4 c 0 o (flip (y 101 0 0 o) w made ||| bit o)) 4 c 0 w (flip (y 101 0 0 w) o made ||| bit w)) 3 c 0 0 (icnt (V Y)), Y, ?_, rfl, ?_, ?_⟩
    · unfold m_X10_turn m_X10_putInterlock_j40
      rw [if_neg hs, if_neg (ge0 (by omega)), if_neg (show ¬ (8 : Int32) ≤ Int32.ofNat o from le_f (a := 8) (by decide) (by omega) ho), gd_n ho (by decide), e_lt, e_bd, if_neg (ge0 (by omega)), if_neg (show ¬ (8 : Int32) ≤ Int32.ofNat w from le_f (a := 8) (by decide) (by omega) hw), gd_n hw (by decide), e_lt, e_bd, tn (show o < 2 ^ 31 by omega), tn (show w < 2 ^ 31 by omega), up4_ne (k' := 4) (s' := w) (by omega), d1', d2', one_bit, one_bit, xor_flip (by omega) (by omega) how ht, xor_flip (by omega) (by omega) (fun e => how e.symm) ht2, up4_ne (k' := 3) (by omega), up4_ne (k' := 3) (by omega), e30, hcnt]
      rcases hm with rfl | rfl
      · rw [if_pos rfl, if_pos rfl, e_lt]
        cases tb (y 101 0 0 o) w <;> rfl
      · rw [if_neg no1, if_neg no1, e_lt]
        cases tb (y 101 0 0 o) w <;> rfl
    · have e117 : V Y 117 = V y 117 := funext fun s => oY _ _ _ _ (by omega)
      rw [e117]
      refine h.gen (h.1.of_zon (fun k i s q => by rw [up4_ne (by omega), up4_ne (by omega), up4_ne (by omega)]) (fun k s q => ?_) ⟨?_, fun z hz => ⟨?_, ?_⟩⟩) (((h.2.1.up (by omega) (by omega)).up (by omega) (by omega)).up (by omega) (by omega)) (((FX.up (by decide)).tr (FX.up (by decide))).tr (FX.up (by decide))) (fun k d i s q => oY _ _ _ _ (by omega))
      · by_cases e : k = 117
        · subst e
          rfl
        · rw [ov_ne e, ov_ne e]
          exact oY _ _ _ _ (by omega)
      · rw [up4_eq]
        exact icnt_congr (fun z _ => (ov_ne (by decide)).symm)
      · rw [ov_ne (by decide), up4_ne (by omega)]
        show _ = Y 101 0 0 z ||| bit z
        by_cases e1 : z = w
        · subst e1
          rw [up4_eq, yw]
        · rw [up4_ne (by omega)]
          by_cases e2 : z = o
          · subst e2
            rw [up4_eq, yo]
          · rw [up4_ne (by omega), oY _ _ _ _ (by omega)]
            exact h4 z hz
      · rw [ov_ne (by decide), up4_ne (by omega), up4_ne (by omega), up4_ne (by omega)]
        show _ = Y 102 0 0 z
        rw [oY _ _ _ _ (by omega)]
        exact (h.1.2.1.2 z hz).2.trans (ov_ne (by decide))
    · obtain ⟨J, hJ, eJ, hj, hA, hS, -, hD⟩ := hI
      refine ⟨J, hJ, (oY _ _ _ _ (by omega)).trans eJ, fun i q => (hj i q).kp (fun k _ _ => oY _ _ _ _ (by omega)), fun b q => (hA b q).kp (Nat.le_refl _) hJ (fun k _ _ _ => oY _ _ _ _ (by omega)) (fun k _ => oY _ _ _ _ (by omega)) (fun i _ => oY _ _ _ _ (by omega)), fun d q => (hS d q).kp (fun k _ _ _ => oY _ _ _ _ (by omega)) (fun k _ => oY _ _ _ _ (by omega)) (cntB_kp (fun _ _ => oY _ _ _ _ (by omega)) (fun _ _ => oY _ _ _ _ (by omega)) (fun _ _ => oY _ _ _ _ (by omega))) (cntB_kp (fun _ _ => oY _ _ _ _ (by omega)) (fun _ _ => oY _ _ _ _ (by omega)) (fun _ _ => oY _ _ _ _ (by omega))), ⟨fun z hz => ⟨?_, ?_⟩, fun z k hz hk => ?_⟩, hD.kp (fun _ _ => hold_kp (oY _ _ _ _ (by omega)) (oY _ _ _ _ (by omega)) (oY _ _ _ _ (by omega)) (oY _ _ _ _ (by omega)) (oY _ _ _ _ (by omega)))⟩
      · rw [and_bit (by omega), bits z z hz hz, if_neg (by omega), ← and_bit (by omega)]
        exact (hZ.1 z hz).1
      · obtain ⟨m, m1, m2⟩ := (hZ.1 z hz).2
        by_cases e1 : z = o
        · subst e1
          rw [show V Y 101 z = flip (y 101 0 0 z) w made from yo]
          exact flip_lt hw m1 m2
        · by_cases e2 : z = w
          · subst e2
            rw [show V Y 101 z = flip (y 101 0 0 z) o made from yw]
            exact flip_lt ho m1 m2
          · exact ⟨m, m1, (oY _ _ _ _ (by omega)).trans m2⟩
      · rw [and_bit (by omega), and_bit (by omega), bits z k hz hk, bits k z hk hz]
        by_cases e : (z = o ∧ k = w) ∨ (z = w ∧ k = o)
        · rw [if_pos e, if_pos (by omega)]
        · rw [if_neg e, if_neg (by omega), ← and_bit (by omega), ← and_bit (by omega)]
          exact hZ.2 z k hz hk
