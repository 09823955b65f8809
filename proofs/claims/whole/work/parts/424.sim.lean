/-! REQUESTS: findReason of the class, answers of the reference -/
theorem hoa_loop {x : Mem} {c : Fin 10} {s : Int32} {hh : Nat → Int32} (h6 : ∀ b, b < 3 → x 0 c b 6 = hh b) : ∀ (m t : Nat) (u : Int32), t ≤ 3 → 3 < t + m → (∀ w, w < 32 → (tb u w = true ↔ w < t ∧ hh w &&& s ≠ 0)) → ∃ v, m_X1_holdersOfAny_l4 c s m u (Int32.ofNat t) x = some v ∧ ∀ w, w < 32 → (tb v w = true ↔ w < 3 ∧ hh w &&& s ≠ 0) := by
  intro m
  induction m with
  | zero => intro t u h1 h2; omega
  | succ m ih =>
    intro t u h1 h2 hu
    show ∃ v, m_X1_holdersOfAny_b4 c s (m_X1_holdersOfAny_l4 c s m) u (Int32.ofNat t) x = some v ∧ _
    unfold m_X1_holdersOfAny_b4 m_X1_holdersOfAny_j28
    by_cases ht : t = 3
    · subst ht
      rw [if_pos (by decide)]
      exact ⟨u, rfl, hu⟩
    have h3 : t < 3 := by omega
    rw [if_neg (le3 h3), arm_at h3, e_bd]
    simp only [f4 h3]
    rw [h6 t h3, one_bit]
    by_cases hc : hh t &&& s = 0
    · rw [if_pos hc, e_lt, n1]
      refine ih (t + 1) u (by omega) (by omega) (fun w hw => ?_)
      rw [hu w hw]
      constructor
      · rintro ⟨q1, q2⟩
        exact ⟨by omega, q2⟩
      · rintro ⟨q1, q2⟩
        have : w ≠ t := fun e => q2 (e ▸ hc)
        exact ⟨by omega, q2⟩
    · rw [if_neg hc, e_lt, e_lt, n1]
      refine ih (t + 1) _ (by omega) (by omega) (fun w hw => ?_)
      rw [tb_or, tb_bit (by omega) hw, Bool.or_eq_true, hu w hw, decide_eq_true_eq]
      constructor
      · rintro (⟨q1, q2⟩ | q)
        · exact ⟨by omega, q2⟩
        · exact ⟨by omega, q ▸ hc⟩
      · rintro ⟨q1, q2⟩
        by_cases e : w = t
        · exact Or.inr e
        · exact Or.inl ⟨by omega, q2⟩
theorem hoa_x {x : Mem} {c : Fin 10} {s : Int32} {hh : Nat → Int32} (h6 : ∀ b, b < 3 → x 0 c b 6 = hh b) : ∃ v, m_X1_holdersOfAny c s x = some v ∧ ∀ w, w < 32 → (tb v w = true ↔ w < 3 ∧ hh w &&& s ≠ 0) := by
  unfold m_X1_holdersOfAny
  rw [e_lt, e_lt, z0]
  exact hoa_loop h6 FU 0 _ (Nat.zero_le _) (by unfold FU; omega) (fun w hw => ⟨fun q => by rw [show Int32.ofNat 0 = 0 from rfl, tb_0] at q; exact absurd q (by decide), fun q => by omega⟩)
theorem cof_x {x : Mem} {c : Fin 10} {A : St} {z : Nat} (hz : z < 8) (h4 : ∀ z, z < 8 → x 4 c 0 z = con A z) : m_X10_conflictsOf c (Int32.ofNat z) x = some (con A z) := by
  unfold m_X10_conflictsOf
  rw [if_neg (ge0 (by omega)), if_neg (show ¬ (8 : Int32) ≤ Int32.ofNat z from le_f (a := 8) (by decide) (by omega) hz), gd_n hz (by decide), tn (show z < 2 ^ 31 by omega), h4 z hz]
/-- the others that stand in the way -/
def S7 (A : St) (a z : Nat) : Nat → Bool := fun b => decide (b ≠ a ∧ hold A b &&& con A z ≠ 0)
theorem s7_x {A : St} {a z : Nat} {v : Int32} (ha : a < 3) (h : ∀ w, w < 32 → (tb v w = true ↔ w < 3 ∧ hold A w &&& con A z ≠ 0)) : StP (v &&& (shl32 1 (Int32.ofNat a) ^^^ (-1))) (S7 A a z) := by
  intro w hw
  rw [one_bit, tb_and, tb_not hw, tb_bit (by omega) hw, Bool.and_eq_true, h w hw]
  unfold S7
  rw [decide_eq_true_eq]
  by_cases e : w = a
  · simp [e]
  · simp [e]
def ansE (a j q st z : Int32) (y : Mem) : Option (Int32 × Mem) := m_X12_answers_b105 a j q st (fun _ _ _ => none) z (Int32.ofNat 3) y
theorem low_at {S : Nat → Bool} {t : Nat} (ht : t < 3) (h : ∀ b, b < t → S b = false) (hs : S t = true) : low S = Int32.ofNat t := by
  unfold low
  match t, ht with
  | 0, _ => rw [if_pos hs]; rfl
  | 1, _ => rw [if_neg (by rw [h 0 (by decide)]; decide), if_pos hs]; rfl
  | 2, _ => rw [if_neg (by rw [h 0 (by decide)]; decide), if_neg (by rw [h 1 (by decide)]; decide), if_pos hs]; rfl
theorem low_no {S : Nat → Bool} (h : ∀ b, b < 3 → S b = false) : low S = -1 := by
  unfold low
  rw [if_neg (by rw [h 0 (by decide)]; decide), if_neg (by rw [h 1 (by decide)]; decide), if_neg (by rw [h 2 (by decide)]; decide)]
theorem an_loop {y : Mem} (hI : InvW (V y)) {a z : Nat} {j q st : Int32} (ha : a < 3) (hz : z < 8) : ∀ (m t : Nat), t ≤ 3 → 3 < t + m → (∀ b, b < t → S7 (V y) a z b = false) → m_X12_answers_l105 (Int32.ofNat a) j q st m (Int32.ofNat z) (Int32.ofNat t) y = (if low (S7 (V y) a z) = -1 then ansE (Int32.ofNat a) j q st (Int32.ofNat z) y else bd2_ (m_X12_reasons (3 : Int32) (low (S7 (V y) a z)) y) fun r48 y49 => some (r48, y49)) := by
  intro m
  induction m with
  | zero => intro t h1 h2; omega
  | succ m ih =>
    intro t h1 h2 hb
    show m_X12_answers_b105 (Int32.ofNat a) j q st (m_X12_answers_l105 (Int32.ofNat a) j q st m) (Int32.ofNat z) (Int32.ofNat t) y = _
    by_cases ht : t = 3
    · subst ht
      rw [if_pos (low_no hb)]
      unfold ansE m_X12_answers_b105
      rw [if_pos (by decide), if_pos (by decide)]
    have h3 : t < 3 := by omega
    unfold m_X12_answers_b105 m_X12_answers_j141
    rw [if_neg (le3 h3)]
    have next : S7 (V y) a z t = false → ∀ b, b < t + 1 → S7 (V y) a z b = false := fun q b hb2 => by
      by_cases e : b = t
      · rw [e]; exact q
      · exact hb b (by omega)
    by_cases hta : t = a
    · rw [if_pos (by rw [hta]), e_lt, n1]
      refine ih (t + 1) (by omega) (by omega) (next ?_)
      unfold S7
      rw [decide_eq_false_iff_not]
      exact fun q => q.1 hta
    · rw [if_neg (fun q => hta ((eq_n (by omega) (by omega)).mp q)), holds_n hI h3, e_bd, con_y hz, e_bd]
      by_cases hc : hold (V y) t &&& con (V y) z = 0
      · rw [if_pos hc, e_lt, n1]
        refine ih (t + 1) (by omega) (by omega) (next ?_)
        unfold S7
        rw [decide_eq_false_iff_not]
        exact fun q => q.2 hc
      · have hs : S7 (V y) a z t = true := by
          unfold S7
          rw [decide_eq_true_eq]
          exact ⟨hta, hc⟩
        have hl := low_at h3 hb hs
        rw [if_neg hc, hl, if_neg]
        intro e
        have := ge0 (show t < 2 ^ 31 by omega)
        rw [e] at this
        exact this lt0_neg
theorem CW.o {A : St} {p : Nat → Int32} {j q : Nat} {v : Int32} (h : CW (ov A p) j q v) : CW A j q v := h
theorem LK.o {x : Mem} {A : St} {p : Nat → Int32} {t : Nat} (h : LK x (ov A p) t) : LK x A t := h
theorem InvW.o {A : St} {p : Nat → Int32} (h : InvW A) : InvW (ov A p) := h.cg (fun k s _ q _ => (ov_ne (by unfold RdK at q; omega)).symm)
/-- what the judge may change -/
def JF (x x' y y' : Mem) : Prop := (∀ k b i s, ¬ (19 ≤ k ∧ k ≤ 21) → x' k b i s = x k b i s) ∧ ∀ k b i s, ¬ (141 ≤ k ∧ k ≤ 143) → ¬ (k = 40 ∧ 44 ≤ s ∧ s ≤ 45) → y' k b i s = y k b i s
theorem rz_y {y : Mem} {r d : Int32} : m_X12_reasons r d y = some (r, up4 (up4 y 40 0 0 44 r) 40 0 0 45 d) := rfl
theorem rq_BC {c : Fin 10} {N : Nat} {x0 y0 x y : Mem} {p : Nat → Int32} (h : Ins c N x0 y0 p x y) (hI : InvW (V y)) {a j q pa n z : Nat} {st : Int32} (ha : a < 3) (h30 : j < 30) (hJ : j < (V y 40 34).toNatClampNeg) (e123 : V y 123 j = Int32.ofNat pa) (e124 : V y 124 j = Int32.ofNat n) (hp : PathOk pa n) (hq : q < n) (hz : z = znA (V y) j q) : ∃ r x' y', m_X6_findReason_j40 c (c, Fin.ofNat 4 a) (c, Fin.ofNat 31 j) (Int32.ofNat q) (Int32.ofNat z) 0 x = some (r, x') ∧ m_X12_answers_j94 (Int32.ofNat a) (Int32.ofNat j) (Int32.ofNat q) st y = some (r, y') ∧ JF x x' y y' ∧ y' 40 0 0 44 = r ∧ (r ≠ 0 → x' 19 0 0 0 = y' 40 0 0 45) ∧ (r = 0 → ∀ b, b < 3 → b ≠ a → hold (V y) b &&& con (V y) z = 0) := by
  have hn5 := hp.2.1
  have hpl := path_lt hp
  have ezn : z = dgt pa n q := by
    rw [hz]
    unfold znA
    rw [e123, e124, tn (show n < 2 ^ 31 by omega), tn (show pa < 2 ^ 31 by omega)]
  have hz8 : z < 8 := by rw [ezn]; exact (dgt_ok hp hq).1
  have h6 : ∀ b, b < 3 → x 0 c b 6 = hold (V y) b := fun b hb => (h.1.2.2.2.1 b hb).2.2.2.2.2.1.trans hold_ov
  have h4 : ∀ z, z < 8 → x 4 c 0 z = con (V y) z := h.1.con
  have hnum : x 0 c a 0 = Int32.ofNat a := (h.2.1 c c.isLt).2 a ha
  obtain ⟨v, ev, hv⟩ := hoa_x (x := x) (c := c) (s := con (V y) z) h6
  have hs7 := s7_x ha hv
  have hl := an_loop (j := Int32.ofNat j) (q := Int32.ofNat q) (st := st) hI ha hz8 FU 0 (Nat.zero_le _) (by unfold FU; omega) (fun b hb => by omega)
  rw [← z0] at hl
  unfold m_X6_findReason_j40 m_X12_answers_j94
  rw [e_lt, if_pos rfl, cof_x hz8 h4, e_bd, ev, e_bd, e_lt, zone_y h30 e123 e124 hp hq, e_bd, e_lt, e_lt, ← ezn, hl]
  simp only [f4 ha]
  rw [hnum]
  rcases low_cases (S7 (V y) a z) with hl0 | ⟨d, hd, hl0, -⟩
  rotate_left
  · have hne : ¬ low (S7 (V y) a z) = -1 := by
      rw [hl0]
      intro e
      have := ge0 (show d < 2 ^ 31 by omega)
      rw [e] at this
      exact this lt0_neg
    rw [if_neg (show ¬ _ = (0 : Int32) from fun q => hne ((low_0 hs7).mp q)), if_neg hne, low_x hs7, e_bd, e_lt, rz_y, e_bd2]
    exact ⟨3, _, _, rfl, rfl, ⟨fun k b i s q => up4_ne (by omega), fun k b i s q1 q2 => by rw [up4_ne (by omega), up4_ne (by omega)]⟩, by rw [up4_ne (by omega), up4_eq], fun _ => by rw [up4_eq, up4_eq], fun q => absurd q (by decide)⟩
  rw [if_pos (show _ = (0 : Int32) from (low_0 hs7).mpr hl0), if_pos hl0]
  have hdis : ∀ b, b < 3 → b ≠ a → hold (V y) b &&& con (V y) z = 0 := fun b hb hba => by
    have e0 := (low_0 hs7).mpr hl0
    have := (hs7.bt (i := b) hb).mp (by rw [e0]; exact Int32.zero_and)
    unfold S7 at this
    rw [decide_eq_false_iff_not] at this
    exact Decidable.of_not_not (fun q => this ⟨hba, q⟩)
  obtain ⟨x25, e25, o25, hLK⟩ := la_x h.1 hI.o
  replace hLK := hLK.o
  obtain ⟨l1, l2, l3⟩ := hLK
  have hjob := h.1.2.2.2.2.2 j (by rw [ov_ne (by decide)]; exact hJ)
  obtain ⟨-, j1, j2, -⟩ := hjob
  obtain ⟨s', u', z1, z2, z3⟩ := cw_x (x := x25) (c := c) (A := V y) (j := j) (p := pa) (n := n) (q := q) h30 (fun z hz => (o25 _ _ _ _ (by omega)).trans (h4 z hz)) ((o25 _ _ _ _ (by omega)).trans (j1.trans ((ov_ne (by decide)).trans e123))) ((o25 _ _ _ _ (by omega)).trans (j2.trans ((ov_ne (by decide)).trans e124))) hp hq e123 e124
  rw [e25, e_bd, z1, e_bd, z2, e_bd]
  unfold m_X6_suppose
  simp only [f4 ha]
  rw [e_lt, o25 0 _ _ _ (by omega), hnum, if_neg (ge0 (by omega)), if_neg (le3 ha), if_neg (le3 ha), e_lt, gd_n ha (by decide), e_lt, e_lt, e_bd, tn (show a < 2 ^ 31 by omega), one_bit, one_bit, up4_ne (k' := 20) (by omega)]
  generalize hx32 : up4 (up4 (up4 x25 19 0 0 1 (x25 19 0 0 1 ||| bit a)) 20 0 0 a (x25 20 0 0 a ||| bit z)) 21 0 0 a u' = x32
  have o32 : ∀ k b i s, ¬ ((k = 20 ∨ k = 21) ∧ s = a) → ¬ (k = 19 ∧ s = 1) → x32 k b i s = x25 k b i s := fun k b i s q1 q2 => by rw [← hx32, up4_ne (by omega), up4_ne (by omega), up4_ne (by omega)]
  have a19 : x32 19 0 0 1 = x25 19 0 0 1 ||| bit a := by rw [← hx32, up4_ne (by omega), up4_ne (by omega), up4_eq]
  have a20 : x32 20 0 0 a = hold (V y) a ||| bit z := by rw [← hx32, up4_ne (by omega), up4_eq, l2 a ha]
  have a21 : x32 21 0 0 a = u' := by rw [← hx32, up4_eq]
  have hSt : StP (x32 19 0 0 1) (fun b => decide (b = a) || Sa (V y) b) := by
    intro w hw
    rw [a19, tb_or, tb_bit (by omega) hw, Bool.or_eq_true, l1 w hw, decide_eq_true_eq, Bool.or_eq_true, decide_eq_true_eq]
    unfold Sa
    rw [decide_eq_true_eq]
    constructor
    · rintro (⟨q1, q2⟩ | q1)
      · exact ⟨q1, Or.inr q2⟩
      · exact ⟨by omega, Or.inl q1⟩
    · rintro ⟨q1, q2 | q2⟩
      · exact Or.inr q2
      · exact Or.inl ⟨q1, q2⟩
  have hJX : JX x32 (fun b => if b = a then hold (V y) a ||| bit z else hold (V y) b) (fun b => x32 21 0 0 b) := by
    refine ⟨fun b hb => ?_, fun b hb => rfl⟩
    show x32 20 0 0 b = (if b = a then hold (V y) a ||| bit z else hold (V y) b)
    by_cases e : b = a
    · subst e
      rw [if_pos rfl]
      exact a20
    · rw [if_neg e, o32 _ _ _ _ (by omega) (by omega)]
      exact l2 b hb
  have hbz : ∀ b, b < 3 → b ≠ a → hold (V y) b &&& bit z = 0 := fun b hb hba => (and_or0.mp (hdis b hb hba)).2
  have hDisj : ∀ a b, a < 3 → b < 3 → a ≠ b → hold (V y) a &&& hold (V y) b = 0 := by
    obtain ⟨J, -, -, -, -, -, -, hd⟩ := hI
    exact hd
  have hDJ : DJ (fun b => if b = a then hold (V y) a ||| bit z else hold (V y) b) := by
    intro b d hb hd hbd
    show (if b = a then hold (V y) a ||| bit z else hold (V y) b) &&& (if d = a then hold (V y) a ||| bit z else hold (V y) d) = 0
    by_cases e1 : b = a
    · have e2 : d ≠ a := fun e => hbd (e1.trans e.symm)
      rw [if_pos e1, if_neg e2, or_and0]
      exact ⟨hDisj a d ha hd (fun e => e2 e.symm), by rw [Int32.and_comm]; exact hbz d hd e2⟩
    · rw [if_neg e1]
      by_cases e2 : d = a
      · rw [if_pos e2, and_or0]
        exact ⟨hDisj b a hb ha e1, hbz b hb e1⟩
      · rw [if_neg e2]
        exact hDisj b d hb hd hbd
  have h0 : ∀ b, b < 3 → (decide (b = a) || Sa (V y) b) = false → (if b = a then hold (V y) a ||| bit z else hold (V y) b) = 0 := by
    intro b hb hs
    rw [Bool.or_eq_false_iff, decide_eq_false_iff_not] at hs
    rw [if_neg hs.1]
    have := hs.2
    unfold Sa at this
    rw [decide_eq_false_iff_not] at this
    exact hold_0 (Decidable.of_not_not this)
  obtain ⟨vs, es, hvs⟩ := fs_x hJX hDJ h0 hSt
  obtain ⟨y25, f25, oy, hL⟩ := fn_y hI
  have hjy := fn_jy hI oy hL
  obtain ⟨w0, w1, w2, w3⟩ := hjy
  generalize hy29 : up4 (up4 (up4 y25 141 0 0 a (hold (V y) a ||| bit z)) 142 0 0 a (Int32.ofNat j)) 143 0 0 a (Int32.ofNat (q + 1)) = y29
  have o29 : ∀ k b i s, ¬ ((141 ≤ k ∧ k ≤ 143) ∧ s = a) → y29 k b i s = y25 k b i s := fun k b i s q1 => by rw [← hy29, up4_ne (by omega), up4_ne (by omega), up4_ne (by omega)]
  have hJY : JY y29 (V y) (fun b => decide (b = a) || Sa (V y) b) (fun b => if b = a then hold (V y) a ||| bit z else hold (V y) b) (fun b => if b = a then j else ajob (V y) b) (fun b => if b = a then q else lh (V y) b) := by
    refine ⟨fun k s q1 q2 => by rw [o29 _ _ _ _ (by omega)]; exact w0 k s q1 q2, fun b hb => ?_, fun b hb hs => ?_, fun b hb hs => ?_⟩
    · show y29 141 0 0 b = (if b = a then hold (V y) a ||| bit z else hold (V y) b)
      by_cases e : b = a
      · subst e
        rw [if_pos rfl, ← hy29, up4_ne (by omega), up4_ne (by omega), up4_eq]
      · rw [if_neg e, o29 _ _ _ _ (by omega)]
        exact w1 b hb
    · show y29 142 0 0 b = Int32.ofNat (if b = a then j else ajob (V y) b) ∧ y29 143 0 0 b = Int32.ofNat ((if b = a then q else lh (V y) b) + 1)
      replace hs : (decide (b = a) || Sa (V y) b) = true := hs
      by_cases e : b = a
      · subst e
        rw [if_pos rfl, if_pos rfl, ← hy29, up4_ne (k' := 142) (by omega), up4_eq, up4_eq]
        exact ⟨rfl, rfl⟩
      · rw [if_neg e, if_neg e, o29 _ _ _ _ (by omega), o29 _ _ _ _ (by omega)]
        rw [decide_eq_false e, Bool.false_or] at hs
        exact w2 b hb hs
    · replace hs : (decide (b = a) || Sa (V y) b) = false := hs
      rw [Bool.or_eq_false_iff, decide_eq_false_iff_not] at hs
      rw [o29 _ _ _ _ (by omega)]
      exact w3 b hb hs.2
  have hJD : JD (V y) (fun b => decide (b = a) || Sa (V y) b) (fun b => if b = a then j else ajob (V y) b) (fun b => if b = a then q else lh (V y) b) := by
    intro b hb hs
    show (if b = a then j else ajob (V y) b) < 30 ∧ ∃ p n, V y 123 (if b = a then j else ajob (V y) b) = Int32.ofNat p ∧ V y 124 (if b = a then j else ajob (V y) b) = Int32.ofNat n ∧ PathOk p n ∧ (if b = a then q else lh (V y) b) < n
    by_cases e : b = a
    · rw [if_pos e, if_pos e]
      exact ⟨h30, pa, n, e123, e124, hp, hq⟩
    · rw [if_neg e, if_neg e]
      replace hs : (decide (b = a) || Sa (V y) b) = true := hs
      rw [decide_eq_false e, Bool.false_or] at hs
      exact hI.jd b hb hs
  have hCC : CC (V y) (fun b => decide (b = a) || Sa (V y) b) (fun b => if b = a then j else ajob (V y) b) (fun b => if b = a then q else lh (V y) b) (fun b => x32 21 0 0 b) := by
    intro b hb hs
    show CW (V y) (if b = a then j else ajob (V y) b) (if b = a then q else lh (V y) b) (x32 21 0 0 b)
    by_cases e : b = a
    · rw [if_pos e, if_pos e, e, a21]
      exact z3
    · rw [if_neg e, if_neg e, o32 _ _ _ _ (by omega) (by omega)]
      replace hs : (decide (b = a) || Sa (V y) b) = true := hs
      rw [decide_eq_false e, Bool.false_or] at hs
      exact l3 b hb (of_decide_eq_true hs)
  obtain ⟨y32, g32, oz⟩ := rs_y hJY hJD hCC
  have eans : ansE (Int32.ofNat a) (Int32.ofNat j) (Int32.ofNat q) st (Int32.ofNat z) y = bd2_ (m_X12_findStuck y29) fun r31 y32 => lt_ r31 fun x8_33 => if 0 ≤ x8_33 then (bd2_ (m_X12_reasons (4 : Int32) x8_33 y32) fun r36 y37 => some (r36, y37)) else (bd2_ (m_X12_reasons (0 : Int32) (-1 : Int32) y32) fun r39 y40 => some (r39, y40)) := by
    unfold ansE m_X12_answers_b105
    rw [if_pos (by decide), f25, e_bd, gd_n ha (by decide), e_lt, e_lt, e_lt, tn (show a < 2 ^ 31 by omega), w1 a ha, one_bit, n1, hy29]
  rw [eans, g32, e_bd2, e_lt, es, e_bd, e_lt]
  have oY : ∀ k b i s, ¬ (141 ≤ k ∧ k ≤ 143) → y32 k b i s = y k b i s := fun k b i s q1 => (oz _ _ _ _ (by omega)).trans ((o29 _ _ _ _ (by omega)).trans (oy _ _ _ _ q1))
  have oX : ∀ k b i s, ¬ (19 ≤ k ∧ k ≤ 21) → x32 k b i s = x k b i s := fun k b i s q1 => (o32 _ _ _ _ (by omega) (by omega)).trans (o25 _ _ _ _ (by omega))
  rcases low_cases (itp (fun b => if b = a then hold (V y) a ||| bit z else hold (V y) b) (fun b => x32 21 0 0 b) 3 (fun b => decide (b = a) || Sa (V y) b)) with hl1 | ⟨d, hd, hl1, -⟩
  · rw [if_pos (show _ = (0 : Int32) from (low_0 hvs).mpr hl1), hl1, if_neg (by decide), rz_y, e_bd2]
    exact ⟨0, _, _, rfl, rfl, ⟨oX, fun k b i s q1 q2 => by rw [up4_ne (by omega), up4_ne (by omega)]; exact oY _ _ _ _ q1⟩, by rw [up4_ne (by omega), up4_eq], fun q => absurd rfl q, fun _ => hdis⟩
  · have hne : ¬ vs = (0 : Int32) := fun e => by
      have := (low_0 hvs).mp e
      rw [hl1] at this
      have h9 := ge0 (show d < 2 ^ 31 by omega)
      rw [this] at h9
      exact h9 lt0_neg
    rw [if_neg hne, low_x hvs, e_bd, e_lt, hl1, if_pos (show (0 : Int32) ≤ Int32.ofNat d from (le_n (a := 0) (by decide) (by omega)).mpr (Nat.zero_le _)), rz_y, e_bd2]
    exact ⟨4, _, _, rfl, rfl, ⟨fun k b i s q => by rw [up4_ne (by omega)]; exact oX _ _ _ _ q, fun k b i s q1 q2 => by rw [up4_ne (by omega), up4_ne (by omega)]; exact oY _ _ _ _ q1⟩, by rw [up4_ne (by omega), up4_eq], fun _ => by rw [up4_eq, up4_eq], fun q => absurd q (by decide)⟩
/-- what a job needs of its buffers -/
def BufA (A : St) (j : Nat) : Prop := (A 127 j = -1 ∨ ∃ b : Nat, b < 3 ∧ A 127 j = Int32.ofNat b ∧ A 107 b < A 104 b) ∧ (A 128 j = -1 ∨ ∃ b : Nat, b < 3 ∧ A 128 j = Int32.ofNat b ∧ A 104 b + A 106 b < A 103 b)
theorem buf_neg {v : Int32} (h : BufOk v) : (v = -1 ∧ v < 0) ∨ ∃ b : Nat, b < 3 ∧ v = Int32.ofNat b ∧ ¬ v < 0 ∧ ¬ v = -1 := by
  rcases h with h | ⟨b, hb, h⟩
  · exact Or.inl ⟨h, by rw [h]; exact lt0_neg⟩
  · have h9 := ge0 (show b < 2 ^ 31 by omega)
    refine Or.inr ⟨b, hb, h, by rw [h]; exact h9, fun e => ?_⟩
    rw [h] at e
    rw [e] at h9
    exact h9 lt0_neg
theorem rq_all {c : Fin 10} {N : Nat} {x0 y0 x y : Mem} {p : Nat → Int32} (h : Ins c N x0 y0 p x y) (hI : InvW (V y)) {a j q : Nat} {st : Int32} (ha : a < 3) (h30 : j < 30) (hJ : j < (V y 40 34).toNatClampNeg) (hq : q < (V y 124 j).toNatClampNeg) (r1 : m_X0_requestedJob (c, Fin.ofNat 4 a) x = some (Int32.ofNat j)) (r2 : m_X0_requestedPlace (c, Fin.ofNat 4 a) x = some (Int32.ofNat q)) (hst : (V y 114 a = 0 ∧ st = 1) ∨ (V y 114 a ≠ 0 ∧ st = 0)) : ∃ r x' y', m_X6_findReason c (c, Fin.ofNat 4 a) x = some (r, x') ∧ m_X12_answers (Int32.ofNat a) (Int32.ofNat j) (Int32.ofNat q) st y = some (r, y') ∧ JF x x' y y' ∧ y' 40 0 0 44 = r ∧ (r ≠ 0 → x' 19 0 0 0 = y' 40 0 0 45) ∧ (r = 0 → (V y 114 a = 0 → BufA (V y) j) ∧ ∀ b, b < 3 → b ≠ a → hold (V y) b &&& con (V y) (znA (V y) j q) = 0) := by
  have hjok : JobOk (V y) j := by
    obtain ⟨J, hJ30, eJ, hj, -⟩ := hI
    rw [eJ, tn (by omega)] at hJ
    exact hj j hJ
  obtain ⟨⟨pa, n, e123, e124, hp⟩, -, -, b1, b2⟩ := hjok
  have hn5 := hp.2.1
  rw [e124, tn (by omega)] at hq
  obtain ⟨-, j1, j2, -, -, j5, j6, -⟩ := h.1.2.2.2.2.2 j (by rw [ov_ne (by decide)]; exact hJ)
  have e5 : x 12 c j 5 = V y 127 j := j5.trans (ov_ne (by decide))
  have e6 : x 12 c j 6 = V y 128 j := j6.trans (ov_ne (by decide))
  have hsto : ∀ b, b < 3 → x 9 c b 0 = V y 103 b ∧ x 9 c b 1 = V y 104 b ∧ x 9 c b 2 = V y 106 b ∧ x 9 c b 3 = V y 107 b := fun b hb => by
    obtain ⟨g1, g2, g3, g4, -⟩ := h.1.2.2.2.2.1 b hb
    exact ⟨g1.trans (ov_ne (by decide)), g2.trans (ov_ne (by decide)), g3.trans (ov_ne (by decide)), g4.trans (ov_ne (by decide))⟩
  have es2 : x 0 c a 2 = V y 114 a := (h.1.2.2.2.1 a ha).2.1.trans (ov_ne (by decide))
  have ez : m_X5_zoneAt (c, Fin.ofNat 31 j) (Int32.ofNat q) x = some (Int32.ofNat (dgt pa n q)) := zone_x (by rw [f31 h30]; exact j1.trans ((ov_ne (by decide)).trans e123)) (by rw [f31 h30]; exact j2.trans ((ov_ne (by decide)).trans e124)) hp hq
  have ezn : znA (V y) j q = dgt pa n q := by
    have hpl := path_lt hp
    unfold znA
    rw [e123, e124, tn (show n < 2 ^ 31 by omega), tn (show pa < 2 ^ 31 by omega)]
  obtain ⟨r, x', y', q1, q2, q3, q4, q5, q6⟩ := rq_BC (st := st) h hI ha h30 hJ e123 e124 hp hq (z := znA (V y) j q) rfl
  unfold m_X6_findReason m_X12_answers
  rw [r1, e_bd, job_at h30, e_bd, r2, e_bd, e_lt, ez, e_bd, e_lt, gd_n h30 (by decide), e_lt, e_lt, tn (show j < 2 ^ 31 by omega)]
  rw [ezn] at q1
  simp only [f4 ha]
  rw [es2]
  rcases hst with ⟨h0, rfl⟩ | ⟨h0, rfl⟩
  rotate_left
  · rw [if_neg h0, if_pos rfl]
    unfold m_X12_answers_j51
    rw [if_pos rfl]
    exact ⟨r, x', y', q1, q2, q3, q4, q5, fun w => ⟨fun w2 => absurd w2 h0, q6 w⟩⟩
  rw [if_pos h0, if_neg no1]
  unfold m_X6_bufferReason m_X6_bufferReason_j32 m_X12_answers_j51
  simp only [f31 h30]
  rw [e5, e6, if_neg no1]
  have e127 : y 127 0 0 j = V y 127 j := rfl
  have e128 : y 128 0 0 j = V y 128 j := rfl
  rw [e127, e128]
  have tail : ∀ (B127 : V y 127 j = -1 ∨ ∃ b : Nat, b < 3 ∧ V y 127 j = Int32.ofNat b ∧ V y 107 b < V y 104 b), ∃ r x' y', bd2_ (if V y 128 j = -1 then (some ((0 : Int32), x)) else (bd_ (m_X1_storeAt c (V y 128 j)) fun r10 => bd_ (m_X9_hasRoom r10 x) fun r12 => if r12 = 0 then (lt_ (up4 x 19 0 0 0 (V y 128 j)) fun x14 => some ((2 : Int32), x14)) else (some ((0 : Int32), x)))) (fun r13 x14 => m_X6_findReason_j40 c (c, Fin.ofNat 4 a) (c, Fin.ofNat 31 j) (Int32.ofNat q) (Int32.ofNat (dgt pa n q)) r13 x14) = some (r, x') ∧ (if V y 128 j < 0 then (m_X12_answers_j94 (Int32.ofNat a) (Int32.ofNat j) (Int32.ofNat q) 1 y) else (gd_ (V y 128 j) 3 (if ((y 104 0 0 (V y 128 j).toNatClampNeg) + (y 106 0 0 (V y 128 j).toNatClampNeg)) < (y 103 0 0 (V y 128 j).toNatClampNeg) then (m_X12_answers_j94 (Int32.ofNat a) (Int32.ofNat j) (Int32.ofNat q) 1 y) else (bd2_ (m_X12_reasons (2 : Int32) (V y 128 j) y) fun r16 y17 => some (r16, y17))))) = some (r, y') ∧ JF x x' y y' ∧ y' 40 0 0 44 = r ∧ (r ≠ 0 → x' 19 0 0 0 = y' 40 0 0 45) ∧ (r = 0 → (V y 114 a = 0 → BufA (V y) j) ∧ ∀ b, b < 3 → b ≠ a → hold (V y) b &&& con (V y) (znA (V y) j q) = 0) := by
    intro B127
    rcases buf_neg b2 with ⟨t1, t2⟩ | ⟨d, hd, t1, t2, t3⟩
    · rw [if_pos t1, if_pos t2, e_bd2]
      exact ⟨r, x', y', q1, q2, q3, q4, q5, fun w => ⟨fun _ => ⟨B127, Or.inl t1⟩, q6 w⟩⟩
    · obtain ⟨s0, s1', s2, s3⟩ := hsto d hd
      rw [if_neg t3, if_neg t2, t1, sto_at hd, e_bd, gd_n hd (by decide), tn (show d < 2 ^ 31 by omega)]
      unfold m_X9_hasRoom
      simp only [f4 hd]
      rw [s0, s1', s2, show y 104 0 0 d = V y 104 d from rfl, show y 106 0 0 d = V y 106 d from rfl, show y 103 0 0 d = V y 103 d from rfl]
      by_cases hr : V y 104 d + V y 106 d < V y 103 d
      · rw [if_neg (Int32.not_le.mpr hr), e_bd, if_neg no1, e_bd2, if_pos hr]
        exact ⟨r, x', y', q1, q2, q3, q4, q5, fun w => ⟨fun _ => ⟨B127, Or.inr ⟨d, hd, t1, hr⟩⟩, q6 w⟩⟩
      · rw [if_pos (Int32.not_lt.mp hr), e_bd, if_pos rfl, e_lt, e_bd2, if_neg hr, rz_y, e_bd2]
        unfold m_X6_findReason_j40
        rw [e_lt, if_neg (show ¬ (2 : Int32) = 0 by decide)]
        exact ⟨2, _, _, rfl, rfl, ⟨fun k b i s q => up4_ne (by omega), fun k b i s q1 q2 => by rw [up4_ne (by omega), up4_ne (by omega)]⟩, by rw [up4_ne (by omega), up4_eq], fun _ => by rw [up4_eq, up4_eq], fun q => absurd q (by decide)⟩
  rcases buf_neg b1 with ⟨t1, t2⟩ | ⟨d, hd, t1, t2, t3⟩
  · rw [if_pos t1, if_pos t2]
    exact tail (Or.inl t1)
  · obtain ⟨s0, s1', s2, s3⟩ := hsto d hd
    rw [if_neg t3, if_neg t2]
    rw [show m_X1_storeAt c (V y 127 j) = some (c, Fin.ofNat 4 d) by rw [t1]; exact sto_at hd, e_bd, show (V y 127 j).toNatClampNeg = d by rw [t1]; exact tn (by omega), show ∀ w : Option (Int32 × Mem), gd_ (V y 127 j) 3 w = w from fun w => by rw [t1]; exact gd_n hd (by decide)]
    unfold m_X9_hasPartToGive
    simp only [f4 hd]
    rw [s1', s3, show y 104 0 0 d = V y 104 d from rfl, show y 107 0 0 d = V y 107 d from rfl]
    by_cases hr : V y 107 d < V y 104 d
    · rw [if_neg (Int32.not_le.mpr hr), e_bd, if_neg no1, if_pos hr]
      exact tail (Or.inr ⟨d, hd, t1, hr⟩)
    · rw [if_pos (Int32.not_lt.mp hr), e_bd, if_pos rfl, e_lt, e_bd2, if_neg hr, rz_y, e_bd2]
      unfold m_X6_findReason_j40
      rw [e_lt, if_neg no1]
      exact ⟨1, _, _, rfl, rfl, ⟨fun k b i s q => up4_ne (by omega), fun k b i s q1 q2 => by rw [up4_ne (by omega), up4_ne (by omega)]⟩, by rw [up4_ne (by omega), up4_eq], fun _ => by rw [up4_eq, up4_eq], fun q => absurd q (by decide)⟩
