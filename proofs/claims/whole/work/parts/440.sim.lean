/-! give -/
theorem bufw (v : Int32) : (m_X11_isWithin v (-1) 2 = some 1 ∧ BufOk v ∧ (v = -1 ∨ (¬ v = -1 ∧ m_X12_isBuffer v = some 1))) ∨ (m_X11_isWithin v (-1) 2 = some 0 ∧ ¬ v = -1 ∧ m_X12_isBuffer v = some 0) := by
  by_cases h1 : v = -1
  · left
    refine ⟨?_, Or.inl h1, Or.inl h1⟩
    rw [h1]
    exact iw_in (by decide)
  by_cases h : v < 0 ∨ (2 : Int32) < v
  · right
    refine ⟨?_, h1, ?_⟩
    · refine iw_out ?_
      rcases h with h | h
      · left
        have a1 := Int32.lt_iff_toInt_lt.mp h
        rw [show (0 : Int32).toInt = 0 from rfl] at a1
        refine Int32.lt_iff_toInt_lt.mpr ?_
        have a2 : v.toInt ≠ (-1 : Int32).toInt := fun e => h1 (Int32.toInt_inj.mp e)
        rw [show (-1 : Int32).toInt = -1 from rfl] at a2 ⊢
        omega
      · exact Or.inr h
    · unfold m_X12_isBuffer
      rw [ib_out h, e_bd, e_gb0]
  · left
    obtain ⟨b, hb, rfl⟩ := ex_n (n := 2) (fun q => h (Or.inl q)) (fun q => h (Or.inr q)) (by decide)
    refine ⟨iw_in (fun q => ?_), Or.inr ⟨b, by omega, rfl⟩, Or.inr ⟨h1, ?_⟩⟩
    · rcases q with q | q
      · exact h (Or.inl (Int32.lt_trans q (by decide)))
      · exact h (Or.inr q)
    · unfold m_X12_isBuffer
      rw [ib_in h, e_bd, e_gb1]
theorem rl_l {x : Mem} {c : Fin 10} {p1 p2 p3 p4 p5 p6 R : Int32} : ∀ (k i m v : Nat), i + k = 5 → k < m → v < 10 ^ k → v < 2 ^ 31 → (∀ e, 0 < v / 10 ^ e → 1 ≤ v / 10 ^ e % 10 ∧ v / 10 ^ e % 10 ≤ 8) → ((∀ e, 0 < v / 10 ^ e → tb R (v / 10 ^ e % 10 - 1) = true) ∧ m_X1_giveFault_l77 c p1 p2 p3 p4 p5 p6 m R (Int32.ofNat v) (Int32.ofNat i) x = m_X1_giveFault_j118 c p1 p2 p3 p4 p5 p6 x) ∨ ((∃ e, 0 < v / 10 ^ e ∧ tb R (v / 10 ^ e % 10 - 1) = false) ∧ m_X1_giveFault_l77 c p1 p2 p3 p4 p5 p6 m R (Int32.ofNat v) (Int32.ofNat i) x = some 3) := by
  intro k
  induction k with
  | zero =>
    intro i m v hi hm hv _ _
    obtain ⟨m, rfl⟩ : ∃ k, m = k + 1 := ⟨m - 1, by omega⟩
    have : i = 5 := by omega
    subst this
    have : v = 0 := by simpa using hv
    subst this
    left
    refine ⟨fun e q => by rw [Nat.zero_div] at q; exact absurd q (by decide), ?_⟩
    show m_X1_giveFault_b77 c p1 p2 p3 p4 p5 p6 (m_X1_giveFault_l77 c p1 p2 p3 p4 p5 p6 m) R _ _ x = _
    unfold m_X1_giveFault_b77
    rw [if_pos (by decide)]
  | succ k ih =>
    intro i m v hi hm hv hb hd
    obtain ⟨m, rfl⟩ : ∃ k, m = k + 1 := ⟨m - 1, by omega⟩
    have hun : m_X1_giveFault_l77 c p1 p2 p3 p4 p5 p6 (m + 1) R (Int32.ofNat v) (Int32.ofNat i) x = m_X1_giveFault_b77 c p1 p2 p3 p4 p5 p6 (m_X1_giveFault_l77 c p1 p2 p3 p4 p5 p6 m) R (Int32.ofNat v) (Int32.ofNat i) x := rfl
    rw [hun]
    unfold m_X1_giveFault_b77
    rw [if_neg (show ¬ (5 : Int32) ≤ Int32.ofNat i from le_f (a := 5) (by decide) (by omega) (by omega))]
    by_cases e : v = 0
    · subst e
      left
      rw [if_pos ((v_le (by decide)).mpr rfl)]
      exact ⟨fun e q => by rw [Nat.zero_div] at q; exact absurd q (by decide), rfl⟩
    have hd0 := hd 0 (by rw [Nat.pow_zero, Nat.div_one]; omega)
    rw [Nat.pow_zero, Nat.div_one] at hd0
    obtain ⟨d, hd2⟩ : ∃ d, v % 10 = d + 1 := ⟨v % 10 - 1, by omega⟩
    rw [if_neg (fun q => e ((v_le hb).mp q)), show (10 : Int32) = Int32.ofNat 10 from rfl, rem_n hb (by decide), div_n hb (by decide), hd2, s1, one_bit]
    by_cases ht : tb R d = true
    · rw [if_neg (fun q => by rw [and_bit (by omega)] at q; rw [q] at ht; exact absurd ht (by decide)), e_lt, e_lt, n1]
      rcases ih (i + 1) m (v / 10) (by omega) (by omega) (by rw [Nat.pow_succ] at hv; omega) (by omega) (fun e q => by rw [pow_step] at q ⊢; exact hd (e + 1) q) with ⟨q1, q2⟩ | ⟨⟨e, q1, q3⟩, q2⟩
      · left
        refine ⟨fun e q => ?_, q2⟩
        cases e with
        | zero =>
          rw [Nat.pow_zero, Nat.div_one, hd2, Nat.add_sub_cancel]
          exact ht
        | succ e =>
          rw [← pow_step] at q ⊢
          exact q1 e q
      · right
        exact ⟨⟨e + 1, by rw [← pow_step]; exact q1, by rw [← pow_step]; exact q3⟩, q2⟩
    · right
      rw [if_pos ((and_bit (by omega)).mpr (by simpa using ht))]
      refine ⟨⟨0, by rw [Nat.pow_zero, Nat.div_one]; omega, ?_⟩, rfl⟩
      rw [Nat.pow_zero, Nat.div_one, hd2, Nat.add_sub_cancel]
      simpa using ht
/-- what a job that may be given is like -/
def GOk (A : St) (p1 p2 p3 p4 p5 p6 : Int32) : Prop := ∃ a P n w wt J : Nat, a < 3 ∧ p1 = Int32.ofNat a ∧ P < 100000 ∧ n = dn 10 P ∧ PathOk P n ∧ p2 = Int32.ofNat P ∧ 1 ≤ w ∧ w ≤ 9 ∧ p3 = Int32.ofNat w ∧ wt ≤ 9 ∧ p4 = Int32.ofNat wt ∧ BufOk p5 ∧ BufOk p6 ∧ J < 30 ∧ A 40 34 = Int32.ofNat J
theorem gf_sim {c : Fin 10} {N : Nat} {x0 y0 x y : Mem} {p : Nat → Int32} (h : Ins c N x0 y0 p x y) (hI : Inv (V y)) (p1 p2 p3 p4 p5 p6 : Int32) : ∃ f g, m_X1_giveFault c p1 p2 p3 p4 p5 p6 x = some f ∧ m_X12_notGiven p1 p2 p3 p4 p5 p6 y = some g ∧ ((f = 0 ∧ g = 0 ∧ GOk (V y) p1 p2 p3 p4 p5 p6) ∨ (f = 1 ∧ g = 1) ∨ (f = 2 ∧ g = 2) ∨ (f = 3 ∧ g = 3) ∨ (f = 4 ∧ g = 4)) := by
  have r1 : ∀ P : Prop, P ∨ ((1 : Int32) = 1 ∧ (1 : Int32) = 1) ∨ ((1 : Int32) = 2 ∧ (1 : Int32) = 2) ∨ ((1 : Int32) = 3 ∧ (1 : Int32) = 3) ∨ ((1 : Int32) = 4 ∧ (1 : Int32) = 4) := fun P => Or.inr (Or.inl ⟨rfl, rfl⟩)
  have r2 : ∀ P : Prop, P ∨ ((2 : Int32) = 1 ∧ (2 : Int32) = 1) ∨ ((2 : Int32) = 2 ∧ (2 : Int32) = 2) ∨ ((2 : Int32) = 3 ∧ (2 : Int32) = 3) ∨ ((2 : Int32) = 4 ∧ (2 : Int32) = 4) := fun P => Or.inr (Or.inr (Or.inl ⟨rfl, rfl⟩))
  unfold m_X1_giveFault m_X12_notGiven m_X12_isArm
  by_cases h1 : p1 < 0 ∨ (2 : Int32) < p1
  · rw [iw_out h1, e_bd, if_pos rfl, ib_out h1, e_bd, e_gb0, e_bd, if_pos rfl]
    exact ⟨1, 1, rfl, rfl, r1 _⟩
  rw [iw_in h1, e_bd, if_neg no1, ib_in h1, e_bd, e_gb1, e_bd, if_neg no1]
  obtain ⟨a, ha', rfl⟩ := ex_n (n := 2) (fun q => h1 (Or.inl q)) (fun q => h1 (Or.inr q)) (by decide)
  have ha : a < 3 := by omega
  rcases bufw p5 with ⟨c1, c2, c3⟩ | ⟨c1, c2, c3⟩
  rotate_left
  · rw [c1, e_bd, if_pos rfl, if_neg c2, c3, e_bd, if_pos rfl]
    exact ⟨1, 1, rfl, rfl, r1 _⟩
  have eR1 : (if p5 = (-1 : Int32) then (m_X12_notGiven_j21 (Int32.ofNat a) p2 p3 p4 p5 p6 y) else (bd_ (m_X12_isBuffer p5) fun r6 => if r6 = 0 then (some (1 : Int32)) else (m_X12_notGiven_j21 (Int32.ofNat a) p2 p3 p4 p5 p6 y))) = m_X12_notGiven_j21 (Int32.ofNat a) p2 p3 p4 p5 p6 y := by
    rcases c3 with q | ⟨q, q2⟩
    · rw [if_pos q]
    · rw [if_neg q, q2, e_bd, if_neg no1]
  rw [eR1, c1, e_bd, if_neg no1]
  unfold m_X12_notGiven_j21
  rcases bufw p6 with ⟨d1', d2, d3⟩ | ⟨d1', d2, d3⟩
  rotate_left
  · rw [d1', e_bd, if_pos rfl, if_neg d2, d3, e_bd, if_pos rfl]
    exact ⟨1, 1, rfl, rfl, r1 _⟩
  have eR2 : (if p6 = (-1 : Int32) then (m_X12_notGiven_j37 (Int32.ofNat a) p2 p3 p4 p5 p6 y) else (bd_ (m_X12_isBuffer p6) fun r10 => if r10 = 0 then (some (1 : Int32)) else (m_X12_notGiven_j37 (Int32.ofNat a) p2 p3 p4 p5 p6 y))) = m_X12_notGiven_j37 (Int32.ofNat a) p2 p3 p4 p5 p6 y := by
    rcases d3 with q | ⟨q, q2⟩
    · rw [if_pos q]
    · rw [if_neg q, q2, e_bd, if_neg no1]
  rw [eR2, d1', e_bd, if_neg no1]
  unfold m_X12_notGiven_j37
  rcases path_sim p2 with ⟨P, n, s, rfl, hP, hn, hok, e1, e2, e3, e4⟩ | ⟨e1, e2⟩
  rotate_left
  · rw [e1, e_bd, if_pos rfl, e2, e_bd, e_lt, if_pos lt0_neg]
    exact ⟨2, 2, rfl, rfl, r2 _⟩
  rw [e1, e_bd, if_neg no1, e2, e_bd, e_lt, if_neg e3]
  by_cases h3 : p3 < 1 ∨ (9 : Int32) < p3
  · rw [iw_out h3, e_bd, if_pos rfl, ib_out h3, e_bd, if_pos rfl]
    exact ⟨2, 2, rfl, rfl, r2 _⟩
  rw [iw_in h3, e_bd, if_neg no1, ib_in h3, e_bd, if_neg no1]
  by_cases h4 : p4 < 0 ∨ (9 : Int32) < p4
  · rw [iw_out h4, e_bd, if_pos rfl, ib_out h4, e_bd, if_pos rfl]
    exact ⟨2, 2, rfl, rfl, r2 _⟩
  rw [iw_in h4, e_bd, if_neg no1, ib_in h4, e_bd, if_neg no1, arm_at ha, e_bd, gd_n ha (by decide), tn (show a < 2 ^ 31 by omega)]
  simp only [f4 ha]
  obtain ⟨wt, hwt, rfl⟩ := ex_n (n := 9) (fun q => h4 (Or.inl q)) (fun q => h4 (Or.inr q)) (by decide)
  obtain ⟨wk, hwk, rfl⟩ := ex_n (v := p3) (n := 9) (fun q => h3 (Or.inl (Int32.lt_trans q (by decide)))) (fun q => h3 (Or.inr q)) (by decide)
  have hwk1 : 1 ≤ wk := by
    rcases Nat.eq_zero_or_pos wk with e | e
    · subst e
      exact absurd (Or.inl (by decide)) h3
    · exact e
  obtain ⟨J, hJ, eJ, -⟩ := hI
  have x21 : x 2 c 0 1 = Int32.ofNat J := h.1.1.2.1.trans ((ov_ne (by decide)).trans eJ)
  have eR : x 0 c a 1 = y 110 0 0 a := (h.1.2.2.2.1 a ha).1.trans (ov_ne (by decide))
  have hdig : ∀ e, 0 < P / 10 ^ e → e < n := fun e q => by
    by_cases he : e < n
    · exact he
    · exfalso
      have : 10 ^ n ≤ 10 ^ e := Nat.pow_le_pow_right (by decide) (by omega)
      have h9 := hok.2.2.1
      rw [Nat.div_eq_of_lt (by omega)] at q
      exact absurd q (by decide)
  have hdig2 : ∀ e, e < n → 0 < P / 10 ^ e := fun e he => by
    have := (hok.2.2.2 e he).1
    rcases Nat.eq_zero_or_pos (P / 10 ^ e) with q | q
    · rw [q] at this
      exact absurd this (by decide)
    · exact q
  have key := rl_l (x := x) (c := c) (p1 := Int32.ofNat a) (p2 := Int32.ofNat P) (p3 := Int32.ofNat wk) (p4 := Int32.ofNat wt) (p5 := p5) (p6 := p6) (R := y 110 0 0 a) 5 0 FU P rfl (by unfold FU; omega) (by omega) (by omega) (fun e q => hok.2.2.2 e (hdig e q))
  rw [← z0] at key
  rw [e_lt, e_lt, e_lt, eR]
  have eset : s &&& (y 110 0 0 a ^^^ (-1)) = 0 ↔ ∀ e, 0 < P / 10 ^ e → tb (y 110 0 0 a) (P / 10 ^ e % 10 - 1) = true := by
    rw [and0_iff]
    constructor
    · intro q e he
      have hd := hok.2.2.2 e (hdig e he)
      have := q (P / 10 ^ e % 10 - 1) (by omega) ((e4 _ (by omega)).mpr ⟨e, hdig e he, rfl⟩)
      rw [tb_not (by omega)] at this
      simpa using this
    · intro q z hz hs
      obtain ⟨e, he, rfl⟩ := (e4 z hz).mp hs
      rw [tb_not hz, q e (hdig2 e he)]
      rfl
  rcases key with ⟨q1, q2⟩ | ⟨⟨e, q1, q3⟩, q2⟩
  · rw [q2, if_pos (eset.mpr q1)]
    unfold m_X1_giveFault_j118
    rw [x21, show y 40 0 0 34 = Int32.ofNat J from eJ]
    by_cases h30 : J = 30
    · subst h30
      rw [if_pos (by decide), if_pos (by decide)]
      exact ⟨4, 4, rfl, rfl, Or.inr (Or.inr (Or.inr (Or.inr ⟨rfl, rfl⟩)))⟩
    · rw [if_neg (show ¬ (30 : Int32) ≤ Int32.ofNat J from le_f (a := 30) (by decide) (by omega) (by omega)), if_neg (show ¬ Int32.ofNat J = 30 from fun q => h30 ((eq_n (b := 30) (by omega) (by decide)).mp q))]
      exact ⟨0, 0, rfl, rfl, Or.inl ⟨rfl, rfl, a, P, n, wk, wt, J, ha, rfl, hP, hn, hok, rfl, hwk1, hwk, rfl, hwt, rfl, c2, d2, by omega, eJ⟩⟩
  · rw [q2, if_neg (fun w => by
      have := eset.mp w e q1
      rw [q3] at this
      exact absurd this (by decide))]
    exact ⟨3, 3, rfl, rfl, Or.inr (Or.inr (Or.inr (Or.inl ⟨rfl, rfl⟩)))⟩
/-- a job given -/
theorem Rep.give {x x' : Mem} {c N a J r : Nat} {A A' : St} (hR : Rep x c A N) (ha : a < 3) (hJ : J < 30) (eJ : A 40 34 = Int32.ofNat J) (hr : r < 30) (e111 : A 111 a = Int32.ofNat r) (h30 : ∀ b, b < 3 → (A 111 b).toNatClampNeg ≤ 30) (hact : ∀ b, b < 3 → A 114 b ≠ 0 → ajob A b < J) (hx : ∀ k i s, ¬ (k = 12 ∧ i = J) → ¬ (k = 2 ∧ i = 0 ∧ s = 1) → ¬ (k = 1 ∧ i = a ∧ s = r) → ¬ (k = 0 ∧ i = a ∧ s = 12) → x' k c i s = x k c i s) (hA : ∀ k s, ¬ (122 ≤ k ∧ k ≤ 131 ∧ s = J) → ¬ (k = 40 ∧ s = 34) → ¬ (k = 112 ∧ s = 30 * a + r) → ¬ (k = 111 ∧ s = a) → A' k s = A k s) (x1 : x' 2 c 0 1 = Int32.ofNat (J + 1)) (a1 : A' 40 34 = Int32.ofNat (J + 1)) (x2 : x' 1 c a r = Int32.ofNat J) (a2 : A' 112 (30 * a + r) = Int32.ofNat J) (x3 : x' 0 c a 12 = Int32.ofNat (r + 1)) (a3 : A' 111 a = Int32.ofNat (r + 1)) (hj : RJob x' c A' J) : Rep x' c A' N := by
  obtain ⟨r1, r2, r3, r4, r5, r6⟩ := hR
  have hh : ∀ b, b < 3 → hold A' b = hold A b := fun b hb => by
    by_cases q : A 114 b = 0
    · rw [hold_0 q, hold_0 ((hA 114 b (by omega) (by omega) (by omega) (by omega)).trans q)]
    · have := hact b hb q
      exact hold_kp (hA _ _ (by omega) (by omega) (by omega) (by omega)) (hA _ _ (by omega) (by omega) (by omega) (by omega)) (hA _ _ (by omega) (by omega) (by omega) (by omega)) (hA _ _ (by omega) (by omega) (by omega) (by omega)) (hA _ _ (by omega) (by omega) (by omega) (by omega))
  refine ⟨?_, r2.kp (hx _ _ _ (by omega) (by omega) (by omega) (by omega)) (fun s => hx _ _ _ (by omega) (by omega) (by omega) (by omega)) (fun s => hx _ _ _ (by omega) (by omega) (by omega) (by omega)) (fun s => hA _ _ (by omega) (by omega) (by omega) (by omega)) (fun s => hA _ _ (by omega) (by omega) (by omega) (by omega)), r3.kp (fun s => hx _ _ _ (by omega) (by omega) (by omega) (by omega)) (fun s => hx _ _ _ (by omega) (by omega) (by omega) (by omega)) (hA _ _ (by omega) (by omega) (by omega) (by omega)) (hA _ _ (by omega) (by omega) (by omega) (by omega)) (fun s => hA _ _ (by omega) (by omega) (by omega) (by omega)), fun b q => ?_, fun d q => (r5 d q).kp (fun s => hx _ _ _ (by omega) (by omega) (by omega) (by omega)) (fun s => hx _ _ _ (by omega) (by omega) (by omega) (by omega)) (fun k _ _ _ => hA _ _ (by omega) (by omega) (by omega) (by omega)) (fun k _ => hA _ _ (by omega) (by omega) (by omega) (by omega)), fun j q => ?_⟩
  · obtain ⟨g1, g2, g3, g4, g5, g6, g7⟩ := r1
    refine ⟨?_, x1.trans a1.symm, ?_, ?_, ?_, ?_, ?_⟩
    · rw [hx _ _ _ (by omega) (by omega) (by omega) (by omega), hA _ _ (by omega) (by omega) (by omega) (by omega)]; exact g1
    · rw [hx _ _ _ (by omega) (by omega) (by omega) (by omega), hA _ _ (by omega) (by omega) (by omega) (by omega)]; exact g3
    · rw [hx _ _ _ (by omega) (by omega) (by omega) (by omega), hA _ _ (by omega) (by omega) (by omega) (by omega)]; exact g4
    · rw [hx _ _ _ (by omega) (by omega) (by omega) (by omega), hA _ _ (by omega) (by omega) (by omega) (by omega)]; exact g5
    · rw [hx _ _ _ (by omega) (by omega) (by omega) (by omega), hA _ _ (by omega) (by omega) (by omega) (by omega)]; exact g6
    · rw [hx _ _ _ (by omega) (by omega) (by omega) (by omega), hA _ _ (by omega) (by omega) (by omega) (by omega)]; exact g7
  · by_cases e : b = a
    · subst e
      obtain ⟨g1, g2, g3, g4, g5, g6, g7, g8, g9, g10, g11, g12, g13⟩ := r4 b q
      refine ⟨?_, ?_, ?_, ?_, ?_, ?_, ?_, ?_, ?_, ?_, ?_, x3.trans a3.symm, fun k hk => ?_⟩
      · rw [hx _ _ _ (by omega) (by omega) (by omega) (by omega), hA _ _ (by omega) (by omega) (by omega) (by omega)]; exact g1
      · rw [hx _ _ _ (by omega) (by omega) (by omega) (by omega), hA _ _ (by omega) (by omega) (by omega) (by omega)]; exact g2
      · rw [hx _ _ _ (by omega) (by omega) (by omega) (by omega), hA _ _ (by omega) (by omega) (by omega) (by omega)]; exact g3
      · rw [hx _ _ _ (by omega) (by omega) (by omega) (by omega), hA _ _ (by omega) (by omega) (by omega) (by omega)]; exact g4
      · rw [hx _ _ _ (by omega) (by omega) (by omega) (by omega), hA _ _ (by omega) (by omega) (by omega) (by omega)]; exact g5
      · rw [hx _ _ _ (by omega) (by omega) (by omega) (by omega), hh b q]; exact g6
      · rw [hx _ _ _ (by omega) (by omega) (by omega) (by omega), hA _ _ (by omega) (by omega) (by omega) (by omega)]; exact g7
      · rw [hx _ _ _ (by omega) (by omega) (by omega) (by omega), hA _ _ (by omega) (by omega) (by omega) (by omega)]; exact g8
      · rw [hx _ _ _ (by omega) (by omega) (by omega) (by omega), hA _ _ (by omega) (by omega) (by omega) (by omega)]; exact g9
      · rw [hx _ _ _ (by omega) (by omega) (by omega) (by omega), hA _ _ (by omega) (by omega) (by omega) (by omega)]; exact g10
      · rw [hx _ _ _ (by omega) (by omega) (by omega) (by omega), hA _ _ (by omega) (by omega) (by omega) (by omega)]; exact g11
      · rw [a3, tn (by omega)] at hk
        by_cases e2 : k = r
        · rw [e2, x2, a2]
        · rw [hx _ _ _ (by omega) (by omega) (by omega) (by omega), hA _ _ (by omega) (by omega) (by omega) (by omega)]
          exact g13 k (by rw [e111, tn (by omega)]; omega)
    · exact (r4 b q).kp (fun s => hx _ _ _ (by omega) (by omega) (by omega) (by omega)) (fun s => hx _ _ _ (by omega) (by omega) (by omega) (by omega)) (fun k _ _ _ => hA _ _ (by omega) (by omega) (by omega) (by omega)) (fun k hk => hA _ _ (by omega) (by omega) (by have := h30 b q; omega) (by omega)) (hh b q)
  · by_cases e : j = J
    · subst e
      exact hj
    · rw [a1, tn (by omega)] at q
      exact (r6 j (by rw [eJ, tn (by omega)]; omega)).kp (fun s => hx _ _ _ (by omega) (by omega) (by omega) (by omega)) (fun k _ _ => hA _ _ (by omega) (by omega) (by omega) (by omega))
theorem Inv.give {A A' : St} {a J r : Nat} (hI : Inv A) (ha : a < 3) (hJ : J < 30) (eJ : A 40 34 = Int32.ofNat J) (hr : r < 30) (e111 : A 111 a = Int32.ofNat r) (hA : ∀ k s, RdK k s → ¬ (122 ≤ k ∧ k ≤ 131 ∧ s = J) → ¬ (k = 40 ∧ s = 34) → ¬ (k = 112 ∧ s = 30 * a + r) → ¬ (k = 111 ∧ s = a) → A' k s = A k s) (a1 : A' 40 34 = Int32.ofNat (J + 1)) (a2 : A' 112 (30 * a + r) = Int32.ofNat J) (a3 : A' 111 a = Int32.ofNat (r + 1)) (hj : JobOk A' J) : Inv A' := by
  obtain ⟨J', hJ', eJ', hj', hAr, hS, hZ, hD⟩ := hI
  have hJJ : J' = J := (eq_n (by omega) (by omega)).mp (eJ'.symm.trans eJ)
  subst hJJ
  have hlt : ∀ b, b < 3 → A 114 b ≠ 0 → ajob A b < J' := fun b hb h0 => (hAr b hb).jlt hJ' h0
  have h114 : ∀ b, A' 114 b = A 114 b := fun b => hA _ _ (rdk (by decide)) (by omega) (by omega) (by omega) (by omega)
  have h113 : ∀ b, A' 113 b = A 113 b := fun b => hA _ _ (rdk (by decide)) (by omega) (by omega) (by omega) (by omega)
  have hh : ∀ b, b < 3 → hold A' b = hold A b := fun b hb => by
    by_cases q : A 114 b = 0
    · rw [hold_0 q, hold_0 ((h114 b).trans q)]
    · have := hlt b hb q
      exact hold_kp (h113 b) (h114 b) (hA _ _ (rdk (by decide)) (by omega) (by omega) (by omega) (by omega)) (hA _ _ (rdk (by decide)) (by omega) (by omega) (by omega) (by omega)) (hA _ _ (rdk (by decide)) (by omega) (by omega) (by omega) (by omega))
  have hcnt : ∀ f d, f = 127 ∨ f = 128 → cntB A' f d = cntB A f d := fun f d hf => by
    have e : ∀ b, b < 3 → one (A' 114 b ≠ 0 ∧ A' f (ajob A' b) = Int32.ofNat d) = one (A 114 b ≠ 0 ∧ A f (ajob A b) = Int32.ofNat d) := fun b hb => by
      have ej : ajob A' b = ajob A b := by unfold ajob; rw [h113]
      rw [h114, ej]
      by_cases q : A 114 b = 0
      · unfold one
        rw [if_neg (fun w => w.1 q), if_neg (fun w => w.1 q)]
      · have := hlt b hb q
        rw [hA f (ajob A b) (rdk (by omega)) (by omega) (by omega) (by omega) (by omega)]
    unfold cntB
    rw [e 0 (by decide), e 1 (by decide), e 2 (by decide)]
  refine ⟨J' + 1, by omega, a1, fun i q => ?_, fun b q => ?_, fun d q => (hS d q).kp (fun k u v w => hA _ _ (rdk (by omega)) (by omega) (by omega) (by omega) (by omega)) (fun k u => hA _ _ (rdk (by decide)) (by omega) (by omega) (by omega) (by omega)) (hcnt _ _ (by decide)) (hcnt _ _ (by decide)), hZ.kp (fun z _ => hA _ _ (rdk (by decide)) (by omega) (by omega) (by omega) (by omega)), hD.kp hh⟩
  · by_cases e : i = J'
    · subst e
      exact hj
    · exact (hj' i (by omega)).kp (fun k u v => hA _ _ (rdk (by omega)) (by omega) (by omega) (by omega) (by omega))
  · by_cases e : b = a
    · subst e
      obtain ⟨g, r', g2, g3, g4⟩ := hAr b q
      have hrr : r' = r := (eq_n (by omega) (by omega)).mp (g2.symm.trans e111)
      subst hrr
      refine ⟨?_, r' + 1, a3, by omega, fun k hk => ?_⟩
      · rw [h113, h114, hA 115 b (rdk (by decide)) (by omega) (by omega) (by omega) (by omega), hA 116 b (rdk (by decide)) (by omega) (by omega) (by omega) (by omega)]
        refine g.imp id fun ⟨j, p, n, w1, w2, w3, w4, w5⟩ => ⟨j, p, n, by omega, ?_, ?_, ?_, ?_⟩
        · rw [h113]; exact w2
        · rw [hA 115 b (rdk (by decide)) (by omega) (by omega) (by omega) (by omega)]; exact w3
        · rw [hA 124 j (rdk (by decide)) (by omega) (by omega) (by omega) (by omega)]; exact w4
        · rw [h114, hA 116 b (rdk (by decide)) (by omega) (by omega) (by omega) (by omega)]; exact w5
      · by_cases e2 : k = r'
        · exact ⟨J', by omega, by rw [e2]; exact a2⟩
        · obtain ⟨i, i1, i2⟩ := g4 k (by omega)
          exact ⟨i, by omega, (hA _ _ (rdk (by decide)) (by omega) (by omega) (by omega) (by omega)).trans i2⟩
    · exact (hAr b q).kp (Nat.le_succ _) hJ' (fun k u v w => hA _ _ (rdk (by omega)) (by omega) (by omega) (by omega) (by omega)) (fun k hk => hA _ _ (rdk (by decide)) (by omega) (by omega) (by omega) (by omega)) (fun i hi => hA _ _ (rdk (by decide)) (by omega) (by omega) (by omega) (by omega))
theorem gs {y : Mem} {J K : Nat} {v : Int32} {β : Type} {k : Mem → Option β} (hJ : J < 30) (e : y 40 0 0 34 = Int32.ofNat J) : gd_ (y 40 0 0 34) 30 (lt_ (up4 y K 0 0 (y 40 0 0 34).toNatClampNeg v) k) = k (up4 y K 0 0 J v) := by
  rw [e, gd_n hJ (by decide), tn (show J < 2 ^ 31 by omega), e_lt]
theorem gse {y : Mem} {K s : Nat} {v u : Int32} (hK : K ≠ 40) (e : y 40 0 0 34 = u) : up4 y K 0 0 s v 40 0 0 34 = u := (up4_ne (by omega)).trans e

def gX (x : Mem) (c J a P n w wt : Nat) (p5 p6 : Int32) : Mem := up4 (up4 (up4 (up4 (up4 (up4 (up4 (up4 (up4 (up4 x 12 c J 0 (Int32.ofNat a)) 12 c J 1 (Int32.ofNat P)) 12 c J 2 (Int32.ofNat n)) 12 c J 3 (Int32.ofNat w)) 12 c J 4 (Int32.ofNat wt)) 12 c J 5 (p5)) 12 c J 6 (p6)) 12 c J 7 (0)) 12 c J 8 (-1)) 12 c J 9 (-1)
def gY (y : Mem) (J a P n w wt : Nat) (p5 p6 : Int32) : Mem := up4 (up4 (up4 (up4 (up4 (up4 (up4 (up4 (up4 (up4 y 122 0 0 J (Int32.ofNat a)) 123 0 0 J (Int32.ofNat P)) 124 0 0 J (Int32.ofNat n)) 125 0 0 J (Int32.ofNat w)) 126 0 0 J (Int32.ofNat wt)) 127 0 0 J (p5)) 128 0 0 J (p6)) 129 0 0 J (0)) 130 0 0 J (-1)) 131 0 0 J (-1)
theorem gX_o {x : Mem} {c J a P n w wt k d i s : Nat} {p5 p6 : Int32} (q : ¬ (k = 12 ∧ i = J)) : gX x c J a P n w wt p5 p6 k d i s = x k d i s := by
  unfold gX
  rw [up4_ne (by omega), up4_ne (by omega), up4_ne (by omega), up4_ne (by omega), up4_ne (by omega), up4_ne (by omega), up4_ne (by omega), up4_ne (by omega), up4_ne (by omega), up4_ne (by omega)]
theorem gY_o {y : Mem} {J a P n w wt k d i s : Nat} {p5 p6 : Int32} (q : ¬ (122 ≤ k ∧ k ≤ 131 ∧ s = J)) : gY y J a P n w wt p5 p6 k d i s = y k d i s := by
  unfold gY
  rw [up4_ne (by omega), up4_ne (by omega), up4_ne (by omega), up4_ne (by omega), up4_ne (by omega), up4_ne (by omega), up4_ne (by omega), up4_ne (by omega), up4_ne (by omega), up4_ne (by omega)]
theorem gJob {x : Mem} {y : Mem} {c J a P n w wt : Nat} {p5 p6 : Int32} : gX x c J a P n w wt p5 p6 12 c J 0 = Int32.ofNat a ∧ gX x c J a P n w wt p5 p6 12 c J 1 = Int32.ofNat P ∧ gX x c J a P n w wt p5 p6 12 c J 2 = Int32.ofNat n ∧ gX x c J a P n w wt p5 p6 12 c J 3 = Int32.ofNat w ∧ gX x c J a P n w wt p5 p6 12 c J 4 = Int32.ofNat wt ∧ gX x c J a P n w wt p5 p6 12 c J 5 = p5 ∧ gX x c J a P n w wt p5 p6 12 c J 6 = p6 ∧ gX x c J a P n w wt p5 p6 12 c J 7 = 0 ∧ gX x c J a P n w wt p5 p6 12 c J 8 = -1 ∧ gX x c J a P n w wt p5 p6 12 c J 9 = -1 := by
  unfold gX
  refine ⟨?_, ?_, ?_, ?_, ?_, ?_, ?_, ?_, ?_, ?_⟩
  · rw [up4_ne (by omega), up4_ne (by omega), up4_ne (by omega), up4_ne (by omega), up4_ne (by omega), up4_ne (by omega), up4_ne (by omega), up4_ne (by omega), up4_ne (by omega), up4_eq]
  · rw [up4_ne (by omega), up4_ne (by omega), up4_ne (by omega), up4_ne (by omega), up4_ne (by omega), up4_ne (by omega), up4_ne (by omega), up4_ne (by omega), up4_eq]
  · rw [up4_ne (by omega), up4_ne (by omega), up4_ne (by omega), up4_ne (by omega), up4_ne (by omega), up4_ne (by omega), up4_ne (by omega), up4_eq]
  · rw [up4_ne (by omega), up4_ne (by omega), up4_ne (by omega), up4_ne (by omega), up4_ne (by omega), up4_ne (by omega), up4_eq]
  · rw [up4_ne (by omega), up4_ne (by omega), up4_ne (by omega), up4_ne (by omega), up4_ne (by omega), up4_eq]
  · rw [up4_ne (by omega), up4_ne (by omega), up4_ne (by omega), up4_ne (by omega), up4_eq]
  · rw [up4_ne (by omega), up4_ne (by omega), up4_ne (by omega), up4_eq]
  · rw [up4_ne (by omega), up4_ne (by omega), up4_eq]
  · rw [up4_ne (by omega), up4_eq]
  · rw [up4_eq]
theorem gJoY {y : Mem} {J a P n w wt : Nat} {p5 p6 : Int32} : gY y J a P n w wt p5 p6 122 0 0 J = Int32.ofNat a ∧ gY y J a P n w wt p5 p6 123 0 0 J = Int32.ofNat P ∧ gY y J a P n w wt p5 p6 124 0 0 J = Int32.ofNat n ∧ gY y J a P n w wt p5 p6 125 0 0 J = Int32.ofNat w ∧ gY y J a P n w wt p5 p6 126 0 0 J = Int32.ofNat wt ∧ gY y J a P n w wt p5 p6 127 0 0 J = p5 ∧ gY y J a P n w wt p5 p6 128 0 0 J = p6 ∧ gY y J a P n w wt p5 p6 129 0 0 J = 0 ∧ gY y J a P n w wt p5 p6 130 0 0 J = -1 ∧ gY y J a P n w wt p5 p6 131 0 0 J = -1 := by
  unfold gY
  refine ⟨?_, ?_, ?_, ?_, ?_, ?_, ?_, ?_, ?_, ?_⟩
  · rw [up4_ne (by omega), up4_ne (by omega), up4_ne (by omega), up4_ne (by omega), up4_ne (by omega), up4_ne (by omega), up4_ne (by omega), up4_ne (by omega), up4_ne (by omega), up4_eq]
  · rw [up4_ne (by omega), up4_ne (by omega), up4_ne (by omega), up4_ne (by omega), up4_ne (by omega), up4_ne (by omega), up4_ne (by omega), up4_ne (by omega), up4_eq]
  · rw [up4_ne (by omega), up4_ne (by omega), up4_ne (by omega), up4_ne (by omega), up4_ne (by omega), up4_ne (by omega), up4_ne (by omega), up4_eq]
  · rw [up4_ne (by omega), up4_ne (by omega), up4_ne (by omega), up4_ne (by omega), up4_ne (by omega), up4_ne (by omega), up4_eq]
  · rw [up4_ne (by omega), up4_ne (by omega), up4_ne (by omega), up4_ne (by omega), up4_ne (by omega), up4_eq]
  · rw [up4_ne (by omega), up4_ne (by omega), up4_ne (by omega), up4_ne (by omega), up4_eq]
  · rw [up4_ne (by omega), up4_ne (by omega), up4_ne (by omega), up4_eq]
  · rw [up4_ne (by omega), up4_ne (by omega), up4_eq]
  · rw [up4_ne (by omega), up4_eq]
  · rw [up4_eq]
/-- what both do when a job is given -/
theorem aj_sim {c : Fin 10} {N : Nat} {x0 y0 x y : Mem} (h : Ins c N x0 y0 (V y 117) x y) (hI : Inv (V y)) {p1 p2 p3 p4 p5 p6 : Int32} (hG : GOk (V y) p1 p2 p3 p4 p5 p6) : ∃ (J : Nat) (x' y' : Mem), m_X1_addJob c p1 p2 p3 p4 p5 p6 x = some (Int32.ofNat J, x') ∧ m_X12_gives p1 p2 p3 p4 p5 p6 y = some y' ∧ y' 40 0 0 34 = Int32.ofNat (J + 1) ∧ Rep x' c (V y') N ∧ Con x' ∧ Inv (V y') ∧ FX c x x' ∧ (∀ k d i s, 148 ≤ k ∨ (k = 40 ∧ s ≠ 34) → y' k d i s = y k d i s) := by
  obtain ⟨a, P, n, w, wt, J, ha, rfl, hP, hn, hok, rfl, hw1, hw9, rfl, hwt, rfl, hb5, hb6, hJ, eJ⟩ := hG
  have hn5 := hok.2.1
  have e40 : y 40 0 0 34 = Int32.ofNat J := eJ
  obtain ⟨J', hJ', eJ', hj', hAr, -⟩ := id hI
  have hJJ : J' = J := (eq_n (by omega) (by omega)).mp (eJ'.symm.trans eJ)
  subst hJJ
  obtain ⟨-, r, e111, hr, -⟩ := hAr a ha
  have x21 : x 2 c 0 1 = Int32.ofNat J' := h.1.1.2.1.trans ((ov_ne (by decide)).trans eJ)
  have x12 : x 0 c a 12 = Int32.ofNat r := (h.1.2.2.2.1 a ha).2.2.2.2.2.2.2.2.2.2.2.1.trans ((ov_ne (by decide)).trans e111)
  have hxy : (up4 (up4 (up4 (gX x c J' a P n w wt p5 p6) 2 c 0 1 (Int32.ofNat (J' + 1))) 1 c a r (Int32.ofNat J')) 0 c a 12 (Int32.ofNat (r + 1))) = (up4 (up4 (up4 (gX x c J' a P n w wt p5 p6) 2 c 0 1 (Int32.ofNat (J' + 1))) 1 c a r (Int32.ofNat J')) 0 c a 12 (Int32.ofNat (r + 1))) := rfl
  have oX : ∀ k d i s, ¬ (k = 12 ∧ i = J') → ¬ (k = 2 ∧ i = 0 ∧ s = 1) → ¬ (k = 1 ∧ i = a ∧ s = r) → ¬ (k = 0 ∧ i = a ∧ s = 12) → up4 (up4 (up4 (gX x c J' a P n w wt p5 p6) 2 c 0 1 (Int32.ofNat (J' + 1))) 1 c a r (Int32.ofNat J')) 0 c a 12 (Int32.ofNat (r + 1)) k d i s = x k d i s := fun k d i s q1 q2 q3 q4 => by rw [up4_ne (by omega), up4_ne (by omega), up4_ne (by omega), gX_o (by omega)]
  have oY : ∀ k d i s, ¬ (122 ≤ k ∧ k ≤ 131 ∧ s = J') → ¬ (k = 40 ∧ s = 34) → ¬ (k = 112 ∧ s = 30 * a + r) → ¬ (k = 111 ∧ s = a) → up4 (up4 (up4 (gY y J' a P n w wt p5 p6) 112 0 0 (30 * a + r) (Int32.ofNat J')) 111 0 0 a (Int32.ofNat (r + 1))) 40 0 0 34 (Int32.ofNat (J' + 1)) k d i s = y k d i s := fun k d i s q1 q2 q3 q4 => by rw [up4_ne (by omega), up4_ne (by omega), up4_ne (by omega), gY_o (by omega)]
  have hY12 : ∀ k, 122 ≤ k → k ≤ 131 → up4 (up4 (up4 (gY y J' a P n w wt p5 p6) 112 0 0 (30 * a + r) (Int32.ofNat J')) 111 0 0 a (Int32.ofNat (r + 1))) 40 0 0 34 (Int32.ofNat (J' + 1)) k 0 0 J' = gY y J' a P n w wt p5 p6 k 0 0 J' := fun k q1 q2 => by rw [up4_ne (by omega), up4_ne (by omega), up4_ne (by omega)]
  have hX12 : ∀ s, up4 (up4 (up4 (gX x c J' a P n w wt p5 p6) 2 c 0 1 (Int32.ofNat (J' + 1))) 1 c a r (Int32.ofNat J')) 0 c a 12 (Int32.ofNat (r + 1)) 12 c J' s = gX x c J' a P n w wt p5 p6 12 c J' s := fun s => by rw [up4_ne (by omega), up4_ne (by omega), up4_ne (by omega)]
  obtain ⟨j0, j1, j2, j3, j4, j5, j6, j7, j8, j9⟩ := gJoY (y := y) (J := J') (a := a) (P := P) (n := n) (w := w) (wt := wt) (p5 := p5) (p6 := p6)
  obtain ⟨k0, k1, k2, k3, k4, k5, k6, k7, k8, k9⟩ := gJob (x := x) (y := y) (c := c) (J := J') (a := a) (P := P) (n := n) (w := w) (wt := wt) (p5 := p5) (p6 := p6)
  refine ⟨J', up4 (up4 (up4 (gX x c J' a P n w wt p5 p6) 2 c 0 1 (Int32.ofNat (J' + 1))) 1 c a r (Int32.ofNat J')) 0 c a 12 (Int32.ofNat (r + 1)), up4 (up4 (up4 (gY y J' a P n w wt p5 p6) 112 0 0 (30 * a + r) (Int32.ofNat J')) 111 0 0 a (Int32.ofNat (r + 1))) 40 0 0 34 (Int32.ofNat (J' + 1)), ?_, ?_, up4_eq, ?_, ?_, ?_, ?_, fun k d i s q => oY _ _ _ _ (by omega) (by omega) (by omega) (by omega)⟩
  · unfold m_X1_addJob m_X0_addToRow
    rw [e_lt, x21, job_at hJ, e_bd]
    simp only [f31 hJ]
    rw [e_lt, e_lt, ln_n hP, e_bd, ← hn, e_lt, e_lt, e_lt, e_lt, e_lt, e_lt, e_lt, e_lt]
    rw [show up4 (up4 (up4 (up4 (up4 (up4 (up4 (up4 (up4 (up4 x 12 c J' 0 (Int32.ofNat a)) 12 c J' 1 (Int32.ofNat P)) 12 c J' 2 (Int32.ofNat n)) 12 c J' 3 (Int32.ofNat w)) 12 c J' 4 (Int32.ofNat wt)) 12 c J' 5 (p5)) 12 c J' 6 (p6)) 12 c J' 7 (0)) 12 c J' 8 (-1)) 12 c J' 9 (-1) = gX x c J' a P n w wt p5 p6 from rfl, gX_o (by omega), x21, n1, e_lt, arm_at ha, e_bd]
    simp only [f4 ha]
    rw [up4_ne (k' := 0) (by omega), gX_o (by omega), x12, if_neg (ge0 (by omega)), if_neg (show ¬ (30 : Int32) ≤ Int32.ofNat r from le_f (a := 30) (by decide) (by omega) (by omega)), gd_n (show r < 30 by omega) (by decide), e_lt, tn (show r < 2 ^ 31 by omega), up4_ne (k' := 0) (by omega), up4_ne (k' := 0) (by omega), gX_o (by omega), x12, n1, e_lt, e_bd]
  · unfold m_X12_gives
    rw [gs hJ e40, gs hJ (gse (by decide) e40), dg_n (by omega), e_bd, ← hn, gs hJ (gse (by decide) (gse (by decide) e40)), gs hJ (gse (by decide) (gse (by decide) (gse (by decide) e40))), gs hJ (gse (by decide) (gse (by decide) (gse (by decide) (gse (by decide) e40)))), gs hJ (gse (by decide) (gse (by decide) (gse (by decide) (gse (by decide) (gse (by decide) e40))))), gs hJ (gse (by decide) (gse (by decide) (gse (by decide) (gse (by decide) (gse (by decide) (gse (by decide) e40)))))), gs hJ (gse (by decide) (gse (by decide) (gse (by decide) (gse (by decide) (gse (by decide) (gse (by decide) (gse (by decide) e40))))))), gs hJ (gse (by decide) (gse (by decide) (gse (by decide) (gse (by decide) (gse (by decide) (gse (by decide) (gse (by decide) (gse (by decide) e40)))))))), gs hJ (gse (by decide) (gse (by decide) (gse (by decide) (gse (by decide) (gse (by decide) (gse (by decide) (gse (by decide) (gse (by decide) (gse (by decide) e40)))))))))]
    rw [show up4 (up4 (up4 (up4 (up4 (up4 (up4 (up4 (up4 (up4 y 122 0 0 J' (Int32.ofNat a)) 123 0 0 J' (Int32.ofNat P)) 124 0 0 J' (Int32.ofNat n)) 125 0 0 J' (Int32.ofNat w)) 126 0 0 J' (Int32.ofNat wt)) 127 0 0 J' (p5)) 128 0 0 J' (p6)) 129 0 0 J' (0)) 130 0 0 J' (-1)) 131 0 0 J' (-1) = gY y J' a P n w wt p5 p6 from rfl, gd_n ha (by decide), tn (show a < 2 ^ 31 by omega), gY_o (k := 111) (by omega), show y 111 0 0 a = Int32.ofNat r from e111, m30, gd_n (show 30 * a + r < 90 by omega) (by decide), tn (show 30 * a + r < 2 ^ 31 by omega), e_lt, gY_o (k := 40) (by omega), e40, up4_ne (k' := 111) (by omega), gY_o (k := 111) (by omega), show y 111 0 0 a = Int32.ofNat r from e111, n1, e_lt, up4_ne (k' := 40) (by omega), up4_ne (k' := 40) (by omega), gY_o (k := 40) (by omega), e40, n1, e_lt]
  · have hR : Rep x c (V y) N := by
      have := h.1
      rw [ov_self] at this
      exact this
    refine hR.give ha hJ eJ (by omega) e111 hI.row30 (fun b hb h0 => (hAr b hb).jlt hJ' h0) (fun k i s q1 q2 q3 q4 => oX _ _ _ _ q1 q2 q3 q4) (fun k s q1 q2 q3 q4 => oY _ _ _ _ q1 q2 q3 q4) (by rw [up4_ne (by omega), up4_ne (by omega), up4_eq]) up4_eq (by rw [up4_ne (by omega), up4_eq]) ?_ up4_eq ?_ ?_
    · show up4 _ _ _ _ _ _ 112 0 0 (30 * a + r) = _
      rw [up4_ne (by omega), up4_ne (by omega), up4_eq]
    · show up4 _ _ _ _ _ _ 111 0 0 a = _
      rw [up4_ne (by omega), up4_eq]
    · refine ⟨?_, ?_, ?_, ?_, ?_, ?_, ?_, ?_, ?_, ?_⟩
      · rw [hX12, k0]
        exact ((hY12 122 (by decide) (by decide)).trans j0).symm
      · rw [hX12, k1]
        exact ((hY12 123 (by decide) (by decide)).trans j1).symm
      · rw [hX12, k2]
        exact ((hY12 124 (by decide) (by decide)).trans j2).symm
      · rw [hX12, k3]
        exact ((hY12 125 (by decide) (by decide)).trans j3).symm
      · rw [hX12, k4]
        exact ((hY12 126 (by decide) (by decide)).trans j4).symm
      · rw [hX12, k5]
        exact ((hY12 127 (by decide) (by decide)).trans j5).symm
      · rw [hX12, k6]
        exact ((hY12 128 (by decide) (by decide)).trans j6).symm
      · rw [hX12, k7]
        exact ((hY12 129 (by decide) (by decide)).trans j7).symm
      · rw [hX12, k8]
        exact ((hY12 130 (by decide) (by decide)).trans j8).symm
      · rw [hX12, k9]
        exact ((hY12 131 (by decide) (by decide)).trans j9).symm
  · refine fun d q => ⟨?_, fun b r' => ?_⟩
    · rw [oX _ _ _ _ (by omega) (by omega) (by omega) (by omega)]
      exact (h.2.1 d q).1
    · rw [oX _ _ _ _ (by omega) (by omega) (by omega) (by omega)]
      exact (h.2.1 d q).2 b r'
  · refine hI.give ha hJ eJ (by omega) e111 (fun k s _ q1 q2 q3 q4 => oY _ _ _ _ q1 q2 q3 q4) up4_eq ?_ ?_ ?_
    · show up4 _ _ _ _ _ _ 112 0 0 (30 * a + r) = _
      rw [up4_ne (by omega), up4_ne (by omega), up4_eq]
    · show up4 _ _ _ _ _ _ 111 0 0 a = _
      rw [up4_ne (by omega), up4_eq]
    · refine ⟨⟨P, n, (hY12 123 (by decide) (by decide)).trans j1, (hY12 124 (by decide) (by decide)).trans j2, hok⟩, ⟨w, hw1, hw9, (hY12 125 (by decide) (by decide)).trans j3⟩, ⟨wt, hwt, (hY12 126 (by decide) (by decide)).trans j4⟩, ?_, ?_⟩
      · exact (congrArg BufOk ((hY12 127 (by decide) (by decide)).trans j5)).mpr hb5
      · exact (congrArg BufOk ((hY12 128 (by decide) (by decide)).trans j6)).mpr hb6
  · intro k d i s q1 q2
    have hgx : gX x c J' a P n w wt p5 p6 k d i s = x k d i s := by
      unfold gX
      rw [up4_ne (by omega), up4_ne (by omega), up4_ne (by omega), up4_ne (by omega), up4_ne (by omega), up4_ne (by omega), up4_ne (by omega), up4_ne (by omega), up4_ne (by omega), up4_ne (by omega)]
    rw [up4_ne (by omega), up4_ne (by omega), up4_ne (by omega), hgx]
theorem sim_give : Sim_give Rel := by
  intro i x y p0 p1 p2 p3 p4 p5 hi hR
  obtain ⟨f, g, e1, e2, hc⟩ := gf_sim (c := 0) hR.ins hR.2.1.2 p0 p1 p2 p3 p4 p5
  unfold m_X11_give m_X12_give m_X11_throwFor
  rw [e1, e_bd, e2, e_bd, e_lt, up4_eq]
  rcases hc with ⟨rfl, rfl, hG⟩ | ⟨rfl, rfl⟩ | ⟨rfl, rfl⟩ | ⟨rfl, rfl⟩ | ⟨rfl, rfl⟩
  · obtain ⟨x', y', k1, k2, g1, g2, g3, -, g5, -⟩ := keep_sim (hR.th 0)
    have hG' : GOk (V y') p0 p1 p2 p3 p4 p5 := by
      obtain ⟨a, P, n, w, wt, J, u1, u2, u3, u4, u5, u6, u7, u8, u9, u10, u11, u12, u13, u14, u15⟩ := hG
      refine ⟨a, P, n, w, wt, J, u1, u2, u3, u4, u5, u6, u7, u8, u9, u10, u11, u12, u13, u14, ?_⟩
      rw [← g2 40 34 (mnS (by decide) (by decide))]
      exact u15
    obtain ⟨J, x2, y2, q1, q2, q3, q4, q5, q6, q7, q8⟩ := aj_sim (c := 0) g1.ins g1.2.1.2 hG'
    rw [if_pos rfl, e_bx0, k1, e_bd, q1, e_bd2, if_pos (show (0 : Int32) ≤ 0 by decide), k2, e_bd, q2, e_bd, q3, s1]
    have hm : SAT * i ≤ SAT * (i + 1) := Nat.mul_le_mul_left _ (Nat.le_succ i)
    refine ⟨0, Int32.ofNat J, x2, Int32.ofNat J, y2, rfl, rfl, by decide, ?_, fun _ => rfl, g1.main (Nat.le_succ _) q5 (q4.mono hm) q6 (fun k c a t w1 w2 _ => q7 _ _ _ _ (by show ¬ (k < 14 ∧ c = 0); omega) (by omega)) (fun k c a t w => q7 _ _ _ _ (by show ¬ (k < 14 ∧ c = 0); omega) (by omega)) (fun s => q8 _ _ _ _ (by omega)) (fun s => q8 _ _ _ _ (by omega)) (fun s => q8 _ _ _ _ (by omega)) (q8 _ _ _ _ (by omega)) (q8 _ _ _ _ (by omega)) (q8 _ _ _ _ (by omega))⟩
    rw [q8 _ _ _ _ (by omega), g5, up4_eq]
    rfl
  · rw [if_neg (by decide), if_pos rfl, if_neg (by decide)]
    exact ⟨1, 0, x, 0, _, rfl, rfl, by decide, up4_eq, fun h => absurd h (by decide), (hR.th 1).up⟩
  · rw [if_neg (by decide), if_neg (by decide), if_pos rfl, if_neg (by decide)]
    exact ⟨2, 0, x, 0, _, rfl, rfl, by decide, up4_eq, fun h => absurd h (by decide), (hR.th 2).up⟩
  · rw [if_neg (by decide), if_neg (by decide), if_neg (by decide), if_pos rfl, if_neg (by decide)]
    exact ⟨4, 0, x, 0, _, rfl, rfl, by decide, up4_eq, fun h => absurd h (by decide), (hR.th 3).up⟩
  · rw [if_neg (by decide), if_neg (by decide), if_neg (by decide), if_neg (by decide), if_neg (by decide)]
    exact ⟨3, 0, x, 0, _, rfl, rfl, by decide, up4_eq, fun h => absurd h (by decide), (hR.th 4).up⟩
