/-! THE ORDER OF THE ARMS -/
def bN (p : Nat → Int32) (i : Nat) : Nat → Nat
  | 0 => 0
  | t + 1 => if p i < p t then bN p i t + 1 else if p t = p i then (if i ≤ t then bN p i t else bN p i t + 1) else bN p i t
theorem bN_le {p : Nat → Int32} {i : Nat} : ∀ t, bN p i t ≤ t
  | 0 => Nat.le_refl _
  | t + 1 => by
    have := bN_le (p := p) (i := i) t
    unfold bN
    split
    · omega
    · split
      · split <;> omega
      · omega
theorem ab_l {x : Mem} {c : Fin 10} {p : Nat → Int32} {i : Nat} (hi : i < 3) (hp : ∀ b, b < 3 → x 0 c b 7 = p b) : ∀ (m t : Nat), t ≤ 3 → 3 < t + m → m_X1_armsBefore_l14 c (Int32.ofNat i) m (p i) (Int32.ofNat (bN p i t)) (Int32.ofNat t) x = some (Int32.ofNat (bN p i 3)) := by
  intro m
  induction m with
  | zero => intro t h1 h2; omega
  | succ m ih =>
    intro t h1 h2
    show m_X1_armsBefore_b14 c (Int32.ofNat i) (m_X1_armsBefore_l14 c (Int32.ofNat i) m) (p i) _ (Int32.ofNat t) x = _
    unfold m_X1_armsBefore_b14 m_X1_armsBefore_j49 m_X1_armsBefore_j52
    by_cases ht : t = 3
    · subst ht
      rw [if_pos (by decide)]
    have h3 : t < 3 := by omega
    have hn := ih (t + 1) (by omega) (by omega)
    rw [show bN p i (t + 1) = if p i < p t then bN p i t + 1 else if p t = p i then (if i ≤ t then bN p i t else bN p i t + 1) else bN p i t from rfl] at hn
    rw [if_neg (le3 h3), arm_at h3, e_bd]
    simp only [f4 h3]
    rw [e_lt, hp t h3]
    by_cases q1 : p i < p t
    · rw [if_pos q1] at hn ⊢
      rw [e_lt, e_lt, n1, n1]
      exact hn
    · rw [if_neg q1] at hn ⊢
      by_cases q2 : p t = p i
      · rw [if_pos q2] at hn ⊢
        by_cases q3 : i ≤ t
        · rw [if_pos ((le_n (by omega) (by omega)).mpr q3), e_lt, n1]
          rw [if_pos q3] at hn
          exact hn
        · rw [if_neg (fun w => q3 ((le_n (by omega) (by omega)).mp w)), e_lt, e_lt, n1, n1]
          rw [if_neg q3] at hn
          exact hn
      · rw [if_neg q2] at hn ⊢
        rw [e_lt, n1]
        exact hn
theorem ab_x {x : Mem} {c : Fin 10} {p : Nat → Int32} {i : Nat} (hi : i < 3) (hp : ∀ b, b < 3 → x 0 c b 7 = p b) : m_X1_armsBefore c (Int32.ofNat i) x = some (Int32.ofNat (bN p i 3)) := by
  unfold m_X1_armsBefore
  rw [arm_at hi, e_bd]
  simp only [f4 hi]
  rw [e_lt, e_lt, e_lt, hp i hi]
  have h := ab_l (c := c) hi hp FU 0 (Nat.zero_le _) (by unfold FU; omega)
  rw [← z0, show bN p i 0 = 0 from rfl, ← z0] at h
  exact h
theorem fo_step {x : Mem} {c : Fin 10} {p : Nat → Int32} {i m : Nat} (hi : i < 3) (hp : ∀ b, b < 3 → x 0 c b 7 = p b) (hb : bN p i 3 < 3) : m_X8_findOrder_l2 c (m + 1) (Int32.ofNat i) x = m_X8_findOrder_l2 c m (Int32.ofNat (i + 1)) (up4 x 18 0 0 (bN p i 3) (Int32.ofNat i)) := by
  show m_X8_findOrder_b2 c (m_X8_findOrder_l2 c m) (Int32.ofNat i) x = _
  unfold m_X8_findOrder_b2 m_X8_findOrder_j33
  rw [if_neg (le3 hi), ab_x hi hp, e_bd, e_lt, if_neg (ge0 (by omega)), if_neg (le3 hb), gd_n hb (by decide), e_lt, e_lt, n1, tn (show bN p i 3 < 2 ^ 31 by omega)]
theorem fo_x {x : Mem} {c : Fin 10} {p : Nat → Int32} (hp : ∀ b, b < 3 → x 0 c b 7 = p b) (hb : ∀ i, i < 3 → bN p i 3 < 3) : m_X8_findOrder c x = some (up4 (up4 (up4 x 18 0 0 (bN p 0 3) (Int32.ofNat 0)) 18 0 0 (bN p 1 3) (Int32.ofNat 1)) 18 0 0 (bN p 2 3) (Int32.ofNat 2)) := by
  obtain ⟨m, hm⟩ := FUs
  unfold m_X8_findOrder
  rw [e_lt, z0, hm, show m + 8 = (m + 7) + 1 from rfl, fo_step (by decide) hp (hb 0 (by decide)), show m + 7 = (m + 6) + 1 from rfl, fo_step (by decide) (fun b q => (up4_ne (by omega)).trans (hp b q)) (hb 1 (by decide)), show m + 6 = (m + 5) + 1 from rfl, fo_step (by decide) (fun b q => (up4_ne (by omega)).trans ((up4_ne (by omega)).trans (hp b q))) (hb 2 (by decide)), show m + 5 = (m + 4) + 1 from rfl]
  show m_X8_findOrder_b2 c (m_X8_findOrder_l2 c (m + 4)) (Int32.ofNat 3) _ = _
  unfold m_X8_findOrder_b2
  rw [if_pos (by decide)]
theorem in_0 {y : Mem} {k2 : Int32 → Mem → Option Mem} {a m : Nat} : m_X12_findTurns_l9 k2 (m + 1) (Int32.ofNat a) (Int32.ofNat 0) y = k2 (Int32.ofNat (a + 1)) (up4 y 147 0 0 0 (Int32.ofNat a)) := by
  show m_X12_findTurns_b9 k2 (m_X12_findTurns_l9 k2 m) _ _ y = _
  unfold m_X12_findTurns_b9 m_X12_findTurns_j55
  rw [if_pos (by decide), gd_n (k := 0) (n := 3) (by decide) (by decide), e_lt, e_lt, n1, tn (k := 0) (by decide)]
theorem in_s {y : Mem} {k2 : Int32 → Mem → Option Mem} {a t o m : Nat} (ha : a < 3) (ht : t + 1 < 3) (ho : o < 3) (e : y 147 0 0 t = Int32.ofNat o) : m_X12_findTurns_l9 k2 (m + 1) (Int32.ofNat a) (Int32.ofNat (t + 1)) y = if y 117 0 0 a ≤ y 117 0 0 o then k2 (Int32.ofNat (a + 1)) (up4 y 147 0 0 (t + 1) (Int32.ofNat a)) else m_X12_findTurns_l9 k2 m (Int32.ofNat a) (Int32.ofNat t) (up4 y 147 0 0 (t + 1) (Int32.ofNat o)) := by
  show m_X12_findTurns_b9 k2 (m_X12_findTurns_l9 k2 m) _ _ y = _
  unfold m_X12_findTurns_b9 m_X12_findTurns_j55
  rw [if_neg (gt0 (by omega)), s1, gd_n (show t < 3 by omega) (by decide), tn (show t < 2 ^ 31 by omega), e, gd_n ho (by decide), gd_n ha (by decide), tn (show a < 2 ^ 31 by omega), tn (show o < 2 ^ 31 by omega)]
  by_cases q : y 117 0 0 a ≤ y 117 0 0 o
  · rw [if_pos q, if_pos q, gd_n ht (by decide), e_lt, e_lt, n1, tn (show t + 1 < 2 ^ 31 by omega)]
  · rw [if_neg q, if_neg q, gd_n ht (by decide), e_lt, e_lt, d1, tn (show t + 1 < 2 ^ 31 by omega)]
theorem ft_s {y : Mem} {a m : Nat} (ha : a < 3) : m_X12_findTurns_l2 (m + 1) (Int32.ofNat a) y = m_X12_findTurns_l9 (m_X12_findTurns_l2 m) FU (Int32.ofNat a) (Int32.ofNat a) y := by
  show m_X12_findTurns_b2 (m_X12_findTurns_l2 m) _ y = _
  unfold m_X12_findTurns_b2
  rw [if_neg (le3 ha), e_lt]
theorem ft_e {y : Mem} {m : Nat} : m_X12_findTurns_l2 (m + 1) (Int32.ofNat 3) y = some y := by
  show m_X12_findTurns_b2 (m_X12_findTurns_l2 m) _ y = _
  unfold m_X12_findTurns_b2
  rw [if_pos (by decide)]
theorem tri (u v : Int32) : (u < v ∧ ¬ v < u ∧ ¬ u = v ∧ ¬ v = u) ∨ (¬ u < v ∧ v < u ∧ ¬ u = v ∧ ¬ v = u) ∨ (¬ u < v ∧ ¬ v < u ∧ u = v) := by
  have e : ∀ a b : Int32, a = b ↔ a.toInt = b.toInt := fun a b => Int32.toInt_inj.symm
  simp only [Int32.lt_iff_toInt_lt, e]
  omega
theorem bN_0 {p : Nat → Int32} : bN p 0 3 = (if p 0 < p 1 then 1 else 0) + (if p 0 < p 2 then 1 else 0) := by
  have h0 : ¬ p 0 < p 0 := Int32.lt_irrefl
  rcases tri (p 0) (p 1) with ⟨a1, a2, a3, a4⟩ | ⟨a1, a2, a3, a4⟩ | ⟨a1, a2, a3⟩ <;> rcases tri (p 0) (p 2) with ⟨c1, c2, c3, c4⟩ | ⟨c1, c2, c3, c4⟩ | ⟨c1, c2, c3⟩ <;> simp [bN, h0, a1, c1]
theorem bN_1 {p : Nat → Int32} : bN p 1 3 = (if p 0 < p 1 then 0 else 1) + (if p 1 < p 2 then 1 else 0) := by
  have h0 : ¬ p 1 < p 1 := Int32.lt_irrefl
  rcases tri (p 0) (p 1) with ⟨a1, a2, a3, a4⟩ | ⟨a1, a2, a3, a4⟩ | ⟨a1, a2, a3⟩ <;> rcases tri (p 1) (p 2) with ⟨c1, c2, c3, c4⟩ | ⟨c1, c2, c3, c4⟩ | ⟨c1, c2, c3⟩ <;> simp [bN, h0, a1, a2, a3, c1]
theorem bN_2 {p : Nat → Int32} : bN p 2 3 = (if p 0 < p 2 then 0 else 1) + (if p 1 < p 2 then 0 else 1) := by
  have h0 : ¬ p 2 < p 2 := Int32.lt_irrefl
  rcases tri (p 0) (p 2) with ⟨a1, a2, a3, a4⟩ | ⟨a1, a2, a3, a4⟩ | ⟨a1, a2, a3⟩ <;> rcases tri (p 1) (p 2) with ⟨c1, c2, c3, c4⟩ | ⟨c1, c2, c3, c4⟩ | ⟨c1, c2, c3⟩ <;> simp [bN, h0, a1, a2, a3, c1, c2, c3]
theorem ft_2 {Y : Mem} {u v m : Nat} (hu : u < 3) (hv : v < 3) (e0 : Y 147 0 0 0 = Int32.ofNat u) (e1 : Y 147 0 0 1 = Int32.ofNat v) : ∃ y', m_X12_findTurns_l2 (m + 2) (Int32.ofNat 2) Y = some y' ∧ (∀ k b i s, k ≠ 147 → y' k b i s = Y k b i s) ∧ y' 147 0 0 0 = Int32.ofNat (if Y 117 0 0 2 ≤ Y 117 0 0 v then u else if Y 117 0 0 2 ≤ Y 117 0 0 u then u else 2) ∧ y' 147 0 0 1 = Int32.ofNat (if Y 117 0 0 2 ≤ Y 117 0 0 v then v else if Y 117 0 0 2 ≤ Y 117 0 0 u then 2 else u) ∧ y' 147 0 0 2 = Int32.ofNat (if Y 117 0 0 2 ≤ Y 117 0 0 v then 2 else v) := by
  obtain ⟨m', hm⟩ := FUs
  rw [show m + 2 = (m + 1) + 1 from rfl, ft_s (by decide)]
  have h1 : ∀ k2 : Int32 → Mem → Option Mem, m_X12_findTurns_l9 k2 FU (Int32.ofNat 2) (Int32.ofNat 2) Y = if Y 117 0 0 2 ≤ Y 117 0 0 v then k2 (Int32.ofNat 3) (up4 Y 147 0 0 2 (Int32.ofNat 2)) else m_X12_findTurns_l9 k2 (m' + 7) (Int32.ofNat 2) (Int32.ofNat 1) (up4 Y 147 0 0 2 (Int32.ofNat v)) := fun k2 => by
    rw [hm, show m' + 8 = (m' + 7) + 1 from rfl]
    exact in_s (t := 1) (by decide) (by decide) hv e1
  rw [h1]
  by_cases q1 : Y 117 0 0 2 ≤ Y 117 0 0 v
  · simp only [if_pos q1]
    rw [ft_e]
    exact ⟨_, rfl, fun k b i s w => up4_ne (by omega), (up4_ne (by omega)).trans e0, (up4_ne (by omega)).trans e1, up4_eq⟩
  · simp only [if_neg q1]
    rw [show m' + 7 = (m' + 6) + 1 from rfl, in_s (t := 0) (by decide) (by decide) hu ((up4_ne (by omega)).trans e0), up4_ne (k' := 117) (by omega), up4_ne (k' := 117) (by omega)]
    by_cases q2 : Y 117 0 0 2 ≤ Y 117 0 0 u
    · simp only [if_pos q2]
      rw [ft_e]
      exact ⟨_, rfl, fun k b i s w => (up4_ne (by omega)).trans (up4_ne (by omega)), (up4_ne (by omega)).trans ((up4_ne (by omega)).trans e0), up4_eq, (up4_ne (by omega)).trans up4_eq⟩
    · simp only [if_neg q2]
      rw [show m' + 6 = (m' + 5) + 1 from rfl, in_0, ft_e]
      exact ⟨_, rfl, fun k b i s w => (up4_ne (by omega)).trans ((up4_ne (by omega)).trans (up4_ne (by omega))), up4_eq, (up4_ne (by omega)).trans up4_eq, (up4_ne (by omega)).trans ((up4_ne (by omega)).trans up4_eq)⟩
theorem ft_all {y : Mem} : ∃ y', m_X12_findTurns y = some y' ∧ (∀ k b i s, k ≠ 147 → y' k b i s = y k b i s) ∧ ((y 117 0 0 1 ≤ y 117 0 0 0 ∧ y' 147 0 0 0 = Int32.ofNat (if y 117 0 0 2 ≤ y 117 0 0 1 then 0 else if y 117 0 0 2 ≤ y 117 0 0 0 then 0 else 2) ∧ y' 147 0 0 1 = Int32.ofNat (if y 117 0 0 2 ≤ y 117 0 0 1 then 1 else if y 117 0 0 2 ≤ y 117 0 0 0 then 2 else 0) ∧ y' 147 0 0 2 = Int32.ofNat (if y 117 0 0 2 ≤ y 117 0 0 1 then 2 else 1)) ∨ (¬ y 117 0 0 1 ≤ y 117 0 0 0 ∧ y' 147 0 0 0 = Int32.ofNat (if y 117 0 0 2 ≤ y 117 0 0 0 then 1 else if y 117 0 0 2 ≤ y 117 0 0 1 then 1 else 2) ∧ y' 147 0 0 1 = Int32.ofNat (if y 117 0 0 2 ≤ y 117 0 0 0 then 0 else if y 117 0 0 2 ≤ y 117 0 0 1 then 2 else 1) ∧ y' 147 0 0 2 = Int32.ofNat (if y 117 0 0 2 ≤ y 117 0 0 0 then 2 else 0))) := by
  obtain ⟨m, hm⟩ := FUs
  have hy0 : m_X12_findTurns y = m_X12_findTurns_l9 (m_X12_findTurns_l2 (m + 6)) FU (Int32.ofNat 1) (Int32.ofNat 1) (up4 y 147 0 0 0 (Int32.ofNat 0)) := by
    unfold m_X12_findTurns
    rw [e_lt, z0]
    have h1 : m_X12_findTurns_l2 FU (Int32.ofNat 0) y = m_X12_findTurns_l2 (m + 8) (Int32.ofNat 0) y := by rw [hm]
    rw [h1, show m + 8 = (m + 7) + 1 from rfl, ft_s (by decide)]
    have h2 : ∀ k2 : Int32 → Mem → Option Mem, m_X12_findTurns_l9 k2 FU (Int32.ofNat 0) (Int32.ofNat 0) y = k2 (Int32.ofNat 1) (up4 y 147 0 0 0 (Int32.ofNat 0)) := fun k2 => by
      rw [hm, show m + 8 = (m + 7) + 1 from rfl, in_0]
    rw [h2, show m + 7 = (m + 6) + 1 from rfl, ft_s (by decide)]
  have h3 : ∀ k2 : Int32 → Mem → Option Mem, m_X12_findTurns_l9 k2 FU (Int32.ofNat 1) (Int32.ofNat 1) (up4 y 147 0 0 0 (Int32.ofNat 0)) = if y 117 0 0 1 ≤ y 117 0 0 0 then k2 (Int32.ofNat 2) (up4 (up4 y 147 0 0 0 (Int32.ofNat 0)) 147 0 0 1 (Int32.ofNat 1)) else k2 (Int32.ofNat 2) (up4 (up4 (up4 y 147 0 0 0 (Int32.ofNat 0)) 147 0 0 1 (Int32.ofNat 0)) 147 0 0 0 (Int32.ofNat 1)) := fun k2 => by
    rw [hm, show m + 8 = (m + 7) + 1 from rfl, in_s (t := 0) (o := 0) (by decide) (by decide) (by decide) up4_eq, up4_ne (k' := 117) (by omega), up4_ne (k' := 117) (by omega), show m + 7 = (m + 6) + 1 from rfl, in_0]
  rw [hy0, h3]
  by_cases q : y 117 0 0 1 ≤ y 117 0 0 0
  · rw [if_pos q]
    obtain ⟨y', w1, w2, w3, w4, w5⟩ := ft_2 (m := m + 4) (u := 0) (v := 1) (Y := up4 (up4 y 147 0 0 0 (Int32.ofNat 0)) 147 0 0 1 (Int32.ofNat 1)) (by decide) (by decide) ((up4_ne (by omega)).trans up4_eq) up4_eq
    refine ⟨y', w1, fun k b i s w => (w2 k b i s w).trans ((up4_ne (by omega)).trans (up4_ne (by omega))), Or.inl ⟨q, ?_⟩⟩
    have e : ∀ s, up4 (up4 y 147 0 0 0 (Int32.ofNat 0)) 147 0 0 1 (Int32.ofNat 1) 117 0 0 s = y 117 0 0 s := fun s => (up4_ne (by omega)).trans (up4_ne (by omega))
    rw [e 2, e 1, e 0] at w3 w4
    rw [e 2, e 1] at w5
    exact ⟨w3, w4, w5⟩
  · rw [if_neg q]
    obtain ⟨y', w1, w2, w3, w4, w5⟩ := ft_2 (m := m + 4) (u := 1) (v := 0) (Y := up4 (up4 (up4 y 147 0 0 0 (Int32.ofNat 0)) 147 0 0 1 (Int32.ofNat 0)) 147 0 0 0 (Int32.ofNat 1)) (by decide) (by decide) up4_eq ((up4_ne (by omega)).trans up4_eq)
    refine ⟨y', w1, fun k b i s w => (w2 k b i s w).trans ((up4_ne (by omega)).trans ((up4_ne (by omega)).trans (up4_ne (by omega)))), Or.inr ⟨q, ?_⟩⟩
    have e : ∀ s, up4 (up4 (up4 y 147 0 0 0 (Int32.ofNat 0)) 147 0 0 1 (Int32.ofNat 0)) 147 0 0 0 (Int32.ofNat 1) 117 0 0 s = y 117 0 0 s := fun s => (up4_ne (by omega)).trans ((up4_ne (by omega)).trans (up4_ne (by omega)))
    rw [e 2, e 1, e 0] at w3 w4
    rw [e 2, e 0] at w5
    exact ⟨w3, w4, w5⟩
/-- both sort the arms alike -/
theorem ord_sim {x y : Mem} {c : Fin 10} (hp : ∀ b, b < 3 → x 0 c b 7 = y 117 0 0 b) : ∃ (x' y' : Mem) (o : Nat → Nat), m_X8_findOrder c x = some x' ∧ m_X12_findTurns y = some y' ∧ (∀ k b i s, k ≠ 18 → x' k b i s = x k b i s) ∧ (∀ k b i s, k ≠ 147 → y' k b i s = y k b i s) ∧ ∀ t, t < 3 → o t < 3 ∧ x' 18 0 0 t = Int32.ofNat (o t) ∧ y' 147 0 0 t = Int32.ofNat (o t) := by
  obtain ⟨y', w1, w2, w3⟩ := ft_all (y := y)
  have b0 := bN_0 (p := fun s => y 117 0 0 s)
  have b1 := bN_1 (p := fun s => y 117 0 0 s)
  have b2 := bN_2 (p := fun s => y 117 0 0 s)
  have tr1 : y 117 0 0 0 < y 117 0 0 1 → y 117 0 0 1 < y 117 0 0 2 → y 117 0 0 0 < y 117 0 0 2 := Int32.lt_trans
  have tr2 : ¬ y 117 0 0 0 < y 117 0 0 1 → ¬ y 117 0 0 1 < y 117 0 0 2 → ¬ y 117 0 0 0 < y 117 0 0 2 := fun u v w => by
    have u' := Int32.not_lt.mp u
    have v' := Int32.not_lt.mp v
    exact Int32.not_lt.mpr (Int32.le_trans v' u') w
  simp only [← Int32.not_lt] at w3
  have hb : ∀ i, i < 3 → bN (fun s => y 117 0 0 s) i 3 < 3 := by
    intro i hi
    match i, hi with
    | 0, _ => rw [b0]; split <;> split <;> decide
    | 1, _ => rw [b1]; split <;> split <;> decide
    | 2, _ => rw [b2]; split <;> split <;> decide
  have hx := fo_x (p := fun s => y 117 0 0 s) hp hb
  rw [b0, b1, b2] at hx
  have mk : ∀ (o0 o1 o2 : Nat) (x' : Mem), m_X8_findOrder c x = some x' → (∀ k b i s, k ≠ 18 → x' k b i s = x k b i s) → o0 < 3 → o1 < 3 → o2 < 3 → x' 18 0 0 0 = Int32.ofNat o0 → x' 18 0 0 1 = Int32.ofNat o1 → x' 18 0 0 2 = Int32.ofNat o2 → y' 147 0 0 0 = Int32.ofNat o0 → y' 147 0 0 1 = Int32.ofNat o1 → y' 147 0 0 2 = Int32.ofNat o2 → ∃ (x' y' : Mem) (o : Nat → Nat), m_X8_findOrder c x = some x' ∧ m_X12_findTurns y = some y' ∧ (∀ k b i s, k ≠ 18 → x' k b i s = x k b i s) ∧ (∀ k b i s, k ≠ 147 → y' k b i s = y k b i s) ∧ ∀ t, t < 3 → o t < 3 ∧ x' 18 0 0 t = Int32.ofNat (o t) ∧ y' 147 0 0 t = Int32.ofNat (o t) := by
    intro o0 o1 o2 x' q1 q2 l0 l1 l2 a0 a1 a2 c0 c1 c2
    refine ⟨x', y', fun t => if t = 0 then o0 else if t = 1 then o1 else o2, q1, w1, q2, w2, fun t ht => ?_⟩
    match t, ht with
    | 0, _ => exact ⟨l0, a0, c0⟩
    | 1, _ => exact ⟨l1, a1, c1⟩
    | 2, _ => exact ⟨l2, a2, c2⟩
  have ou : ∀ (i j k : Nat) (u v w : Int32), ∀ k' b s' t, k' ≠ 18 → up4 (up4 (up4 x 18 0 0 i u) 18 0 0 j v) 18 0 0 k w k' b s' t = x k' b s' t := fun i j k u v w k' b s' t q => by rw [up4_ne (by omega), up4_ne (by omega), up4_ne (by omega)]
  by_cases A : y 117 0 0 0 < y 117 0 0 1 <;> by_cases B : y 117 0 0 1 < y 117 0 0 2 <;> by_cases C : y 117 0 0 0 < y 117 0 0 2
  · simp only [A, B, C, not_true_eq_false, not_false_eq_true, if_true, if_false, false_and, true_and, false_or, or_false] at hx w3
    exact mk 2 1 0 _ hx (ou _ _ _ _ _ _) (by decide) (by decide) (by decide) (by simp [up4_at]) (by simp [up4_at]) (by simp [up4_at]) w3.1 w3.2.1 w3.2.2
  · exact absurd (tr1 A B) C
  · simp only [A, B, C, not_true_eq_false, not_false_eq_true, if_true, if_false, false_and, true_and, false_or, or_false] at hx w3
    exact mk 1 2 0 _ hx (ou _ _ _ _ _ _) (by decide) (by decide) (by decide) (by simp [up4_at]) (by simp [up4_at]) (by simp [up4_at]) w3.1 w3.2.1 w3.2.2
  · simp only [A, B, C, not_true_eq_false, not_false_eq_true, if_true, if_false, false_and, true_and, false_or, or_false] at hx w3
    exact mk 1 0 2 _ hx (ou _ _ _ _ _ _) (by decide) (by decide) (by decide) (by simp [up4_at]) (by simp [up4_at]) (by simp [up4_at]) w3.1 w3.2.1 w3.2.2
  · simp only [A, B, C, not_true_eq_false, not_false_eq_true, if_true, if_false, false_and, true_and, false_or, or_false] at hx w3
    exact mk 2 0 1 _ hx (ou _ _ _ _ _ _) (by decide) (by decide) (by decide) (by simp [up4_at]) (by simp [up4_at]) (by simp [up4_at]) w3.1 w3.2.1 w3.2.2
  · simp only [A, B, C, not_true_eq_false, not_false_eq_true, if_true, if_false, false_and, true_and, false_or, or_false] at hx w3
    exact mk 0 2 1 _ hx (ou _ _ _ _ _ _) (by decide) (by decide) (by decide) (by simp [up4_at]) (by simp [up4_at]) (by simp [up4_at]) w3.1 w3.2.1 w3.2.2
  · exact absurd C (tr2 A B)
  · simp only [A, B, C, not_true_eq_false, not_false_eq_true, if_true, if_false, false_and, true_and, false_or, or_false] at hx w3
    exact mk 0 1 2 _ hx (ou _ _ _ _ _ _) (by decide) (by decide) (by decide) (by simp [up4_at]) (by simp [up4_at]) (by simp [up4_at]) w3.1 w3.2.1 w3.2.2
