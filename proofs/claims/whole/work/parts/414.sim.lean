/-! SUMS -/
theorem le_f {a b : Nat} (ha : a < 2 ^ 31) (hb : b < 2 ^ 31) (h : b < a) : ¬ Int32.ofNat a ≤ Int32.ofNat b := fun q => by
  have := (le_n ha hb).mp q
  omega
theorem ps_loop {c : Fin 10} {x : Mem} : ∀ (m t : Nat), t ≤ 3 → 3 < t + m → m_X1_partsInStores_l4 c m (sumT t fun k => x 9 c k 1) (Int32.ofNat t) x = some (sumT 3 fun k => x 9 c k 1) := by
  intro m
  induction m with
  | zero => intro t h1 h2; omega
  | succ m ih =>
    intro t h1 h2
    show m_X1_partsInStores_b4 c (m_X1_partsInStores_l4 c m) _ _ x = _
    unfold m_X1_partsInStores_b4
    by_cases ht : t = 3
    · subst ht
      rw [if_pos (by decide)]
    have h3 : t < 3 := by omega
    rw [if_neg (le3 h3), sto_at h3, e_bd, f4 h3, e_lt, e_lt, n1]
    exact ih (t + 1) (by omega) (by omega)
theorem rs_loop {c : Fin 10} {x : Mem} : ∀ (m t : Nat), t ≤ 3 → 3 < t + m → m_X1_refusals_l4 c m (sumT t fun k => x 0 c k 10) (Int32.ofNat t) x = some (sumT 3 fun k => x 0 c k 10) := by
  intro m
  induction m with
  | zero => intro t h1 h2; omega
  | succ m ih =>
    intro t h1 h2
    show m_X1_refusals_b4 c (m_X1_refusals_l4 c m) _ _ x = _
    unfold m_X1_refusals_b4
    by_cases ht : t = 3
    · subst ht
      rw [if_pos (by decide)]
    have h3 : t < 3 := by omega
    rw [if_neg (le3 h3), arm_at h3, e_bd, f4 h3, e_lt, e_lt, n1]
    exact ih (t + 1) (by omega) (by omega)
theorem sum_loop {K n : Nat} {y : Mem} (hn : n < 2 ^ 31) : ∀ (m t : Nat), t ≤ n → n < t + m → m_X12_sum_l4 (K, 0, 0) n m (sumT t fun k => y K 0 0 k) (Int32.ofNat t) y = some (sumT n fun k => y K 0 0 k) := by
  intro m
  induction m with
  | zero => intro t h1 h2; omega
  | succ m ih =>
    intro t h1 h2
    show m_X12_sum_b4 (K, 0, 0) n (m_X12_sum_l4 (K, 0, 0) n m) _ _ y = _
    unfold m_X12_sum_b4
    by_cases ht : t = n
    · subst ht
      rw [if_pos ((le_n hn hn).mpr (Nat.le_refl _))]
    have h3 : t < n := by omega
    rw [if_neg (le_f hn (by omega) h3), gd_n h3 hn, tn (show t < 2 ^ 31 by omega), e_lt, e_lt, n1]
    exact ih (t + 1) (by omega) (by omega)
theorem parts_n {c : Fin 10} {x : Mem} : m_X1_partsInStores c x = some (sumT 3 fun k => x 9 c k 1) := by
  unfold m_X1_partsInStores
  rw [e_lt, e_lt]
  have h := ps_loop (c := c) (x := x) FU 0 (Nat.zero_le _) (by unfold FU; omega)
  rw [← z0] at h
  exact h
theorem refus_n {c : Fin 10} {x : Mem} : m_X1_refusals c x = some (sumT 3 fun k => x 0 c k 10) := by
  unfold m_X1_refusals
  rw [e_lt, e_lt]
  have h := rs_loop (c := c) (x := x) FU 0 (Nat.zero_le _) (by unfold FU; omega)
  rw [← z0] at h
  exact h
theorem sum_n {K n : Nat} {y : Mem} (hn : n < 4000) : m_X12_sum (K, 0, 0) n y = some (sumT n fun k => y K 0 0 k) := by
  unfold m_X12_sum
  rw [e_lt, e_lt]
  have h := sum_loop (K := K) (n := n) (y := y) (by omega) FU 0 (Nat.zero_le _) (by unfold FU; omega)
  rw [← z0] at h
  exact h
def ilk (y : Mem) (z k : Nat) : Int32 := sar32 (y 101 0 0 z) (Int32.ofNat k) &&& 1
theorem il_in {y : Mem} {z : Nat} {s : Int32} (hz : z < 8) (k4 : Int32 → Int32 → Mem → Option Int32) : ∀ (m t : Nat), t ≤ z → z < t + m → m_X12_interlocks_l12 k4 m (s + sumT t (ilk y z)) (Int32.ofNat z) (Int32.ofNat t) y = k4 (s + sumT z (ilk y z)) (Int32.ofNat (z + 1)) y := by
  intro m
  induction m with
  | zero => intro t h1 h2; omega
  | succ m ih =>
    intro t h1 h2
    show m_X12_interlocks_b12 k4 (m_X12_interlocks_l12 k4 m) _ _ _ y = _
    unfold m_X12_interlocks_b12
    by_cases ht : t = z
    · subst ht
      rw [if_pos ((le_n (by omega) (by omega)).mpr (Nat.le_refl _)), e_lt, n1]
    have h3 : t < z := by omega
    rw [if_neg (le_f (by omega) (by omega) h3), gd_n hz (by decide), tn (show z < 2 ^ 31 by omega), e_lt, e_lt, n1, Int32.add_assoc]
    exact ih (t + 1) (by omega) (by omega)
theorem il_out {y : Mem} : ∀ (m z : Nat), z ≤ 8 → 8 < z + m → m_X12_interlocks_l4 m (sumT z fun z => sumT z (ilk y z)) (Int32.ofNat z) y = some (sumT 8 fun z => sumT z (ilk y z)) := by
  intro m
  induction m with
  | zero => intro t h1 h2; omega
  | succ m ih =>
    intro t h1 h2
    show m_X12_interlocks_b4 (m_X12_interlocks_l4 m) _ _ y = _
    unfold m_X12_interlocks_b4
    by_cases ht : t = 8
    · subst ht
      rw [if_pos (by decide)]
    have h3 : t < 8 := by omega
    rw [if_neg (show ¬ (8 : Int32) ≤ Int32.ofNat t from le_f (a := 8) (by decide) (by omega) h3), e_lt]
    have h := il_in (y := y) (s := sumT t fun z => sumT z (ilk y z)) h3 (m_X12_interlocks_l4 m) FU 0 (Nat.zero_le _) (by unfold FU; omega)
    rw [← z0, show sumT 0 (ilk y t) = 0 from rfl, Int32.add_zero] at h
    rw [h]
    exact ih (t + 1) (by omega) (by omega)
theorem interlocks_n {y : Mem} : m_X12_interlocks y = some (icnt (V y)) := by
  unfold m_X12_interlocks
  rw [e_lt, e_lt]
  have h := il_out (y := y) FU 0 (Nat.zero_le _) (by unfold FU; omega)
  rw [← z0] at h
  exact h
