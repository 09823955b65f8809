/-! THE REFERENCE'S COPIES: passes, pass, passAll -/
def blk (y : Mem) (k lo n : Nat) (f : Nat → Int32) : Mem := fun k' c i s => if k' = k ∧ c = 0 ∧ i = 0 ∧ lo ≤ s ∧ s < lo + n then f (s - lo) else y k' c i s
theorem up4_at {y : Mem} {k c i s k' c' i' s' : Nat} {v : Int32} : up4 y k c i s v k' c' i' s' = if k' = k ∧ c' = c ∧ i' = i ∧ s' = s then v else y k' c' i' s' := by
  unfold up4 upd
  by_cases h : k' = k ∧ c' = c ∧ i' = i
  · obtain ⟨rfl, rfl, rfl⟩ := h
    simp
  · rw [if_neg h, if_neg (fun q => h ⟨q.1, q.2.1, q.2.2.1⟩)]
theorem up4_ne {y : Mem} {k c i s k' c' i' s' : Nat} {v : Int32} (h : ¬ (k' = k ∧ c' = c ∧ i' = i ∧ s' = s)) : up4 y k c i s v k' c' i' s' = y k' c' i' s' := by rw [up4_at, if_neg h]
theorem up4_eq {y : Mem} {k c i s : Nat} {v : Int32} : up4 y k c i s v k c i s = v := by rw [up4_at, if_pos ⟨rfl, rfl, rfl, rfl⟩]
theorem up4_up {y : Mem} {k c i s : Nat} {v w : Int32} : up4 (up4 y k c i s v) k c i s w = up4 y k c i s w := by
  funext k' c' i' s'
  rw [up4_at, up4_at, up4_at]
  by_cases h : k' = k ∧ c' = c ∧ i' = i ∧ s' = s
  · rw [if_pos h, if_pos h]
  · rw [if_neg h, if_neg h, if_neg h]
theorem up4_self {y : Mem} {k c i s : Nat} : up4 y k c i s (y k c i s) = y := by
  funext k' c' i' s'
  rw [up4_at]
  by_cases h : k' = k ∧ c' = c ∧ i' = i ∧ s' = s
  · rw [if_pos h]
    obtain ⟨rfl, rfl, rfl, rfl⟩ := h
    rfl
  · rw [if_neg h]
theorem up4_comm {y : Mem} {k c i s k1 c1 i1 s1 : Nat} {v w : Int32} (h : ¬ (k1 = k ∧ s1 = s)) : up4 (up4 y k c i s v) k1 c1 i1 s1 w = up4 (up4 y k1 c1 i1 s1 w) k c i s v := by
  funext k' c' i' s'
  rw [up4_at, up4_at, up4_at, up4_at]
  by_cases h1 : k' = k1 ∧ c' = c1 ∧ i' = i1 ∧ s' = s1
  · rw [if_pos h1, if_neg (fun q => h ⟨h1.1.symm.trans q.1, h1.2.2.2.symm.trans q.2.2.2⟩), if_pos h1]
  · rw [if_neg h1]
    by_cases h2 : k' = k ∧ c' = c ∧ i' = i ∧ s' = s
    · rw [if_pos h2, if_pos h2]
    · rw [if_neg h2, if_neg h2, if_neg h1]
theorem blk_0 {y : Mem} {k lo : Nat} {f : Nat → Int32} : blk y k lo 0 f = y := by
  funext k' c i s
  unfold blk
  rw [if_neg (by omega)]
theorem blk_in {y : Mem} {k lo n s : Nat} {f : Nat → Int32} (h1 : lo ≤ s) (h2 : s < lo + n) : blk y k lo n f k 0 0 s = f (s - lo) := by
  unfold blk
  rw [if_pos ⟨rfl, rfl, rfl, h1, h2⟩]
theorem blk_out {y : Mem} {k lo n k' c i s : Nat} {f : Nat → Int32} (h : ¬ (k' = k ∧ c = 0 ∧ i = 0 ∧ lo ≤ s ∧ s < lo + n)) : blk y k lo n f k' c i s = y k' c i s := by
  unfold blk
  rw [if_neg h]
theorem blk_app {y : Mem} {k lo m n : Nat} {f g : Nat → Int32} (h : ∀ s, s < n → g s = f (m + s)) : blk (blk y k lo m f) k (lo + m) n g = blk y k lo (m + n) f := by
  funext k' c i s
  by_cases h1 : k' = k ∧ c = 0 ∧ i = 0
  · obtain ⟨rfl, rfl, rfl⟩ := h1
    by_cases a : s < lo
    · rw [blk_out (by omega), blk_out (by omega), blk_out (by omega)]
    by_cases b : s < lo + m
    · rw [blk_out (by omega), blk_in (by omega) b, blk_in (by omega) (by omega)]
    by_cases c : s < lo + m + n
    · rw [blk_in (by omega) c, blk_in (by omega) (by omega), h _ (by omega)]
      congr 1
      omega
    · rw [blk_out (by omega), blk_out (by omega), blk_out (by omega)]
  · rw [blk_out (fun q => h1 ⟨q.1, q.2.1, q.2.2.1⟩), blk_out (fun q => h1 ⟨q.1, q.2.1, q.2.2.1⟩), blk_out (fun q => h1 ⟨q.1, q.2.1, q.2.2.1⟩)]
theorem blk_1 {y : Mem} {k lo : Nat} {f : Nat → Int32} : blk y k lo 1 f = up4 y k 0 0 lo (f 0) := by
  funext k' c i s
  rw [up4_at]
  by_cases h : k' = k ∧ c = 0 ∧ i = 0 ∧ s = lo
  · obtain ⟨rfl, rfl, rfl, rfl⟩ := h
    rw [blk_in (Nat.le_refl _) (by omega), if_pos ⟨rfl, rfl, rfl, rfl⟩, Nat.sub_self]
  · rw [blk_out (fun q => h ⟨q.1, q.2.1, q.2.2.1, by omega⟩), if_neg h]
theorem blk_succ {y : Mem} {k lo n : Nat} {f : Nat → Int32} : up4 (blk y k lo n f) k 0 0 (lo + n) (f n) = blk y k lo (n + 1) f := by
  rw [← blk_app (m := n) (n := 1) (g := fun s => f (n + s)) (fun s _ => rfl), blk_1]
  rfl
theorem blk_up {y : Mem} {k lo n k1 c1 i1 s1 : Nat} {f : Nat → Int32} {v : Int32} (h : k1 ≠ k) : blk (up4 y k1 c1 i1 s1 v) k lo n f = up4 (blk y k lo n f) k1 c1 i1 s1 v := by
  funext k' c i s
  rw [up4_at]
  by_cases a : k' = k ∧ c = 0 ∧ i = 0 ∧ lo ≤ s ∧ s < lo + n
  · rw [if_neg (fun q => h (q.1.symm.trans a.1))]
    obtain ⟨rfl, rfl, rfl, a1, a2⟩ := a
    rw [blk_in a1 a2, blk_in a1 a2]
  · rw [blk_out a, blk_out a, up4_at]
theorem n1 {a : Nat} : Int32.ofNat a + 1 = Int32.ofNat (a + 1) := by rw [Int32.ofNat_add]; rfl
theorem kp_loop {k n K N C : Nat} (hkK : k ≠ K) (hk : k ≠ 40) (hK : K ≠ 40) {y : Mem} (hC : C + n ≤ N) (hN : N < 2 ^ 31) (hn : n < 2 ^ 31) (h62 : y 40 0 0 62 = 1) : ∀ (m t : Nat), t ≤ n → n < t + m → m_X12_passes_l2 (k, 0, 0) n (K, 0, 0) N m (Int32.ofNat t) (up4 (blk y K C t (y k 0 0)) 40 0 0 60 (Int32.ofNat (C + t))) = some (up4 (blk y K C n (y k 0 0)) 40 0 0 60 (Int32.ofNat (C + n))) := by
  intro m
  induction m with
  | zero => intro t h1 h2; omega
  | succ m ih =>
    intro t h1 h2
    show m_X12_passes_b2 (k, 0, 0) n (K, 0, 0) N (m_X12_passes_l2 (k, 0, 0) n (K, 0, 0) N m) (Int32.ofNat t) _ = _
    unfold m_X12_passes_b2
    by_cases ht : t = n
    · subst ht
      rw [if_pos ((le_n hn hn).mpr (Nat.le_refl _))]
    have htn : t < n := by omega
    rw [if_neg (fun q => ht (Nat.le_antisymm h1 ((le_n hn (by omega)).mp q)))]
    have e62 : up4 (blk y K C t (y k 0 0)) 40 0 0 60 (Int32.ofNat (C + t)) 40 0 0 62 = 1 := by rw [up4_ne (by decide), blk_out (fun q => hK q.1.symm), h62]
    have e60 : up4 (blk y K C t (y k 0 0)) 40 0 0 60 (Int32.ofNat (C + t)) 40 0 0 60 = Int32.ofNat (C + t) := up4_eq
    have ek : up4 (blk y K C t (y k 0 0)) 40 0 0 60 (Int32.ofNat (C + t)) k 0 0 t = y k 0 0 t := by rw [up4_ne (fun q => hk q.1), blk_out (fun q => hkK q.1)]
    rw [if_neg (by rw [e62]; decide), e60, gd_n htn hn, gd_n (show C + t < N by omega) hN]
    show m_X12_passes_j36 (k, 0, 0) n (K, 0, 0) N (m_X12_passes_l2 (k, 0, 0) n (K, 0, 0) N m) (Int32.ofNat t) (up4 _ K 0 0 (Int32.ofNat (C + t)).toNatClampNeg (up4 (blk y K C t (y k 0 0)) 40 0 0 60 (Int32.ofNat (C + t)) k 0 0 (Int32.ofNat t).toNatClampNeg)) = _
    rw [tn (show C + t < 2 ^ 31 by omega), tn (show t < 2 ^ 31 by omega), ek, up4_comm (fun q => hK q.1), blk_succ]
    show m_X12_passes_l2 (k, 0, 0) n (K, 0, 0) N m (Int32.ofNat t + 1) (up4 (up4 (blk y K C (t + 1) (y k 0 0)) 40 0 0 60 (Int32.ofNat (C + t))) 40 0 0 60 (up4 (blk y K C (t + 1) (y k 0 0)) 40 0 0 60 (Int32.ofNat (C + t)) 40 0 0 60 + 1)) = _
    rw [up4_up, up4_eq, n1, n1]
    exact ih (t + 1) (by omega) (by omega)
theorem kp_ {k n K N C : Nat} (hkK : k ≠ K) (hk : k ≠ 40) (hK : K ≠ 40) {y : Mem} (hC : C + n ≤ N) (hN : N < 2 ^ 31) (hn : n < 4000) (h60 : y 40 0 0 60 = Int32.ofNat C) (h62 : y 40 0 0 62 = 1) : m_X12_passes (k, 0, 0) n (K, 0, 0) N y = some (up4 (blk y K C n (y k 0 0)) 40 0 0 60 (Int32.ofNat (C + n))) := by
  have h := kp_loop hkK hk hK (y := y) hC hN (by omega) h62 FU 0 (Nat.zero_le _) (by unfold FU; omega)
  rw [blk_0, Nat.add_zero, ← h60, up4_self] at h
  exact h
theorem tp_loop {k n K N C : Nat} (hkK : k ≠ K) (hk : k ≠ 40) (hK : K ≠ 40) {y : Mem} (hC : C + n ≤ N) (hN : N < 2 ^ 31) (hn : n < 2 ^ 31) (h62 : y 40 0 0 62 = 0) : ∀ (m t : Nat), t ≤ n → n < t + m → m_X12_passes_l2 (k, 0, 0) n (K, 0, 0) N m (Int32.ofNat t) (up4 (blk y k 0 t (fun s => y K 0 0 (C + s))) 40 0 0 60 (Int32.ofNat (C + t))) = some (up4 (blk y k 0 n (fun s => y K 0 0 (C + s))) 40 0 0 60 (Int32.ofNat (C + n))) := by
  intro m
  induction m with
  | zero => intro t h1 h2; omega
  | succ m ih =>
    intro t h1 h2
    show m_X12_passes_b2 (k, 0, 0) n (K, 0, 0) N (m_X12_passes_l2 (k, 0, 0) n (K, 0, 0) N m) (Int32.ofNat t) _ = _
    unfold m_X12_passes_b2
    by_cases ht : t = n
    · subst ht
      rw [if_pos ((le_n hn hn).mpr (Nat.le_refl _))]
    have htn : t < n := by omega
    rw [if_neg (fun q => ht (Nat.le_antisymm h1 ((le_n hn (by omega)).mp q)))]
    generalize hf : (fun s => y K 0 0 (C + s)) = f at ih ⊢
    have e62 : up4 (blk y k 0 t f) 40 0 0 60 (Int32.ofNat (C + t)) 40 0 0 62 = 0 := by rw [up4_ne (by decide), blk_out (fun q => hk q.1.symm), h62]
    have e60 : up4 (blk y k 0 t f) 40 0 0 60 (Int32.ofNat (C + t)) 40 0 0 60 = Int32.ofNat (C + t) := up4_eq
    have ek : up4 (blk y k 0 t f) 40 0 0 60 (Int32.ofNat (C + t)) K 0 0 (C + t) = f t := by rw [up4_ne (fun q => hK q.1), blk_out (fun q => hkK q.1.symm), ← hf]
    rw [if_pos e62, e60, gd_n htn hn, gd_n (show C + t < N by omega) hN]
    show m_X12_passes_j36 (k, 0, 0) n (K, 0, 0) N (m_X12_passes_l2 (k, 0, 0) n (K, 0, 0) N m) (Int32.ofNat t) (up4 _ k 0 0 (Int32.ofNat t).toNatClampNeg (up4 (blk y k 0 t f) 40 0 0 60 (Int32.ofNat (C + t)) K 0 0 (Int32.ofNat (C + t)).toNatClampNeg)) = _
    rw [tn (show C + t < 2 ^ 31 by omega), tn (show t < 2 ^ 31 by omega), ek, up4_comm (fun q => hk q.1)]
    have hb := blk_succ (y := y) (k := k) (lo := 0) (n := t) (f := f)
    rw [Nat.zero_add] at hb
    rw [hb]
    show m_X12_passes_l2 (k, 0, 0) n (K, 0, 0) N m (Int32.ofNat t + 1) (up4 (up4 (blk y k 0 (t + 1) f) 40 0 0 60 (Int32.ofNat (C + t))) 40 0 0 60 (up4 (blk y k 0 (t + 1) f) 40 0 0 60 (Int32.ofNat (C + t)) 40 0 0 60 + 1)) = _
    rw [up4_up, up4_eq, n1, n1]
    exact ih (t + 1) (by omega) (by omega)
theorem tp_ {k n K N C : Nat} (hkK : k ≠ K) (hk : k ≠ 40) (hK : K ≠ 40) {y : Mem} (hC : C + n ≤ N) (hN : N < 2 ^ 31) (hn : n < 4000) (h60 : y 40 0 0 60 = Int32.ofNat C) (h62 : y 40 0 0 62 = 0) : m_X12_passes (k, 0, 0) n (K, 0, 0) N y = some (up4 (blk y k 0 n (fun s => y K 0 0 (C + s))) 40 0 0 60 (Int32.ofNat (C + n))) := by
  have h := tp_loop hkK hk hK (y := y) hC hN (by omega) h62 FU 0 (Nat.zero_le _) (by unfold FU; omega)
  rw [blk_0, Nat.add_zero, ← h60, up4_self] at h
  exact h
/-! all parts, one behind the other -/
def kO (j : Nat) : Nat × Nat :=
  if j < 8 then (101, j) else if j < 16 then (102, j - 8) else if j < 22 then (103 + (j - 16) / 3, (j - 16) % 3) else if j < 34 then (105, j - 22) else if j < 46 then (106 + (j - 34) / 3, (j - 34) % 3) else if j < 49 then (110, j - 46) else if j < 52 then (111, j - 49) else if j < 142 then (112, j - 52) else if j < 169 then (113 + (j - 142) / 3, (j - 142) % 3) else if j < 469 then (122 + (j - 169) / 30, (j - 169) % 30) else if j < 565 then (132, j - 469) else (40, j - 532)
def lin (y : Mem) (j : Nat) : Int32 := y (kO j).1 0 0 (kO j).2
def ZK (y : Mem) (K W L : Nat) : Mem := up4 (blk (up4 y 40 0 0 62 1) K W L (lin y)) 40 0 0 60 (Int32.ofNat (W + L))
theorem ZK_step {y : Mem} {K W L k n N : Nat} (hkK : k ≠ K) (hk : k ≠ 40) (hK : K ≠ 40) (hN : N < 2 ^ 31) (hC : W + L + n ≤ N) (hn : n < 4000) (hl : ∀ s, s < n → kO (L + s) = (k, s)) : m_X12_passes (k, 0, 0) n (K, 0, 0) N (ZK y K W L) = some (ZK y K W (L + n)) := by
  have e60 : ZK y K W L 40 0 0 60 = Int32.ofNat (W + L) := up4_eq
  have e62 : ZK y K W L 40 0 0 62 = 1 := by unfold ZK; rw [up4_ne (by decide), blk_out (fun q => hK q.1.symm), up4_eq]
  rw [kp_ hkK hk hK hC hN hn e60 e62]
  have ek : ZK y K W L k 0 0 = y k 0 0 := by
    funext s
    unfold ZK
    rw [up4_ne (fun q => hk q.1), blk_out (fun q => hkK q.1), up4_ne (fun q => hk q.1)]
  rw [ek]
  unfold ZK
  rw [blk_up (Ne.symm hK), up4_up, blk_app (f := lin y) (fun s hs => by unfold lin; rw [hl s hs]), Nat.add_assoc]
theorem ZK_one {y : Mem} {K W L sl N : Nat} (hK : K ≠ 40) (hN : N < 2 ^ 31) (hC : W + L + 1 ≤ N) (hs : sl ≠ 60 ∧ sl ≠ 62) (hl : kO L = (40, sl)) {β : Type} (f : Mem → Option β) : (bd2_ (m_X12_pass (ZK y K W L 40 0 0 sl) (K, 0, 0) N (ZK y K W L)) fun r z => lt_ (up4 z 40 0 0 sl r) fun z1 => f z1) = f (ZK y K W (L + 1)) := by
  have e60 : ZK y K W L 40 0 0 60 = Int32.ofNat (W + L) := up4_eq
  have e62 : ZK y K W L 40 0 0 62 = 1 := by unfold ZK; rw [up4_ne (by decide), blk_out (fun q => hK q.1.symm), up4_eq]
  have es : ZK y K W L 40 0 0 sl = y 40 0 0 sl := by unfold ZK; rw [up4_ne (fun q => hs.1 q.2.2.2), blk_out (fun q => hK q.1.symm), up4_ne (fun q => hs.2 q.2.2.2)]
  unfold m_X12_pass
  rw [if_neg (by rw [e62]; decide)]
  unfold m_X12_pass_j17
  rw [e_lt, e60, gd_n (show W + L < N by omega) hN, e_lt, e_lt, e_bd2, e_lt, tn (show W + L < 2 ^ 31 by omega)]
  congr 1
  show up4 (up4 (up4 (ZK y K W L) K 0 0 (W + L) _) 40 0 0 60 (up4 (ZK y K W L) K 0 0 (W + L) _ 40 0 0 60 + 1)) 40 0 0 sl _ = _
  rw [up4_ne (fun q => hK q.1.symm), e60, n1, es]
  have e1 : ∀ (w : Int32) (z : Mem), z 40 0 0 sl = w → up4 z 40 0 0 sl w = z := fun w z h => by rw [← h, up4_self]
  rw [e1]
  · unfold ZK
    rw [up4_comm (y := blk _ K W L _) (fun q => hK q.1), up4_up]
    have hb := blk_succ (y := up4 y 40 0 0 62 1) (k := K) (lo := W) (n := L) (f := lin y)
    rw [show lin y L = y 40 0 0 sl by unfold lin; rw [hl]] at hb
    rw [hb, Nat.add_assoc]
  · rw [up4_ne (fun q => hs.1 q.2.2.2), up4_ne (fun q => hK q.1.symm), es]
theorem ZK_arms {y : Mem} {K W N : Nat} (hK2 : 155 ≤ K) (hN : N < 2 ^ 31) (hW : W + 573 ≤ N) : m_X12_passArms (K, 0, 0) N (ZK y K W 46) = some (ZK y K W 169) := by
  have hK : K ≠ 40 := by omega
  unfold m_X12_passArms
  rw [ZK_step (k := 110) (n := 3) (L := 46) (by omega) (by decide) hK hN (by omega) (by decide) (by decide), e_bd]
  rw [ZK_step (k := 111) (n := 3) (L := 49) (by omega) (by decide) hK hN (by omega) (by decide) (by decide), e_bd]
  rw [ZK_step (k := 112) (n := 90) (L := 52) (by omega) (by decide) hK hN (by omega) (by decide) (by decide), e_bd]
  rw [ZK_step (k := 113) (n := 3) (L := 142) (by omega) (by decide) hK hN (by omega) (by decide) (by decide), e_bd]
  rw [ZK_step (k := 114) (n := 3) (L := 145) (by omega) (by decide) hK hN (by omega) (by decide) (by decide), e_bd]
  rw [ZK_step (k := 115) (n := 3) (L := 148) (by omega) (by decide) hK hN (by omega) (by decide) (by decide), e_bd]
  rw [ZK_step (k := 116) (n := 3) (L := 151) (by omega) (by decide) hK hN (by omega) (by decide) (by decide), e_bd]
  rw [ZK_step (k := 117) (n := 3) (L := 154) (by omega) (by decide) hK hN (by omega) (by decide) (by decide), e_bd]
  rw [ZK_step (k := 118) (n := 3) (L := 157) (by omega) (by decide) hK hN (by omega) (by decide) (by decide), e_bd]
  rw [ZK_step (k := 119) (n := 3) (L := 160) (by omega) (by decide) hK hN (by omega) (by decide) (by decide), e_bd]
  rw [ZK_step (k := 120) (n := 3) (L := 163) (by omega) (by decide) hK hN (by omega) (by decide) (by decide), e_bd]
  rw [ZK_step (k := 121) (n := 3) (L := 166) (by omega) (by decide) hK hN (by omega) (by decide) (by decide), e_bd]
theorem ZK_jobs {y : Mem} {K W N : Nat} (hK2 : 155 ≤ K) (hN : N < 2 ^ 31) (hW : W + 573 ≤ N) : m_X12_passJobs (K, 0, 0) N (ZK y K W 169) = some (ZK y K W 469) := by
  have hK : K ≠ 40 := by omega
  unfold m_X12_passJobs
  rw [ZK_step (k := 122) (n := 30) (L := 169) (by omega) (by decide) hK hN (by omega) (by decide) (by decide), e_bd]
  rw [ZK_step (k := 123) (n := 30) (L := 199) (by omega) (by decide) hK hN (by omega) (by decide) (by decide), e_bd]
  rw [ZK_step (k := 124) (n := 30) (L := 229) (by omega) (by decide) hK hN (by omega) (by decide) (by decide), e_bd]
  rw [ZK_step (k := 125) (n := 30) (L := 259) (by omega) (by decide) hK hN (by omega) (by decide) (by decide), e_bd]
  rw [ZK_step (k := 126) (n := 30) (L := 289) (by omega) (by decide) hK hN (by omega) (by decide) (by decide), e_bd]
  rw [ZK_step (k := 127) (n := 30) (L := 319) (by omega) (by decide) hK hN (by omega) (by decide) (by decide), e_bd]
  rw [ZK_step (k := 128) (n := 30) (L := 349) (by omega) (by decide) hK hN (by omega) (by decide) (by decide), e_bd]
  rw [ZK_step (k := 129) (n := 30) (L := 379) (by omega) (by decide) hK hN (by omega) (by decide) (by decide), e_bd]
  rw [ZK_step (k := 130) (n := 30) (L := 409) (by omega) (by decide) hK hN (by omega) (by decide) (by decide), e_bd]
  rw [ZK_step (k := 131) (n := 30) (L := 439) (by omega) (by decide) hK hN (by omega) (by decide) (by decide), e_bd]
theorem keep_all {y : Mem} {K W N : Nat} (hK2 : 155 ≤ K) (hN : N < 2 ^ 31) (hW : W + 573 ≤ N) : m_X12_passAll (K, 0, 0) N (Int32.ofNat W) 1 y = some (ZK y K W 573) := by
  have hK : K ≠ 40 := by omega
  unfold m_X12_passAll
  rw [e_gb1, e_lt, e_lt]
  have e0 : up4 (up4 y 40 0 0 62 1) 40 0 0 60 (Int32.ofNat W) = ZK y K W 0 := by unfold ZK; rw [blk_0]; rfl
  rw [e0]
  rw [ZK_step (k := 101) (n := 8) (L := 0) (by omega) (by decide) hK hN (by omega) (by decide) (by decide), e_bd]
  rw [ZK_step (k := 102) (n := 8) (L := 8) (by omega) (by decide) hK hN (by omega) (by decide) (by decide), e_bd]
  rw [ZK_step (k := 103) (n := 3) (L := 16) (by omega) (by decide) hK hN (by omega) (by decide) (by decide), e_bd]
  rw [ZK_step (k := 104) (n := 3) (L := 19) (by omega) (by decide) hK hN (by omega) (by decide) (by decide), e_bd]
  rw [ZK_step (k := 105) (n := 12) (L := 22) (by omega) (by decide) hK hN (by omega) (by decide) (by decide), e_bd]
  rw [ZK_step (k := 106) (n := 3) (L := 34) (by omega) (by decide) hK hN (by omega) (by decide) (by decide), e_bd]
  rw [ZK_step (k := 107) (n := 3) (L := 37) (by omega) (by decide) hK hN (by omega) (by decide) (by decide), e_bd]
  rw [ZK_step (k := 108) (n := 3) (L := 40) (by omega) (by decide) hK hN (by omega) (by decide) (by decide), e_bd]
  rw [ZK_step (k := 109) (n := 3) (L := 43) (by omega) (by decide) hK hN (by omega) (by decide) (by decide), e_bd]
  rw [ZK_arms hK2 hN hW, e_bd, ZK_jobs hK2 hN hW, e_bd]
  rw [ZK_step (k := 132) (n := 96) (L := 469) (by omega) (by decide) hK hN (by omega) (by decide) (by decide), e_bd]
  rw [ZK_one (sl := 33) (L := 565) hK hN (by omega) (by decide) (by decide)]
  rw [ZK_one (sl := 34) (L := 566) hK hN (by omega) (by decide) (by decide)]
  rw [ZK_one (sl := 35) (L := 567) hK hN (by omega) (by decide) (by decide)]
  rw [ZK_one (sl := 36) (L := 568) hK hN (by omega) (by decide) (by decide)]
  rw [ZK_one (sl := 37) (L := 569) hK hN (by omega) (by decide) (by decide)]
  rw [ZK_one (sl := 38) (L := 570) hK hN (by omega) (by decide) (by decide)]
  rw [ZK_one (sl := 39) (L := 571) hK hN (by omega) (by decide) (by decide)]
  rw [ZK_one (sl := 40) (L := 572) hK hN (by omega) (by decide) (by decide)]
