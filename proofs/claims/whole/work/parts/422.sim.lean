/-! THE CLASS'S JUDGE: what it looks at -/
def CW (A : St) (j q : Nat) (v : Int32) : Prop := ∀ X : Int32, v &&& X = 0 ↔ ∀ k, q < k → k < (A 124 j).toNatClampNeg → con A (znA A j k) &&& X = 0
def lh (A : St) (a : Nat) : Nat := if A 114 a = 2 then apos A a + 1 else apos A a
theorem zb_loop {x : Mem} {c : Fin 10} {j : Fin 31} {p n q : Nat} (hp : PathOk p n) : ∀ (m e : Nat) (s : Int32), q ≤ e → e < q + m → e < n → (∀ z, z < 32 → (tb s z = true ↔ ∃ k, e < k ∧ k < n ∧ dgt p n k = z)) → ∃ s', m_X5_zonesBehind_l15 (c, j) (Int32.ofNat q) m (Int32.ofNat (p / 10 ^ (n - 1 - e))) s (Int32.ofNat e) x = some s' ∧ ∀ z, z < 32 → (tb s' z = true ↔ ∃ k, q < k ∧ k < n ∧ dgt p n k = z) := by
  intro m
  have h5 := hp.2.1
  have h1e5 := path_lt hp
  induction m with
  | zero => intro e s h1 h2; omega
  | succ m ih =>
    intro e s h1 h2 h3 hs
    show ∃ s', m_X5_zonesBehind_b15 (c, j) (Int32.ofNat q) (m_X5_zonesBehind_l15 (c, j) (Int32.ofNat q) m) _ s (Int32.ofNat e) x = some s' ∧ _
    unfold m_X5_zonesBehind_b15
    by_cases he : e = q
    · subst he
      rw [if_pos ((le_n (by omega) (by omega)).mpr (Nat.le_refl _))]
      exact ⟨s, rfl, hs⟩
    obtain ⟨c', rfl⟩ : ∃ c', e = c' + 1 := ⟨e - 1, by omega⟩
    have hle : p / 10 ^ (n - 1 - (c' + 1)) ≤ p := Nat.div_le_self _ _
    rw [if_neg (le_f (by omega) (by omega) (by omega)), if_neg (gt0 (by omega)), e_lt, e_lt, e_lt, show (10 : Int32) = Int32.ofNat 10 from rfl, rem_n (by omega) (by decide), (dgt_ok hp h3).2, div_n (by omega) (by decide), d1, one_bit, Nat.div_div_eq_div_mul, ← Nat.pow_succ, show (n - 1 - (c' + 1)).succ = n - 1 - c' by omega]
    refine ih c' _ (by omega) (by omega) (by omega) (fun z hz => ?_)
    have hd := (dgt_ok hp h3).1
    rw [tb_or, tb_bit (by omega) hz, Bool.or_eq_true, hs z hz, decide_eq_true_eq]
    constructor
    · rintro (⟨k, q1, q2⟩ | q1)
      · exact ⟨k, by omega, q2⟩
      · exact ⟨c' + 1, by omega, h3, q1.symm⟩
    · rintro ⟨k, q1, q2, q3⟩
      by_cases e : k = c' + 1
      · subst e
        exact Or.inr q3.symm
      · exact Or.inl ⟨k, by omega, q2, q3⟩
theorem zb_x {x : Mem} {c : Fin 10} {j : Fin 31} {p n q : Nat} (e1 : x 12 c j 1 = Int32.ofNat p) (e2 : x 12 c j 2 = Int32.ofNat n) (hp : PathOk p n) (hq : q < n) : ∃ s', m_X5_zonesBehind (c, j) (Int32.ofNat q) x = some s' ∧ ∀ z, z < 32 → (tb s' z = true ↔ ∃ k, q < k ∧ k < n ∧ dgt p n k = z) := by
  have h5 := hp.2.1
  unfold m_X5_zonesBehind
  obtain ⟨n', rfl⟩ : ∃ n', n = n' + 1 := ⟨n - 1, by omega⟩
  rw [e_lt, e_lt, e_lt, show x 12 ↑((c, j) : Fin 10 × Fin 31).1 ↑((c, j) : Fin 10 × Fin 31).2 1 = Int32.ofNat p from e1, show x 12 ↑((c, j) : Fin 10 × Fin 31).1 ↑((c, j) : Fin 10 × Fin 31).2 2 = Int32.ofNat (n' + 1) from e2, s1]
  have h := zb_loop (x := x) (c := c) (j := j) (q := q) hp FU n' 0 (by omega) (by unfold FU; omega) (by omega) (fun z hz => ⟨fun w => by rw [tb_0] at w; exact absurd w (by decide), fun ⟨k, w, _⟩ => by omega⟩)
  rw [show n' + 1 - 1 - n' = 0 by omega, Nat.pow_zero, Nat.div_one] at h
  exact h
theorem cs_loop {x : Mem} {c : Fin 10} {A : St} {s : Int32} (h4 : ∀ z, z < 8 → x 4 c 0 z = con A z) : ∀ (m t : Nat) (u : Int32), t ≤ 8 → 8 < t + m → (∀ w, w < 32 → (tb u w = true ↔ ∃ z, z < t ∧ tb s z = true ∧ tb (con A z) w = true)) → ∃ u', m_X10_conflictsOfSet_l4 c s m u (Int32.ofNat t) x = some u' ∧ ∀ w, w < 32 → (tb u' w = true ↔ ∃ z, z < 8 ∧ tb s z = true ∧ tb (con A z) w = true) := by
  intro m
  induction m with
  | zero => intro t u h1 h2; omega
  | succ m ih =>
    intro t u h1 h2 hu
    show ∃ u', m_X10_conflictsOfSet_b4 c s (m_X10_conflictsOfSet_l4 c s m) u (Int32.ofNat t) x = some u' ∧ _
    unfold m_X10_conflictsOfSet_b4 m_X10_conflictsOfSet_j30
    by_cases ht : t = 8
    · subst ht
      rw [if_pos (by decide)]
      exact ⟨u, rfl, hu⟩
    have h8 : t < 8 := by omega
    rw [if_neg (show ¬ (8 : Int32) ≤ Int32.ofNat t from le_f (a := 8) (by decide) (by omega) h8), one_bit, gd_n h8 (by decide), tn (show t < 2 ^ 31 by omega), h4 t h8]
    by_cases hs : s &&& bit t = 0
    · rw [if_pos hs, e_lt, n1]
      refine ih (t + 1) u (by omega) (by omega) (fun w hw => ?_)
      rw [hu w hw]
      constructor
      · rintro ⟨z, q1, q2⟩
        exact ⟨z, by omega, q2⟩
      · rintro ⟨z, q1, q2, q3⟩
        by_cases e : z = t
        · subst e
          rw [(and_bit (by omega)).mp hs] at q2
          exact absurd q2 (by decide)
        · exact ⟨z, by omega, q2, q3⟩
    · rw [if_neg hs, e_lt, e_lt, n1]
      refine ih (t + 1) _ (by omega) (by omega) (fun w hw => ?_)
      have hst : tb s t = true := by
        cases q : tb s t with
        | true => rfl
        | false => exact absurd ((and_bit (by omega)).mpr q) hs
      rw [tb_or, Bool.or_eq_true, hu w hw]
      constructor
      · rintro (⟨z, q1, q2⟩ | q)
        · exact ⟨z, by omega, q2⟩
        · exact ⟨t, by omega, hst, q⟩
      · rintro ⟨z, q1, q2, q3⟩
        by_cases e : z = t
        · subst e
          exact Or.inr q3
        · exact Or.inl ⟨z, by omega, q2, q3⟩
theorem cw_x {x : Mem} {c : Fin 10} {A : St} {j p n q : Nat} (hj : j < 30) (h4 : ∀ z, z < 8 → x 4 c 0 z = con A z) (e1 : x 12 c j 1 = Int32.ofNat p) (e2 : x 12 c j 2 = Int32.ofNat n) (hp : PathOk p n) (hq : q < n) (a1 : A 123 j = Int32.ofNat p) (a2 : A 124 j = Int32.ofNat n) : ∃ s' u', m_X5_zonesBehind (c, Fin.ofNat 31 j) (Int32.ofNat q) x = some s' ∧ m_X10_conflictsOfSet c s' x = some u' ∧ CW A j q u' := by
  have h5 := hp.2.1
  have hpl := path_lt hp
  obtain ⟨s', es, hs⟩ := zb_x (x := x) (c := c) (j := Fin.ofNat 31 j) (q := q) (by rw [f31 hj]; exact e1) (by rw [f31 hj]; exact e2) hp hq
  obtain ⟨u', eu, hu⟩ := cs_loop (x := x) (c := c) (A := A) (s := s') h4 FU 0 0 (Nat.zero_le _) (by unfold FU; omega) (fun w hw => ⟨fun r => by rw [tb_0] at r; exact absurd r (by decide), fun ⟨z, r, _⟩ => by omega⟩)
  refine ⟨s', u', es, ?_, fun X => ?_⟩
  · unfold m_X10_conflictsOfSet
    rw [e_lt, e_lt, z0]
    exact eu
  rw [a2, tn (show n < 2 ^ 31 by omega), and0_iff]
  constructor
  · intro h k k1 k2
    rw [and0_iff]
    intro w hw hc
    have hd := (dgt_ok hp k2).1
    have ez : znA A j k = dgt p n k := by
      unfold znA
      rw [a1, a2, tn (show n < 2 ^ 31 by omega), tn (show p < 2 ^ 31 by omega)]
    rw [ez] at hc
    exact h w hw ((hu w hw).mpr ⟨dgt p n k, by omega, (hs _ (by omega)).mpr ⟨k, k1, k2, rfl⟩, hc⟩)
  · intro h w hw hc
    obtain ⟨z, z1, z2, z3⟩ := (hu w hw).mp hc
    obtain ⟨k, k1, k2, k3⟩ := (hs z (by omega)).mp z2
    have ez : znA A j k = z := by
      unfold znA
      rw [a1, a2, tn (show n < 2 ^ 31 by omega), tn (show p < 2 ^ 31 by omega), k3]
    have := h k k1 k2
    rw [ez, and0_iff] at this
    exact this w hw z3
/-- what the state says of an arm that isn't idle -/
theorem InvW.act {A : St} (hI : InvW A) {a : Nat} (ha : a < 3) (h0 : A 114 a ≠ 0) : ∃ j q p n : Nat, j < 30 ∧ j < (A 40 34).toNatClampNeg ∧ A 113 a = Int32.ofNat j ∧ A 115 a = Int32.ofNat q ∧ A 123 j = Int32.ofNat p ∧ A 124 j = Int32.ofNat n ∧ PathOk p n ∧ q < n ∧ (A 114 a = 1 ∨ (A 114 a = 2 ∧ q + 1 < n) ∨ (A 114 a = 3 ∧ q + 1 < n)) := by
  obtain ⟨J, hJ, eJ, hj, hA, -⟩ := hI
  rcases (hA a ha).1 with ⟨h, -⟩ | h
  · exact absurd h h0
  · obtain ⟨j, q, p, n, h1, h2, h3, h4, h5, h6, h7, h8⟩ := h.path hj
    exact ⟨j, q, p, n, by omega, by rw [eJ, tn (by omega)]; exact h1, h2, h3, h4, h5, h6, h7, h8⟩
theorem Inv.act {A : St} (hI : Inv A) {a : Nat} (ha : a < 3) (h0 : A 114 a ≠ 0) : ∃ j q p n : Nat, j < 30 ∧ j < (A 40 34).toNatClampNeg ∧ A 113 a = Int32.ofNat j ∧ A 115 a = Int32.ofNat q ∧ A 123 j = Int32.ofNat p ∧ A 124 j = Int32.ofNat n ∧ PathOk p n ∧ q < n ∧ (A 114 a = 1 ∨ (A 114 a = 2 ∧ q + 1 < n) ∨ (A 114 a = 3 ∧ q + 1 < n)) := hI.w.act ha h0
theorem Rep.con {x : Mem} {c N : Nat} {A : St} (h : Rep x c A N) : ∀ z, z < 8 → x 4 c 0 z = con A z := fun z hz => (h.2.1.2 z hz).1
def LK (x' : Mem) (A : St) (t : Nat) : Prop := (∀ w, w < 32 → (tb (x' 19 0 0 1) w = true ↔ w < t ∧ A 114 w ≠ 0)) ∧ (∀ a, a < t → x' 20 0 0 a = hold A a) ∧ ∀ a, a < t → A 114 a ≠ 0 → CW A (ajob A a) (lh A a) (x' 21 0 0 a)
theorem la_loop {x0 : Mem} {c : Fin 10} {A : St} {N : Nat} (hR : Rep x0 c A N) (hI : InvW A) : ∀ (m t : Nat) (x : Mem), t ≤ 3 → 3 < t + m → (∀ k b i s, ¬ (19 ≤ k ∧ k ≤ 21) → x k b i s = x0 k b i s) → LK x A t → ∃ x', m_X6_lookAt_l7 c m (Int32.ofNat t) x = some x' ∧ (∀ k b i s, ¬ (19 ≤ k ∧ k ≤ 21) → x' k b i s = x0 k b i s) ∧ LK x' A 3 := by
  intro m
  induction m with
  | zero => intro t x h1 h2; omega
  | succ m ih =>
    intro t x h1 h2 ho hL
    show ∃ x', m_X6_lookAt_b7 c (m_X6_lookAt_l7 c m) (Int32.ofNat t) x = some x' ∧ _
    unfold m_X6_lookAt_b7 m_X6_lookAt_j95
    by_cases ht : t = 3
    · subst ht
      rw [if_pos (by decide)]
      exact ⟨x, rfl, ho, hL⟩
    have h3 : t < 3 := by omega
    obtain ⟨l1, l2, l3⟩ := hL
    obtain ⟨g1, g2, g3, g4, g5, g6, -⟩ := hR.2.2.2.1 t h3
    rw [if_neg (le3 h3), if_neg (le3 h3), arm_at h3, e_bd, gd_n h3 (by decide), e_lt, e_lt, tn (show t < 2 ^ 31 by omega)]
    simp only [f4 h3]
    have eh : x 0 c t 6 = hold A t := (ho _ _ _ _ (by omega)).trans g6
    rw [eh]
    generalize hx9 : up4 (up4 x 20 0 0 t (hold A t)) 21 0 0 t 0 = x9
    have o9 : ∀ k b i s, ¬ (20 ≤ k ∧ k ≤ 21 ∧ s = t) → x9 k b i s = x k b i s := fun k b i s q => by rw [← hx9, up4_ne (by omega), up4_ne (by omega)]
    have e20 : x9 20 0 0 t = hold A t := by rw [← hx9, up4_ne (by omega), up4_eq]
    have e2 : x9 0 c t 2 = A 114 t := (o9 _ _ _ _ (by omega)).trans ((ho _ _ _ _ (by omega)).trans g2)
    rw [e2]
    by_cases hz : A 114 t = 0
    · rw [if_pos hz, e_lt, n1]
      refine ih (t + 1) x9 (by omega) (by omega) (fun k b i s q => (o9 _ _ _ _ (by omega)).trans (ho _ _ _ _ q)) ⟨fun w hw => ?_, fun a q => ?_, fun a q h0 => ?_⟩
      · rw [o9 _ _ _ _ (by omega), l1 w hw]
        constructor
        · rintro ⟨q1, q2⟩
          exact ⟨by omega, q2⟩
        · rintro ⟨q1, q2⟩
          have : w ≠ t := fun e => q2 (e ▸ hz)
          exact ⟨by omega, q2⟩
      · by_cases e : a = t
        · subst e
          exact e20
        · rw [o9 _ _ _ _ (by omega)]
          exact l2 a (by omega)
      · have : a ≠ t := fun e => h0 (e ▸ hz)
        rw [o9 _ _ _ _ (by omega)]
        exact l3 a (by omega) h0
    · rw [if_neg hz, e_lt]
      generalize hx11 : up4 x9 19 0 0 1 (x9 19 0 0 1 ||| shl32 1 (Int32.ofNat t)) = x11
      have o11 : ∀ k b i s, ¬ (k = 19 ∧ s = 1) → x11 k b i s = x9 k b i s := fun k b i s q => by rw [← hx11, up4_ne (by omega)]
      have e19 : x11 19 0 0 1 = x 19 0 0 1 ||| bit t := by rw [← hx11, up4_eq, o9 _ _ _ _ (by omega), one_bit]
      have oA : ∀ k b i s, ¬ (19 ≤ k ∧ k ≤ 21) → x11 k b i s = x0 k b i s := fun k b i s q => (o11 _ _ _ _ (by omega)).trans ((o9 _ _ _ _ (by omega)).trans (ho _ _ _ _ q))
      obtain ⟨j, q, p, n, h30, hJ, a113, a115, a123, a124, hp, hq, hst⟩ := hI.act h3 hz
      have hn5 := hp.2.1
      have ej : ajob A t = j := by unfold ajob; rw [a113, tn (by omega)]
      have eq' : apos A t = q := by unfold apos; rw [a115, tn (by omega)]
      have e3 : x11 0 c t 3 = Int32.ofNat j := (oA _ _ _ _ (by omega)).trans (g3.trans a113)
      have e4 : x11 0 c t 4 = Int32.ofNat q := (oA _ _ _ _ (by omega)).trans (g4.trans a115)
      have e22 : x11 0 c t 2 = A 114 t := (oA _ _ _ _ (by omega)).trans g2
      obtain ⟨-, j1, j2, -⟩ := hR.2.2.2.2.2 j hJ
      have elh : m_X0_lastHeldPlace (c, Fin.ofNat 4 t) x11 = some (Int32.ofNat (lh A t)) ∧ lh A t < n := by
        unfold m_X0_lastHeldPlace lh
        simp only [f4 h3]
        rw [e22, e4, eq']
        rcases hst with w | ⟨w, w2⟩ | ⟨w, w2⟩
        · rw [if_neg (by rw [w]; decide), if_neg (by rw [w]; decide)]
          exact ⟨rfl, hq⟩
        · rw [if_pos w, if_pos w, n1]
          exact ⟨rfl, w2⟩
        · rw [if_neg (by rw [w]; decide), if_neg (by rw [w]; decide)]
          exact ⟨rfl, hq⟩
      obtain ⟨s', u', z1, z2, z3⟩ := cw_x (x := x11) (c := c) (A := A) (j := j) (p := p) (n := n) (q := lh A t) h30 (fun z hz => (oA _ _ _ _ (by omega)).trans (hR.con z hz)) ((oA _ _ _ _ (by omega)).trans (j1.trans a123)) ((oA _ _ _ _ (by omega)).trans (j2.trans a124)) hp elh.2 a123 a124
      rw [e3, job_at h30, e_bd, elh.1, e_bd, z1, e_bd, z2, e_bd, e_lt, e_lt, n1]
      refine ih (t + 1) _ (by omega) (by omega) (fun k b i s q => by rw [up4_ne (by omega)]; exact oA _ _ _ _ q) ⟨fun w hw => ?_, fun a q => ?_, fun a q h0 => ?_⟩
      · rw [up4_ne (by omega), e19, tb_or, tb_bit (by omega) hw, Bool.or_eq_true, l1 w hw, decide_eq_true_eq]
        constructor
        · rintro (⟨q1, q2⟩ | q1)
          · exact ⟨by omega, q2⟩
          · exact ⟨by omega, q1 ▸ hz⟩
        · rintro ⟨q1, q2⟩
          by_cases e : w = t
          · exact Or.inr e
          · exact Or.inl ⟨by omega, q2⟩
      · rw [up4_ne (by omega), o11 _ _ _ _ (by omega)]
        by_cases e : a = t
        · subst e
          exact e20
        · rw [o9 _ _ _ _ (by omega)]
          exact l2 a (by omega)
      · by_cases e : a = t
        · subst e
          rw [up4_eq, ej]
          exact z3
        · rw [up4_ne (by omega), o11 _ _ _ _ (by omega), o9 _ _ _ _ (by omega)]
          exact l3 a (by omega) h0
theorem la_x {x0 : Mem} {c : Fin 10} {A : St} {N : Nat} (hR : Rep x0 c A N) (hI : InvW A) : ∃ x', m_X6_lookAt c x0 = some x' ∧ (∀ k b i s, ¬ (19 ≤ k ∧ k ≤ 21) → x' k b i s = x0 k b i s) ∧ LK x' A 3 := by
  unfold m_X6_lookAt
  rw [e_lt, e_lt, z0]
  refine la_loop hR hI FU 0 _ (Nat.zero_le _) (by unfold FU; omega) (fun k b i s q => up4_ne (by omega)) ⟨fun w hw => ?_, fun a q => by omega, fun a q => by omega⟩
  rw [up4_eq]
  exact ⟨fun q => by rw [show Int32.ofNat 0 = 0 from rfl, tb_0] at q; exact absurd q (by decide), fun q => by omega⟩
