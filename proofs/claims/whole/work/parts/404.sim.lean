/-! THE CLASS'S COPIES -/
abbrev PS : Type := Nat → Nat → Nat → Prop
def Cp (x : Mem) (d s : Nat) (P : PS) (x' : Mem) : Prop := (∀ k i t, P k i t → x' k d i t = x k s i t) ∧ (∀ k c i t, c ≠ d → x' k c i t = x k c i t) ∧ (∀ k i t, 14 ≤ k → x' k d i t = x k d i t) ∧ (∀ a, x' 0 d a 0 = x 0 d a 0) ∧ ∀ t, x' 12 d 30 t = x 12 d 30 t
theorem Cp.imp {x x' : Mem} {d s : Nat} {P P' : PS} (h : ∀ k i t, P' k i t → P k i t) (hC : Cp x d s P x') : Cp x d s P' x' := ⟨fun k i t q => hC.1 k i t (h k i t q), hC.2⟩
theorem Cp.rf {x : Mem} {d s : Nat} : Cp x d s (fun _ _ _ => False) x := ⟨fun _ _ _ h => h.elim, fun _ _ _ _ _ => rfl, fun _ _ _ _ => rfl, fun _ => rfl, fun _ => rfl⟩
theorem Cp.up {x x' : Mem} {d s : Nat} {P : PS} (hds : d ≠ s) (hC : Cp x d s P x') {k i t : Nat} (h1 : k < 14) (h2 : ¬ (k = 0 ∧ t = 0)) (h3 : ¬ (k = 12 ∧ i = 30)) : Cp x d s (fun k' i' t' => P k' i' t' ∨ (k' = k ∧ i' = i ∧ t' = t)) (up4 x' k d i t (x' k s i t)) := by
  refine ⟨fun k' i' t' h => ?_, fun k' c i' t' h => ?_, fun k' i' t' h => ?_, fun a => ?_, fun t' => ?_⟩
  · rw [up4_at]
    by_cases e : k' = k ∧ d = d ∧ i' = i ∧ t' = t
    · rw [if_pos e, hC.2.1 k s i t (Ne.symm hds)]
      obtain ⟨rfl, -, rfl, rfl⟩ := e
      rfl
    · rw [if_neg e]
      exact hC.1 k' i' t' (h.resolve_right (fun q => e ⟨q.1, rfl, q.2.1, q.2.2⟩))
  · rw [up4_ne (fun q => h q.2.1)]
    exact hC.2.1 k' c i' t' h
  · rw [up4_ne (by omega)]
    exact hC.2.2.1 k' i' t' h
  · rw [up4_ne (by omega)]
    exact hC.2.2.2.1 a
  · rw [up4_ne (by omega)]
    exact hC.2.2.2.2 t'
theorem cn_loop {x : Mem} {d s k i n : Nat} {P : PS} (hds : d ≠ s) (hn : n < 2 ^ 31) (h1 : k < 14) (h2 : k ≠ 0) (h3 : k ≠ 12) : ∀ (m t : Nat) (x' : Mem), t ≤ n → n < t + m → Cp x d s (fun k' i' t' => P k' i' t' ∨ (k' = k ∧ i' = i ∧ t' < t)) x' → ∃ x'', m_X11_copyNumbers_l2 (k, s, i) n (k, d, i) n m (Int32.ofNat t) x' = some x'' ∧ Cp x d s (fun k' i' t' => P k' i' t' ∨ (k' = k ∧ i' = i ∧ t' < n)) x'' := by
  intro m
  induction m with
  | zero => intro t x' q1 q2; omega
  | succ m ih =>
    intro t x' q1 q2 hC
    show ∃ x'', m_X11_copyNumbers_b2 (k, s, i) n (k, d, i) n (m_X11_copyNumbers_l2 (k, s, i) n (k, d, i) n m) (Int32.ofNat t) x' = some x'' ∧ _
    unfold m_X11_copyNumbers_b2
    by_cases ht : t = n
    · subst ht
      rw [if_pos ((le_n hn hn).mpr (Nat.le_refl _))]
      exact ⟨x', rfl, hC⟩
    have htn : t < n := by omega
    have hle : ¬ Int32.ofNat n ≤ Int32.ofNat t := fun q => ht (Nat.le_antisymm q1 ((le_n hn (by omega)).mp q))
    rw [if_neg hle, if_neg hle, gd_n htn hn, gd_n htn hn, e_lt, e_lt, n1, tn (show t < 2 ^ 31 by omega)]
    refine ih (t + 1) _ (by omega) (by omega) ((hC.up hds (k := k) (i := i) (t := t) h1 (fun q => h2 q.1) (fun q => h3 q.1)).imp (fun k' i' t' h => ?_))
    rcases h with h | ⟨e1, e2, e3⟩
    · exact Or.inl (Or.inl h)
    · by_cases e : t' = t
      · exact Or.inr ⟨e1, e2, e⟩
      · exact Or.inl (Or.inr ⟨e1, e2, by omega⟩)
theorem cn {x x' : Mem} {d s k i n : Nat} {P : PS} (hds : d ≠ s) (hn : n < 4000) (h1 : k < 14) (h2 : k ≠ 0) (h3 : k ≠ 12) (hC : Cp x d s P x') : ∃ x'', m_X11_copyNumbers (k, s, i) n (k, d, i) n x' = some x'' ∧ Cp x d s (fun k' i' t' => P k' i' t' ∨ (k' = k ∧ i' = i ∧ t' < n)) x'' := by
  unfold m_X11_copyNumbers
  rw [e_lt]
  exact cn_loop hds (by omega) h1 h2 h3 FU 0 x' (Nat.zero_le _) (by unfold FU; omega) (hC.imp (fun k' i' t' h => h.resolve_right (fun q => by omega)))
theorem lt_ex {α : Type} {v : α} {k : α → Option Mem} {Q : Mem → Prop} (h : ∀ z, z = v → ∃ x'', k z = some x'' ∧ Q x'') : ∃ x'', lt_ v k = some x'' ∧ Q x'' := h v rfl
theorem cp_arm {x x' : Mem} {d s : Fin 10} {a : Fin 4} {P : PS} (hds : (d : Nat) ≠ s) (hC : Cp x d s P x') : ∃ x'', m_X0_copyFrom (d, a) (s, a) x' = some x'' ∧ Cp x d s (fun k i t => P k i t ∨ (k = 0 ∧ i = (a : Nat) ∧ 1 ≤ t ∧ t ≤ 12) ∨ (k = 1 ∧ i = (a : Nat) ∧ t < 30)) x'' := by
  unfold m_X0_copyFrom
  refine lt_ex fun x1 hx => ?_
  have h1 := hC.up hds (k := 0) (i := a) (t := 1) (by decide) (by decide) (by omega)
  rw [← hx] at h1
  clear hx
  refine lt_ex fun x2 hx => ?_
  have h2 := h1.up hds (k := 0) (i := a) (t := 2) (by decide) (by decide) (by omega)
  rw [← hx] at h2
  clear hx
  refine lt_ex fun x3 hx => ?_
  have h3 := h2.up hds (k := 0) (i := a) (t := 3) (by decide) (by decide) (by omega)
  rw [← hx] at h3
  clear hx
  refine lt_ex fun x4 hx => ?_
  have h4 := h3.up hds (k := 0) (i := a) (t := 4) (by decide) (by decide) (by omega)
  rw [← hx] at h4
  clear hx
  refine lt_ex fun x5 hx => ?_
  have h5 := h4.up hds (k := 0) (i := a) (t := 5) (by decide) (by decide) (by omega)
  rw [← hx] at h5
  clear hx
  refine lt_ex fun x6 hx => ?_
  have h6 := h5.up hds (k := 0) (i := a) (t := 6) (by decide) (by decide) (by omega)
  rw [← hx] at h6
  clear hx
  refine lt_ex fun x7 hx => ?_
  have h7 := h6.up hds (k := 0) (i := a) (t := 7) (by decide) (by decide) (by omega)
  rw [← hx] at h7
  clear hx
  refine lt_ex fun x8 hx => ?_
  have h8 := h7.up hds (k := 0) (i := a) (t := 8) (by decide) (by decide) (by omega)
  rw [← hx] at h8
  clear hx
  refine lt_ex fun x9 hx => ?_
  have h9 := h8.up hds (k := 0) (i := a) (t := 9) (by decide) (by decide) (by omega)
  rw [← hx] at h9
  clear hx
  refine lt_ex fun x10 hx => ?_
  have h10 := h9.up hds (k := 0) (i := a) (t := 10) (by decide) (by decide) (by omega)
  rw [← hx] at h10
  clear hx
  refine lt_ex fun x11 hx => ?_
  have h11 := h10.up hds (k := 0) (i := a) (t := 11) (by decide) (by decide) (by omega)
  rw [← hx] at h11
  clear hx
  refine lt_ex fun x12 hx => ?_
  have h12 := h11.up hds (k := 0) (i := a) (t := 12) (by decide) (by decide) (by omega)
  rw [← hx] at h12
  clear hx
  obtain ⟨x'', e, hX⟩ := cn (k := 1) (i := a) (n := 30) hds (by decide) (by decide) (by decide) (by decide) h12
  refine ⟨x'', by rw [e]; rfl, hX.imp (fun k i t h => ?_)⟩
  rcases h with h | ⟨h1, h2, h3, h4⟩ | h
  · exact Or.inl (Or.inl (Or.inl (Or.inl (Or.inl (Or.inl (Or.inl (Or.inl (Or.inl (Or.inl (Or.inl (Or.inl (Or.inl h))))))))))))
  · left
    rcases (show t = 1 ∨ t = 2 ∨ t = 3 ∨ t = 4 ∨ t = 5 ∨ t = 6 ∨ t = 7 ∨ t = 8 ∨ t = 9 ∨ t = 10 ∨ t = 11 ∨ t = 12 by omega) with rfl | rfl | rfl | rfl | rfl | rfl | rfl | rfl | rfl | rfl | rfl | rfl
    all_goals simp [h1, h2]
  · exact Or.inr h
theorem cp_sto {x x' : Mem} {d s : Fin 10} {a : Fin 4} {P : PS} (hds : (d : Nat) ≠ s) (hC : Cp x d s P x') : ∃ x'', m_X9_copyFrom (d, a) (s, a) x' = some x'' ∧ Cp x d s (fun k i t => P k i t ∨ (k = 9 ∧ i = (a : Nat) ∧ t ≤ 5) ∨ (k = 10 ∧ i = (a : Nat) ∧ t < 4)) x'' := by
  unfold m_X9_copyFrom
  refine lt_ex fun x1 hx => ?_
  have h1 := hC.up hds (k := 9) (i := a) (t := 0) (by decide) (by decide) (by omega)
  rw [← hx] at h1
  clear hx
  refine lt_ex fun x2 hx => ?_
  have h2 := h1.up hds (k := 9) (i := a) (t := 1) (by decide) (by decide) (by omega)
  rw [← hx] at h2
  clear hx
  refine lt_ex fun x3 hx => ?_
  have h3 := h2.up hds (k := 9) (i := a) (t := 2) (by decide) (by decide) (by omega)
  rw [← hx] at h3
  clear hx
  refine lt_ex fun x4 hx => ?_
  have h4 := h3.up hds (k := 9) (i := a) (t := 3) (by decide) (by decide) (by omega)
  rw [← hx] at h4
  clear hx
  refine lt_ex fun x5 hx => ?_
  have h5 := h4.up hds (k := 9) (i := a) (t := 4) (by decide) (by decide) (by omega)
  rw [← hx] at h5
  clear hx
  refine lt_ex fun x6 hx => ?_
  have h6 := h5.up hds (k := 9) (i := a) (t := 5) (by decide) (by decide) (by omega)
  rw [← hx] at h6
  clear hx
  obtain ⟨x'', e, hX⟩ := cn (k := 10) (i := a) (n := 4) hds (by decide) (by decide) (by decide) (by decide) h6
  refine ⟨x'', by rw [e]; rfl, hX.imp (fun k i t h => ?_)⟩
  rcases h with h | ⟨h1, h2, h3⟩ | h
  · exact Or.inl (Or.inl (Or.inl (Or.inl (Or.inl (Or.inl (Or.inl h))))))
  · left
    rcases (show t = 0 ∨ t = 1 ∨ t = 2 ∨ t = 3 ∨ t = 4 ∨ t = 5 by omega) with rfl | rfl | rfl | rfl | rfl | rfl
    all_goals simp [h1, h2]
  · exact Or.inr h
theorem cp_job {x x' : Mem} {d s : Fin 10} {a : Fin 31} {P : PS} (hds : (d : Nat) ≠ s) (ha : (a : Nat) ≠ 30) (hC : Cp x d s P x') : ∃ x'', m_X5_copyFrom (d, a) (s, a) x' = some x'' ∧ Cp x d s (fun k i t => P k i t ∨ (k = 12 ∧ i = (a : Nat) ∧ t ≤ 9)) x'' := by
  unfold m_X5_copyFrom
  refine lt_ex fun x1 hx => ?_
  have h1 := hC.up hds (k := 12) (i := a) (t := 0) (by decide) (by decide) (fun q => ha q.2)
  rw [← hx] at h1
  clear hx
  refine lt_ex fun x2 hx => ?_
  have h2 := h1.up hds (k := 12) (i := a) (t := 1) (by decide) (by decide) (fun q => ha q.2)
  rw [← hx] at h2
  clear hx
  refine lt_ex fun x3 hx => ?_
  have h3 := h2.up hds (k := 12) (i := a) (t := 2) (by decide) (by decide) (fun q => ha q.2)
  rw [← hx] at h3
  clear hx
  refine lt_ex fun x4 hx => ?_
  have h4 := h3.up hds (k := 12) (i := a) (t := 3) (by decide) (by decide) (fun q => ha q.2)
  rw [← hx] at h4
  clear hx
  refine lt_ex fun x5 hx => ?_
  have h5 := h4.up hds (k := 12) (i := a) (t := 4) (by decide) (by decide) (fun q => ha q.2)
  rw [← hx] at h5
  clear hx
  refine lt_ex fun x6 hx => ?_
  have h6 := h5.up hds (k := 12) (i := a) (t := 5) (by decide) (by decide) (fun q => ha q.2)
  rw [← hx] at h6
  clear hx
  refine lt_ex fun x7 hx => ?_
  have h7 := h6.up hds (k := 12) (i := a) (t := 6) (by decide) (by decide) (fun q => ha q.2)
  rw [← hx] at h7
  clear hx
  refine lt_ex fun x8 hx => ?_
  have h8 := h7.up hds (k := 12) (i := a) (t := 7) (by decide) (by decide) (fun q => ha q.2)
  rw [← hx] at h8
  clear hx
  refine lt_ex fun x9 hx => ?_
  have h9 := h8.up hds (k := 12) (i := a) (t := 8) (by decide) (by decide) (fun q => ha q.2)
  rw [← hx] at h9
  clear hx
  refine lt_ex fun x10 hx => ?_
  have h10 := h9.up hds (k := 12) (i := a) (t := 9) (by decide) (by decide) (fun q => ha q.2)
  rw [← hx] at h10
  clear hx
  refine ⟨_, rfl, h10.imp (fun k i t h => ?_)⟩
  rcases h with h | ⟨h1, h2, h3⟩
  · exact Or.inl (Or.inl (Or.inl (Or.inl (Or.inl (Or.inl (Or.inl (Or.inl (Or.inl (Or.inl h)))))))))
  · rcases (show t = 0 ∨ t = 1 ∨ t = 2 ∨ t = 3 ∨ t = 4 ∨ t = 5 ∨ t = 6 ∨ t = 7 ∨ t = 8 ∨ t = 9 by omega) with rfl | rfl | rfl | rfl | rfl | rfl | rfl | rfl | rfl | rfl
    all_goals simp [h1, h2]
theorem job_at {c : Fin 10} {k : Nat} (h : k < 30) : m_X1_jobAt c (Int32.ofNat k) = some (c, Fin.ofNat 31 k) := by
  unfold m_X1_jobAt
  rw [if_neg (ge0 (show k < 2 ^ 31 by omega)), if_neg (fun q => by have := (le_n (a := 30) (by decide) (show k < 2 ^ 31 by omega)).mp q; omega), gd_n h (by decide), e_lt, e_lt]
  unfold el_13
  rw [tn (show k < 2 ^ 31 by omega)]
theorem f31 {k : Nat} (h : k < 30) : ((Fin.ofNat 31 k : Fin 31) : Nat) = k := Nat.mod_eq_of_lt (by omega)
theorem cp_jobs {x : Mem} {d s : Fin 10} {P : PS} (hds : (d : Nat) ≠ s) {J : Nat} (hJ : J ≤ 30) (hP : P 2 0 1) (hs : x 2 s 0 1 = Int32.ofNat J) : ∀ (m t : Nat) (x' : Mem), t ≤ J → J < t + m → Cp x d s (fun k i u => P k i u ∨ (k = 12 ∧ i < t ∧ u ≤ 9)) x' → ∃ x'', m_X1_copyFrom_l132 d s m (Int32.ofNat t) x' = some x'' ∧ Cp x d s (fun k i u => P k i u ∨ (k = 12 ∧ i < J ∧ u ≤ 9)) x'' := by
  intro m
  induction m with
  | zero => intro t x' q1 q2; omega
  | succ m ih =>
    intro t x' q1 q2 hC
    show ∃ x'', m_X1_copyFrom_b132 d s (m_X1_copyFrom_l132 d s m) (Int32.ofNat t) x' = some x'' ∧ _
    unfold m_X1_copyFrom_b132
    rw [hC.1 2 0 1 (Or.inl hP), hs]
    by_cases ht : t = J
    · subst ht
      rw [if_pos ((le_n (by omega) (by omega)).mpr (Nat.le_refl _))]
      exact ⟨x', rfl, hC⟩
    rw [if_neg (fun q => ht (Nat.le_antisymm q1 ((le_n (by omega) (by omega)).mp q))), job_at (show t < 30 by omega), e_bd, job_at (show t < 30 by omega), e_bd]
    obtain ⟨x1, e1, hX⟩ := cp_job (a := Fin.ofNat 31 t) hds (by rw [f31 (by omega)]; omega) hC
    rw [e1, e_bd, e_lt, n1]
    refine ih (t + 1) x1 (by omega) (by omega) (hX.imp (fun k i u h => ?_))
    rw [f31 (show t < 30 by omega)]
    rcases h with h | ⟨e1, e2, e3⟩
    · exact Or.inl (Or.inl h)
    · by_cases e : i = t
      · exact Or.inr ⟨e1, e, e3⟩
      · exact Or.inl (Or.inr ⟨e1, by omega, e3⟩)
theorem z0 : (0 : Int32) = Int32.ofNat 0 := rfl
theorem le3 {t : Nat} (h : t < 3) : ¬ (3 : Int32) ≤ Int32.ofNat t := fun q => by
  have := (le_n (a := 3) (by decide) (show t < 2 ^ 31 by omega)).mp q
  omega
theorem cp_stos {x : Mem} {d s : Fin 10} {P : PS} (hds : (d : Nat) ≠ s) : ∀ (m t : Nat) (x' : Mem), t ≤ 3 → 3 < t + m → Cp x d s (fun k i u => P k i u ∨ (k = 9 ∧ i < t ∧ u ≤ 5) ∨ (k = 10 ∧ i < t ∧ u < 4)) x' → ∃ x'', m_X1_copyFrom_l106 d s m (Int32.ofNat t) x' = m_X1_copyFrom_l132 d s FU (Int32.ofNat 0) x'' ∧ Cp x d s (fun k i u => P k i u ∨ (k = 9 ∧ i < 3 ∧ u ≤ 5) ∨ (k = 10 ∧ i < 3 ∧ u < 4)) x'' := by
  intro m
  induction m with
  | zero => intro t x' q1 q2; omega
  | succ m ih =>
    intro t x' q1 q2 hC
    show ∃ x'', m_X1_copyFrom_b106 d s (m_X1_copyFrom_l106 d s m) (Int32.ofNat t) x' = m_X1_copyFrom_l132 d s FU (Int32.ofNat 0) x'' ∧ _
    unfold m_X1_copyFrom_b106
    by_cases ht : t = 3
    · subst ht
      rw [if_pos (by decide), e_lt, z0]
      exact ⟨x', rfl, hC⟩
    have h3 : t < 3 := by omega
    rw [if_neg (le3 h3), sto_at h3, e_bd, sto_at h3, e_bd]
    obtain ⟨x1, e1, hX⟩ := cp_sto (a := Fin.ofNat 4 t) hds hC
    rw [e1, e_bd, e_lt, n1]
    refine ih (t + 1) x1 (by omega) (by omega) (hX.imp (fun k i u h => ?_))
    rw [f4 h3]
    rcases h with h | ⟨e1, e2, e3⟩ | ⟨e1, e2, e3⟩
    · exact Or.inl (Or.inl h)
    · by_cases e : i = t
      · exact Or.inr (Or.inl ⟨e1, e, e3⟩)
      · exact Or.inl (Or.inr (Or.inl ⟨e1, by omega, e3⟩))
    · by_cases e : i = t
      · exact Or.inr (Or.inr ⟨e1, e, e3⟩)
      · exact Or.inl (Or.inr (Or.inr ⟨e1, by omega, e3⟩))
theorem cp_arms {x : Mem} {d s : Fin 10} {P : PS} (hds : (d : Nat) ≠ s) : ∀ (m t : Nat) (x' : Mem), t ≤ 3 → 3 < t + m → Cp x d s (fun k i u => P k i u ∨ (k = 0 ∧ i < t ∧ 1 ≤ u ∧ u ≤ 12) ∨ (k = 1 ∧ i < t ∧ u < 30)) x' → ∃ x'', m_X1_copyFrom_l80 d s m (Int32.ofNat t) x' = m_X1_copyFrom_l106 d s FU (Int32.ofNat 0) x'' ∧ Cp x d s (fun k i u => P k i u ∨ (k = 0 ∧ i < 3 ∧ 1 ≤ u ∧ u ≤ 12) ∨ (k = 1 ∧ i < 3 ∧ u < 30)) x'' := by
  intro m
  induction m with
  | zero => intro t x' q1 q2; omega
  | succ m ih =>
    intro t x' q1 q2 hC
    show ∃ x'', m_X1_copyFrom_b80 d s (m_X1_copyFrom_l80 d s m) (Int32.ofNat t) x' = m_X1_copyFrom_l106 d s FU (Int32.ofNat 0) x'' ∧ _
    unfold m_X1_copyFrom_b80
    by_cases ht : t = 3
    · subst ht
      rw [if_pos (by decide), e_lt, z0]
      exact ⟨x', rfl, hC⟩
    have h3 : t < 3 := by omega
    rw [if_neg (le3 h3), arm_at h3, e_bd, arm_at h3, e_bd]
    obtain ⟨x1, e1, hX⟩ := cp_arm (a := Fin.ofNat 4 t) hds hC
    rw [e1, e_bd, e_lt, n1]
    refine ih (t + 1) x1 (by omega) (by omega) (hX.imp (fun k i u h => ?_))
    rw [f4 h3]
    rcases h with h | ⟨e1, e2, e3⟩ | ⟨e1, e2, e3⟩
    · exact Or.inl (Or.inl h)
    · by_cases e : i = t
      · exact Or.inr (Or.inl ⟨e1, e, e3⟩)
      · exact Or.inl (Or.inr (Or.inl ⟨e1, by omega, e3⟩))
    · by_cases e : i = t
      · exact Or.inr (Or.inr ⟨e1, e, e3⟩)
      · exact Or.inl (Or.inr (Or.inr ⟨e1, by omega, e3⟩))
def PF (J : Nat) : PS := fun k i t => (k = 2 ∧ i = 0 ∧ t ≤ 6) ∨ (k = 3 ∧ i = 0 ∧ t = 0) ∨ (k = 4 ∧ i = 0 ∧ t < 8) ∨ (k = 5 ∧ i = 0 ∧ t < 8) ∨ (k = 6 ∧ i = 0 ∧ t = 0) ∨ (k = 7 ∧ i = 0 ∧ t < 96) ∨ (k = 0 ∧ i < 3 ∧ 1 ≤ t ∧ t ≤ 12) ∨ (k = 1 ∧ i < 3 ∧ t < 30) ∨ (k = 9 ∧ i < 3 ∧ t ≤ 5) ∨ (k = 10 ∧ i < 3 ∧ t < 4) ∨ (k = 12 ∧ i < J ∧ t ≤ 9)
theorem cp_zon {x x' : Mem} {d s : Fin 10} {P : PS} (hds : (d : Nat) ≠ s) (hC : Cp x d s P x') : ∃ x'', m_X10_copyFrom d s x' = some x'' ∧ Cp x d s (fun k i t => ((P k i t ∨ (k = 3 ∧ i = 0 ∧ t = 0)) ∨ (k = 4 ∧ i = 0 ∧ t < 8)) ∨ (k = 5 ∧ i = 0 ∧ t < 8)) x'' := by
  unfold m_X10_copyFrom
  refine lt_ex fun x1 hx => ?_
  have h1 := hC.up hds (k := 3) (i := 0) (t := 0) (by decide) (by decide) (by omega)
  rw [← hx] at h1
  clear hx
  obtain ⟨x2, e2, h2⟩ := cn (k := 4) (i := 0) (n := 8) hds (by decide) (by decide) (by decide) (by decide) h1
  obtain ⟨x3, e3, h3⟩ := cn (k := 5) (i := 0) (n := 8) hds (by decide) (by decide) (by decide) (by decide) h2
  exact ⟨x3, by rw [e2, e_bd, e3, e_bd], h3⟩
theorem cp_log {x x' : Mem} {d s : Fin 10} {P : PS} (hds : (d : Nat) ≠ s) (hC : Cp x d s P x') : ∃ x'', m_X7_copyFrom d s x' = some x'' ∧ Cp x d s (fun k i t => (P k i t ∨ (k = 6 ∧ i = 0 ∧ t = 0)) ∨ (k = 7 ∧ i = 0 ∧ t < 96)) x'' := by
  unfold m_X7_copyFrom
  refine lt_ex fun x1 hx => ?_
  have h1 := hC.up hds (k := 6) (i := 0) (t := 0) (by decide) (by decide) (by omega)
  rw [← hx] at h1
  clear hx
  obtain ⟨x2, e2, h2⟩ := cn (k := 7) (i := 0) (n := 96) hds (by decide) (by decide) (by decide) (by decide) h1
  exact ⟨x2, by rw [e2, e_bd], h2⟩
theorem cp_cell {x : Mem} {d s : Fin 10} (hds : (d : Nat) ≠ s) {J : Nat} (hJ : J ≤ 30) (hs : x 2 s 0 1 = Int32.ofNat J) : ∃ x', m_X1_copyFrom d s x = some x' ∧ Cp x d s (PF J) x' := by
  unfold m_X1_copyFrom
  refine lt_ex fun y0 hx => ?_
  have h0 := (Cp.rf (x := x) (d := d) (s := s)).up hds (k := 2) (i := 0) (t := 0) (by decide) (by decide) (by omega)
  rw [← hx] at h0
  clear hx
  refine lt_ex fun y1 hx => ?_
  have h1 := h0.up hds (k := 2) (i := 0) (t := 1) (by decide) (by decide) (by omega)
  rw [← hx] at h1
  clear hx
  refine lt_ex fun y2 hx => ?_
  have h2 := h1.up hds (k := 2) (i := 0) (t := 2) (by decide) (by decide) (by omega)
  rw [← hx] at h2
  clear hx
  refine lt_ex fun y3 hx => ?_
  have h3 := h2.up hds (k := 2) (i := 0) (t := 3) (by decide) (by decide) (by omega)
  rw [← hx] at h3
  clear hx
  refine lt_ex fun y4 hx => ?_
  have h4 := h3.up hds (k := 2) (i := 0) (t := 4) (by decide) (by decide) (by omega)
  rw [← hx] at h4
  clear hx
  refine lt_ex fun y5 hx => ?_
  have h5 := h4.up hds (k := 2) (i := 0) (t := 5) (by decide) (by decide) (by omega)
  rw [← hx] at h5
  clear hx
  refine lt_ex fun y6 hx => ?_
  have h6 := h5.up hds (k := 2) (i := 0) (t := 6) (by decide) (by decide) (by omega)
  rw [← hx] at h6
  clear hx
  replace h6 := h6.imp (P' := fun k i t => k = 2 ∧ i = 0 ∧ t ≤ 6) (fun k i t h => by
    obtain ⟨rfl, rfl, h⟩ := h
    rcases (show t = 0 ∨ t = 1 ∨ t = 2 ∨ t = 3 ∨ t = 4 ∨ t = 5 ∨ t = 6 by omega) with rfl | rfl | rfl | rfl | rfl | rfl | rfl
    all_goals simp)
  obtain ⟨x9, e9, h9⟩ := cp_zon hds h6
  rw [e9, e_bd]
  obtain ⟨x10, e10, h10⟩ := cp_log hds h9
  rw [e10, e_bd]
  refine lt_ex fun w hw => ?_
  rw [hw]
  clear hw
  obtain ⟨x11, e11, h11⟩ := cp_arms hds FU 0 x10 (Nat.zero_le _) (by unfold FU; omega) (h10.imp (fun k i t h => h.resolve_right (by omega)))
  obtain ⟨x12, e12, h12⟩ := cp_stos hds FU 0 x11 (Nat.zero_le _) (by unfold FU; omega) (h11.imp (fun k i t h => h.resolve_right (by omega)))
  obtain ⟨x13, e13, h13⟩ := cp_jobs hds hJ (by simp) hs FU 0 x12 (Nat.zero_le _) (by unfold FU; omega) (h12.imp (fun k i t h => h.resolve_right (by omega)))
  rw [z0, e11, e12, e13]
  refine ⟨x13, rfl, h13.imp (fun k i t h => ?_)⟩
  unfold PF at h
  rcases h with h | h | h | h | h | h | h | h | h | h | h <;> simp [h]
theorem Cp.rep {x x' : Mem} {d s : Fin 10} {J N : Nat} {A : St} (hI : Inv A) (hA : A 40 34 = Int32.ofNat J) (hJ : J ≤ 30) (hC : Cp x d s (PF J) x') (hR : Rep x s A N) : Rep x' d A N := by
  have e1 := hC.1
  obtain ⟨J', hJ', -, -, ha, hb, -⟩ := hI
  obtain ⟨r1, r2, ⟨g0, M, g1, g2, g3, g4⟩, r4, r5, r6⟩ := hR
  unfold PF at e1
  refine ⟨?_, ⟨?_, fun z q => ?_⟩, ⟨g0, M, g1, ?_, g3, fun i w q r => ?_⟩, fun a q => ?_, fun b q => ?_, fun j q => ?_⟩
  · unfold RSca at r1 ⊢
    rw [e1 2 0 0 (by omega), e1 2 0 1 (by omega), e1 2 0 2 (by omega), e1 2 0 3 (by omega), e1 2 0 4 (by omega), e1 2 0 5 (by omega), e1 2 0 6 (by omega)]
    exact r1
  · rw [e1 3 0 0 (by omega)]
    exact r2.1
  · rw [e1 4 0 z (by omega), e1 5 0 z (by omega)]
    exact r2.2 z q
  · rw [e1 6 0 0 (by omega)]
    exact g2
  · rw [e1 7 0 _ (by omega)]
    exact g4 i w q r
  · have g := r4 a q
    unfold RArm at g ⊢
    rw [e1 0 a 1 (by omega), e1 0 a 2 (by omega), e1 0 a 3 (by omega), e1 0 a 4 (by omega), e1 0 a 5 (by omega), e1 0 a 6 (by omega), e1 0 a 7 (by omega), e1 0 a 8 (by omega), e1 0 a 9 (by omega), e1 0 a 10 (by omega), e1 0 a 11 (by omega), e1 0 a 12 (by omega)]
    obtain ⟨w1, w2, w3, w4, w5, w6, w7, w8, w9, w10, w11, w12, w13⟩ := g
    refine ⟨w1, w2, w3, w4, w5, w6, w7, w8, w9, w10, w11, w12, fun k hk => ?_⟩
    obtain ⟨-, r, v1, v2, -⟩ := ha a q
    have hk2 : k < r := by
      have hr : r < 2 ^ 31 := by omega
      rw [v1, tn hr] at hk
      exact hk
    rw [e1 1 a k (by omega)]
    exact w13 k hk
  · have g := r5 b q
    unfold RSto at g ⊢
    rw [e1 9 b 0 (by omega), e1 9 b 1 (by omega), e1 9 b 2 (by omega), e1 9 b 3 (by omega), e1 9 b 4 (by omega), e1 9 b 5 (by omega)]
    obtain ⟨w1, w2, w3, w4, w5, w6, w7⟩ := g
    refine ⟨w1, w2, w3, w4, w5, w6, fun k hk => ?_⟩
    obtain ⟨cap, n, pp, pr, v1, v2, v3, v4, v5, v6, -⟩ := hb b q
    have hk2 : k < n := by
      have hr : n < 2 ^ 31 := by omega
      rw [v2, tn hr] at hk
      exact hk
    rw [e1 10 b k (by omega)]
    exact w7 k hk
  · have hq : j < J := by
      have hr : J < 2 ^ 31 := by omega
      rw [hA, tn hr] at q
      exact q
    have g := r6 j q
    unfold RJob at g ⊢
    rw [e1 12 j 0 (by omega), e1 12 j 1 (by omega), e1 12 j 2 (by omega), e1 12 j 3 (by omega), e1 12 j 4 (by omega), e1 12 j 5 (by omega), e1 12 j 6 (by omega), e1 12 j 7 (by omega), e1 12 j 8 (by omega), e1 12 j 9 (by omega)]
    exact g
/-- the class's copy of a cell that represents A -/
theorem copy_rep {x : Mem} {d s : Fin 10} (hds : (d : Nat) ≠ s) {A : St} {N : Nat} (hI : Inv A) (hR : Rep x s A N) (hC : Con x) : ∃ x', m_X1_copyFrom d s x = some x' ∧ Rep x' d A N ∧ Con x' ∧ (∀ k c i t : Nat, c ≠ (d : Nat) → x' k c i t = x k c i t) ∧ ∀ k c i t : Nat, 14 ≤ k → x' k c i t = x k c i t := by
  obtain ⟨J, hJ, hA, -⟩ := id hI
  obtain ⟨x', e, h⟩ := cp_cell hds hJ (hR.1.2.1.trans hA)
  refine ⟨x', e, h.rep hI hA hJ hR, fun c hc => ⟨?_, fun a ha => ?_⟩, h.2.1, fun k c i t hk => ?_⟩
  · by_cases hcd : c = d
    · subst hcd
      rw [h.2.2.2.2]
      exact (hC _ hc).1
    · rw [h.2.1 _ _ _ _ hcd]
      exact (hC _ hc).1
  · by_cases hcd : c = d
    · subst hcd
      rw [h.2.2.2.1]
      exact (hC _ hc).2 a ha
    · rw [h.2.1 _ _ _ _ hcd]
      exact (hC _ hc).2 a ha
  · by_cases hcd : c = d
    · subst hcd
      exact h.2.2.1 _ _ _ hk
    · exact h.2.1 _ _ _ _ hcd
