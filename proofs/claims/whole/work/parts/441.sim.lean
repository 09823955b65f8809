/-! PERFORM, reading: both stand at the letter t of n, within the j-th command; v are the fields of the class's command, w those of the reference, kd its kind -/
def wUpd (v : Nat → Int32) (f : Nat) (a : Int32) : Nat → Int32 := fun g => if g = f then a else v g
theorem wUpd_eq {v : Nat → Int32} {f : Nat} {a : Int32} : wUpd v f a f = a := if_pos rfl
theorem wUpd_ne {v : Nat → Int32} {f g : Nat} {a : Int32} (h : g ≠ f) : wUpd v f a g = v g := if_neg h
def RdS (n j : Nat) (x0 y0 : Mem) (t : Nat) (v w : Nat → Int32) (kd : Int32) (x y : Mem) : Prop :=
  (n ≤ 80 ∧ j < 28 ∧ t ≤ n) ∧ x 22 0 0 2 = Int32.ofNat n ∧ y 40 0 0 51 = Int32.ofNat n ∧ x 22 0 0 3 = Int32.ofNat t ∧ y 40 0 0 52 = Int32.ofNat t ∧ y 40 0 0 53 = Int32.ofNat j ∧ (∀ k, k < n → x 23 0 0 k = y 148 0 0 k) ∧
  (∀ f, x 25 0 j f = v f) ∧ (∀ f, f < 6 → y 150 0 0 (6 * j + f) = w f) ∧ y 149 0 0 j = kd ∧
  (∀ k c a s, ¬ (k = 22 ∧ (s = 3 ∨ s = 4)) → ¬ (k = 25 ∧ a = j) → x k c a s = x0 k c a s) ∧
  (∀ k c a s, ¬ (k = 40 ∧ (s = 52 ∨ s = 54)) → ¬ (k = 149 ∧ s = j) → ¬ (k = 150 ∧ 6 * j ≤ s ∧ s < 6 * j + 6) → y k c a s = y0 k c a s)
theorem RdS.dig {n j t : Nat} {x0 y0 x y : Mem} {v w : Nat → Int32} {kd a b : Int32} (h : RdS n j x0 y0 t v w kd x y) : RdS n j x0 y0 t v w kd (up4 x 22 0 0 4 a) (up4 y 40 0 0 54 b) := by
  obtain ⟨h0, h1, h2, h3, h4, h5, h6, h7, h8, h9, h10, h11⟩ := h
  refine ⟨h0, ?_, ?_, ?_, ?_, ?_, fun k q => ?_, fun f => ?_, fun f q => ?_, ?_, fun k c a s q r => ?_, fun k c a s q r u => ?_⟩
  · rw [up4_ne (by omega)]; exact h1
  · rw [up4_ne (by omega)]; exact h2
  · rw [up4_ne (by omega)]; exact h3
  · rw [up4_ne (by omega)]; exact h4
  · rw [up4_ne (by omega)]; exact h5
  · rw [up4_ne (by omega), up4_ne (by omega)]; exact h6 k q
  · rw [up4_ne (by omega)]; exact h7 f
  · rw [up4_ne (by omega)]; exact h8 f q
  · rw [up4_ne (by omega)]; exact h9
  · rw [up4_ne (by omega)]; exact h10 k c a s q r
  · rw [up4_ne (by omega)]; exact h11 k c a s q r u
theorem RdS.at {n j t : Nat} {x0 y0 x y : Mem} {v w : Nat → Int32} {kd : Int32} (h : RdS n j x0 y0 t v w kd x y) (ht : t < n) : RdS n j x0 y0 (t + 1) v w kd (up4 x 22 0 0 3 (Int32.ofNat (t + 1))) (up4 y 40 0 0 52 (Int32.ofNat (t + 1))) := by
  obtain ⟨h0, h1, h2, h3, h4, h5, h6, h7, h8, h9, h10, h11⟩ := h
  refine ⟨⟨h0.1, h0.2.1, by omega⟩, ?_, ?_, up4_eq, up4_eq, ?_, fun k q => ?_, fun f => ?_, fun f q => ?_, ?_, fun k c a s q r => ?_, fun k c a s q r u => ?_⟩
  · rw [up4_ne (by omega)]; exact h1
  · rw [up4_ne (by omega)]; exact h2
  · rw [up4_ne (by omega)]; exact h5
  · rw [up4_ne (by omega), up4_ne (by omega)]; exact h6 k q
  · rw [up4_ne (by omega)]; exact h7 f
  · rw [up4_ne (by omega)]; exact h8 f q
  · rw [up4_ne (by omega)]; exact h9
  · rw [up4_ne (by omega)]; exact h10 k c a s q r
  · rw [up4_ne (by omega)]; exact h11 k c a s q r u
theorem RdS.vx {n j t f : Nat} {x0 y0 x y : Mem} {v w : Nat → Int32} {kd a : Int32} (h : RdS n j x0 y0 t v w kd x y) : RdS n j x0 y0 t (wUpd v f a) w kd (up4 x 25 0 j f a) y := by
  obtain ⟨h0, h1, h2, h3, h4, h5, h6, h7, h8, h9, h10, h11⟩ := h
  refine ⟨h0, ?_, h2, ?_, h4, h5, fun k q => ?_, fun g => ?_, h8, h9, fun k c a s q r => ?_, h11⟩
  · rw [up4_ne (by omega)]; exact h1
  · rw [up4_ne (by omega)]; exact h3
  · rw [up4_ne (by omega)]; exact h6 k q
  · by_cases e : g = f
    · subst e
      rw [up4_eq, wUpd_eq]
    · rw [up4_ne (fun q => e q.2.2.2), wUpd_ne e]
      exact h7 g
  · rw [up4_ne (by omega)]; exact h10 k c a s q r
theorem RdS.wy {n j t f : Nat} {x0 y0 x y : Mem} {v w : Nat → Int32} {kd a : Int32} (h : RdS n j x0 y0 t v w kd x y) (hf : f < 6) : RdS n j x0 y0 t v (wUpd w f a) kd x (up4 y 150 0 0 (6 * j + f) a) := by
  obtain ⟨h0, h1, h2, h3, h4, h5, h6, h7, h8, h9, h10, h11⟩ := h
  refine ⟨h0, h1, ?_, h3, ?_, ?_, fun k q => ?_, h7, fun g hg => ?_, ?_, h10, fun k c a s q r u => ?_⟩
  · rw [up4_ne (by omega)]; exact h2
  · rw [up4_ne (by omega)]; exact h4
  · rw [up4_ne (by omega)]; exact h5
  · rw [up4_ne (by omega)]; exact h6 k q
  · by_cases e : g = f
    · subst e
      rw [up4_eq, wUpd_eq]
    · rw [up4_ne (by omega), wUpd_ne e]
      exact h8 g hg
  · rw [up4_ne (by omega)]; exact h9
  · rw [up4_ne (by omega)]; exact h11 k c a s q r u
theorem RdS.ky {n j t : Nat} {x0 y0 x y : Mem} {v w : Nat → Int32} {kd a : Int32} (h : RdS n j x0 y0 t v w kd x y) : RdS n j x0 y0 t v w a x (up4 y 149 0 0 j a) := by
  obtain ⟨h0, h1, h2, h3, h4, h5, h6, h7, h8, h9, h10, h11⟩ := h
  refine ⟨h0, h1, ?_, h3, ?_, ?_, fun k q => ?_, h7, fun g hg => ?_, up4_eq, h10, fun k c a s q r u => ?_⟩
  · rw [up4_ne (by omega)]; exact h2
  · rw [up4_ne (by omega)]; exact h4
  · rw [up4_ne (by omega)]; exact h5
  · rw [up4_ne (by omega)]; exact h6 k q
  · rw [up4_ne (by omega)]; exact h8 g hg
  · rw [up4_ne (by omega)]; exact h11 k c a s q r u
theorem take_sim {n j t : Nat} {x0 y0 x y : Mem} {v w : Nat → Int32} {kd : Int32} (ch : Int32) (h : RdS n j x0 y0 t v w kd x y) : ∃ (b : Int32) (x' y' : Mem) (t' : Nat), m_X3_take ch x = some (b, x') ∧ m_X12_skips ch y = some (b, y') ∧ RdS n j x0 y0 t' v w kd x' y' ∧ ((b = 0 ∧ t' = t) ∨ (b = 1 ∧ t' = t + 1)) := by
  obtain ⟨⟨q0, q1, q2⟩, h1, h2, h3, h4, h5, h6, -⟩ := id h
  unfold m_X3_take m_X12_skips
  rw [h3, h1, h4, h2, if_neg (ge0 (by omega))]
  by_cases ht : t = n
  · subst ht
    rw [if_pos ((le_n (by omega) (by omega)).mpr (Nat.le_refl _)), if_pos rfl]
    exact ⟨0, x, y, t, rfl, rfl, h, Or.inl ⟨rfl, rfl⟩⟩
  have htn : t < n := by omega
  rw [if_neg (le_f (by omega) (by omega) htn), if_neg (fun q => ht ((eq_n (by omega) (by omega)).mp q)), if_neg (fun q => by have := (le_n (a := 80) (by decide) (show t < 2 ^ 31 by omega)).mp q; omega), gd_n (show t < 80 by omega) (by decide), gd_n (show t < 80 by omega) (by decide), tn (show t < 2 ^ 31 by omega), h6 t htn, n1]
  by_cases hc : y 148 0 0 t = ch
  · rw [if_pos hc, if_pos hc, e_lt, e_lt]
    exact ⟨1, _, _, t + 1, rfl, rfl, h.at htn, Or.inr ⟨rfl, rfl⟩⟩
  · rw [if_neg hc, if_neg hc]
    exact ⟨0, x, y, t, rfl, rfl, h, Or.inl ⟨rfl, rfl⟩⟩
theorem dsub : ∀ m, m < 58 → ¬ Int32.ofNat m < 48 → Int32.ofNat m - 48 = Int32.ofNat (m - 48) := by decide +kernel
theorem dlow : ∀ m, m < 48 → Int32.ofNat m < 48 := by decide +kernel
theorem digit_sim {n j t : Nat} {x0 y0 x y : Mem} {v w : Nat → Int32} {kd : Int32} (h : RdS n j x0 y0 t v w kd x y) : ∃ (b : Int32) (x' y' : Mem) (t' : Nat), m_X3_takeDigit x = some (b, x') ∧ m_X12_takes y = some (b, y') ∧ RdS n j x0 y0 t' v w kd x' y' ∧ ((b = 0 ∧ t' = t) ∨ (b = 1 ∧ t' = t + 1 ∧ ∃ d : Nat, d ≤ 9 ∧ x' 22 0 0 4 = Int32.ofNat d ∧ y' 40 0 0 54 = Int32.ofNat d)) := by
  obtain ⟨⟨q0, q1, q2⟩, h1, h2, h3, h4, h5, h6, -⟩ := id h
  unfold m_X3_takeDigit m_X12_takes
  rw [h3, h1, h4, h2, if_neg (ge0 (by omega))]
  by_cases ht : t = n
  · subst ht
    rw [if_pos ((le_n (by omega) (by omega)).mpr (Nat.le_refl _)), if_pos rfl]
    exact ⟨0, x, y, t, rfl, rfl, h, Or.inl ⟨rfl, rfl⟩⟩
  have htn : t < n := by omega
  rw [if_neg (le_f (by omega) (by omega) htn), if_neg (fun q => ht ((eq_n (by omega) (by omega)).mp q)), if_neg (fun q => by have := (le_n (a := 80) (by decide) (show t < 2 ^ 31 by omega)).mp q; omega), gd_n (show t < 80 by omega) (by decide), gd_n (show t < 80 by omega) (by decide), tn (show t < 2 ^ 31 by omega), h6 t htn]
  generalize y 148 0 0 t = L
  by_cases c1 : L < 48
  · rw [if_pos c1, ib_out (Or.inl c1), e_bd, if_pos rfl]
    exact ⟨0, x, y, t, rfl, rfl, h, Or.inl ⟨rfl, rfl⟩⟩
  rw [if_neg c1]
  by_cases c2 : (57 : Int32) < L
  · rw [if_neg (fun q => Int32.not_lt.mpr q c2), ib_out (Or.inr c2), e_bd, if_pos rfl]
    exact ⟨0, x, y, t, rfl, rfl, h, Or.inl ⟨rfl, rfl⟩⟩
  rw [if_pos (Int32.not_lt.mp c2), ib_in (fun q => q.elim c1 c2), e_bd, if_neg no1, e_lt, e_lt, e_lt, e_lt]
  have c0 : ¬ L < 0 := fun q => c1 (Int32.lt_trans q (by decide))
  obtain ⟨m, hm, rfl⟩ := ex_n (n := 57) c0 c2 (by decide)
  rw [dsub m (by omega) c1]
  have e3 : up4 x 22 0 0 4 (Int32.ofNat (m - 48)) 22 0 0 3 = Int32.ofNat t := by rw [up4_ne (by omega)]; exact h3
  have e4 : up4 y 40 0 0 54 (Int32.ofNat (m - 48)) 40 0 0 52 = Int32.ofNat t := by rw [up4_ne (by omega)]; exact h4
  rw [e3, e4, n1]
  refine ⟨1, _, _, t + 1, rfl, rfl, h.dig.at htn, Or.inr ⟨rfl, rfl, m - 48, by omega, ?_, ?_⟩⟩
  · rw [up4_ne (by omega), up4_eq]
  · rw [up4_ne (by omega), up4_eq]
theorem six {j g : Nat} : (6 : Int32) * Int32.ofNat j + Int32.ofNat g = Int32.ofNat (6 * j + g) := by
  rw [Int32.ofNat_add, Int32.ofNat_mul]
  rfl
theorem six0 {j : Nat} : (6 : Int32) * Int32.ofNat j = Int32.ofNat (6 * j) := by
  rw [Int32.ofNat_mul]
  rfl
/-- a digit that is kept in the field f of the class's command and in the place g of the reference's -/
theorem at_sim {n j t g : Nat} {x0 y0 x y : Mem} {v w : Nat → Int32} {kd : Int32} (f : Nat) (hg : g < 6) (h : RdS n j x0 y0 t v w kd x y) : ∃ (b : Int32) (x' y' : Mem) (t' : Nat), m_X3_takeDigit x = some (b, x') ∧ m_X12_takesAt (Int32.ofNat g) y = some (b, y') ∧ ((b = 0 ∧ RdS n j x0 y0 t' v w kd x' y') ∨ (b = 1 ∧ t' = t + 1 ∧ ∃ d : Nat, d ≤ 9 ∧ x' 22 0 0 4 = Int32.ofNat d ∧ RdS n j x0 y0 t' (wUpd v f (Int32.ofNat d)) (wUpd w g (Int32.ofNat d)) kd (up4 x' 25 0 j f (Int32.ofNat d)) y')) := by
  obtain ⟨b, x1, y1, t1, e1, e2, h1, hb⟩ := digit_sim h
  rcases hb with ⟨rfl, rfl⟩ | ⟨rfl, rfl, d, hd, d1, d2⟩
  · refine ⟨0, x1, y1, t1, e1, ?_, Or.inl ⟨rfl, h1⟩⟩
    unfold m_X12_takesAt
    rw [e2, e_bd2, if_pos rfl]
  · refine ⟨1, x1, up4 y1 150 0 0 (6 * j + g) (Int32.ofNat d), t + 1, e1, ?_, Or.inr ⟨rfl, rfl, d, hd, d1, (h1.vx).wy hg⟩⟩
    obtain ⟨⟨q0, q1, q2⟩, -, -, -, -, h5, -⟩ := h1
    unfold m_X12_takesAt
    rw [e2, e_bd2, if_neg no1, h5, six, gd_n (show 6 * j + g < 240 by omega) (by decide), tn (by omega), d2, e_lt]
