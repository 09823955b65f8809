theorem on_f {v : Int32} {d : Nat} (h : ¬ v = Int32.ofNat d) : one (v = Int32.ofNat d) = 0 := if_neg h
theorem on_t {v : Int32} {d : Nat} (h : v = Int32.ofNat d) : one (v = Int32.ofNat d) = 1 := if_pos h
theorem bufne {b d : Nat} (hb : b < 3) (hd : d < 3) (h : d ≠ b) : ¬ Int32.ofNat b = Int32.ofNat d := fun e => h ((eq_n (by omega) (by omega)).mp e).symm
theorem neg1 {d : Nat} (hd : d < 3) : ¬ (-1 : Int32) = Int32.ofNat d := fun e => by
  have h9 := ge0 (show d < 2 ^ 31 by omega)
  rw [← e] at h9
  exact h9 lt0_neg
theorem sub0 (v : Int32) : v - Int32.ofNat 0 = v := Int32.sub_zero v
theorem pt1 {c : Fin 10} {N : Nat} {x0 y0 x y : Mem} {p : Nat → Int32} (h : Ins c N x0 y0 p x y) {a j : Nat} {tm w37 w39 : Int32} (hv : BufOk (y 127 0 0 j)) (hs : ∀ d, d < 3 → ∃ n : Nat, y 104 0 0 d = Int32.ofNat n ∧ n ≤ 4 ∧ (y 127 0 0 j = Int32.ofNat d → 1 ≤ n) ∧ ∀ k, k < n → ∃ m : Nat, m < 2 ^ 31 ∧ y 105 0 0 (4 * d + k) = Int32.ofNat m) : ∃ pv x1 y1, (∀ k : Int32 → Mem → Option Mem, (if y 127 0 0 j = -1 then k (-1) x else (bd_ (m_X1_storeAt c (y 127 0 0 j)) fun r4 => bd2_ (m_X9_takeFirst r4 x) fun r6 x7 => lt_ r6 fun x2_8 => lt_ (up4 x7 9 ↑r4.1 ↑r4.2 3 ((x7 9 ↑r4.1 ↑r4.2 3) - (1 : Int32))) fun x9 => k x2_8 x9)) = k pv x1) ∧ (∀ k : Int32 → Mem → Option Mem, (if y 127 0 0 j < 0 then k (-1) (GJ a j tm w37 w39 y) else (bd2_ (m_X12_firstPartOf (y 127 0 0 j) (GJ a j tm w37 w39 y)) fun r19 y20 => k r19 y20)) = k pv (GJ a j tm w37 w39 y1)) ∧ Ins c N x0 y0 p x1 y1 ∧ ((y 127 0 0 j = -1 ∧ pv = -1) ∨ (¬ y 127 0 0 j = -1 ∧ ∃ m : Nat, m < 2 ^ 31 ∧ pv = Int32.ofNat m)) ∧ (∀ k d i s, ¬ (9 ≤ k ∧ k ≤ 10) → x1 k d i s = x k d i s) ∧ (∀ k d i s, ¬ (104 ≤ k ∧ k ≤ 109 ∧ k ≠ 106 ∧ k ≠ 108) → y1 k d i s = y k d i s) ∧ (∀ d, d < 3 → ∀ n : Nat, y 104 0 0 d = Int32.ofNat n → n ≤ 4 → y1 104 0 0 d = Int32.ofNat (n - one (y 127 0 0 j = Int32.ofNat d)) ∧ y1 107 0 0 d = y 107 0 0 d - Int32.ofNat (one (y 127 0 0 j = Int32.ofNat d)) ∧ ∀ k, k < n - one (y 127 0 0 j = Int32.ofNat d) → y1 105 0 0 (4 * d + k) = y 105 0 0 (4 * d + (k + one (y 127 0 0 j = Int32.ofNat d)))) := by
  generalize hV : y 127 0 0 j = v at *
  rcases buf_neg hv with ⟨e, q⟩ | ⟨b, hb, e, q, q2⟩
  · refine ⟨-1, x, y, fun k => by rw [if_pos e], fun k => by rw [if_pos q], h, Or.inl ⟨e, rfl⟩, fun _ _ _ _ _ => rfl, fun _ _ _ _ _ => rfl, fun d hd n e1 e2 => ?_⟩
    rw [on_f (by rw [e]; exact neg1 hd), sub0]
    exact ⟨e1, rfl, fun k _ => rfl⟩
  · obtain ⟨n, n1', n2, n3, n4⟩ := hs b hb
    obtain ⟨r, rfl⟩ : ∃ r, n = r + 1 := ⟨n - 1, by have := n3 e; omega⟩
    have h4 : ∀ d, d < 3 → (y 104 0 0 d).toNatClampNeg ≤ 4 := fun d hd => by
      obtain ⟨m, m1, m2, -⟩ := hs d hd
      rw [m1, tn (by omega)]
      exact m2
    obtain ⟨-, g2, -, g4, -, g6, g7⟩ := h.1.2.2.2.2.1 b hb
    have x1 : x 9 c b 1 = Int32.ofNat (r + 1) := g2.trans ((ov_ne (by decide)).trans n1')
    have x10 : x 10 c b 0 = y 105 0 0 (4 * b) := by
      rw [g7 0 (by rw [ov_ne (by decide), show V y 104 b = Int32.ofNat (r + 1) from n1', tn (by omega)]; omega), ov_ne (by decide)]
      rfl
    have ht := h.tak (b := b) (r := r) (by omega) hb n1' h4 rfl rfl
    refine ⟨y 105 0 0 (4 * b), _, tkY y b r, fun k => ?_, fun k => ?_, ht, Or.inr ⟨q2, ?_⟩, fun k d i s w => by rw [up4_ne (by omega), up4_ne (by omega), up4_ne (by omega), bk_out (by omega)], fun k d i s w => by unfold tkY; rw [up4_ne (by omega), up4_ne (by omega), blk_out (by omega), up4_ne (by omega)], fun d hd m e1 e2 => ?_⟩
    · rw [if_neg q2, e, sto_at hb, e_bd, tak_x hb x1 (by omega), e_bd2, e_lt]
      simp only [f4 hb]
      rw [e_lt, up4_ne (k' := 9) (s' := 3) (by omega), up4_ne (k' := 9) (s' := 3) (by omega), bk_out (k' := 9) (s := 3) (by omega), x10]
    · rw [if_neg q, e, tak_y hb ((GJ_p (by unfold PK; omega)).trans n1') (by omega), e_bd2, GJ_tk, GJ_p (by unfold PK; omega)]
    · obtain ⟨m, m1, m2⟩ := n4 0 (by omega)
      exact ⟨m, m1, m2⟩
    · by_cases w : d = b
      · subst w
        have hm : m = r + 1 := (eq_n (by omega) (by omega)).mp (e1.symm.trans n1')
        subst hm
        rw [on_t e]
        unfold tkY
        refine ⟨by rw [up4_ne (by omega), up4_ne (by omega), blk_out (by omega), up4_eq]; rfl, by rw [up4_ne (by omega), up4_eq]; rfl, fun k hk => ?_⟩
        rw [up4_ne (by omega), up4_ne (by omega), blk_in (by omega) (by omega), Nat.add_sub_cancel_left]
      · rw [on_f (by rw [e]; exact bufne hb hd w), sub0]
        unfold tkY
        refine ⟨by rw [up4_ne (by omega), up4_ne (by omega), blk_out (by omega), up4_ne (by omega)]; exact e1, by rw [up4_ne (by omega), up4_ne (by omega), blk_out (by omega), up4_ne (by omega)], fun k hk => ?_⟩
        rw [up4_ne (by omega), up4_ne (by omega), blk_out (by omega), up4_ne (by omega), Nat.add_zero]
theorem pt2 {c : Fin 10} {N : Nat} {x0 y0 x y : Mem} {p : Nat → Int32} (h : Ins c N x0 y0 p x y) {a j : Nat} {tm w37 w39 pv : Int32} (h30 : j < 30) (ha : a < 3) (e5 : x 12 c j 5 = y 127 0 0 j) (e6 : x 12 c j 6 = y 128 0 0 j) (hv : BufOk (y 128 0 0 j)) (hs : ∀ d, d < 3 → ∃ n : Nat, y 104 0 0 d = Int32.ofNat n ∧ n ≤ 4 ∧ (y 128 0 0 j = Int32.ofNat d → n < 4)) (hpv : (y 127 0 0 j = -1 ∧ pv = -1) ∨ (¬ y 127 0 0 j = -1 ∧ ∃ m : Nat, m < 2 ^ 31 ∧ pv = Int32.ofNat m)) (hN : N < 2 ^ 30) : ∃ x2 y2, m_X1_moveParts_j34 c (c, Fin.ofNat 31 j) pv x = some x2 ∧ m_X12_ends_j116 (Int32.ofNat a) (Int32.ofNat j) pv (GJ a j tm w37 w39 y) = some (GJ a j tm w37 w39 y2) ∧ Ins c (N + 1) x0 y0 p x2 y2 ∧ (∀ k d i s, ¬ (9 ≤ k ∧ k ≤ 10) → ¬ (k = 2 ∧ (s = 4 ∨ s = 5)) → x2 k d i s = x k d i s) ∧ (∀ k d i s, ¬ (104 ≤ k ∧ k ≤ 108 ∧ k ≠ 107) → ¬ (k = 40 ∧ 35 ≤ s ∧ s ≤ 36) → y2 k d i s = y k d i s) ∧ (∀ d, d < 3 → ∀ n : Nat, y 104 0 0 d = Int32.ofNat n → n ≤ 4 → y2 104 0 0 d = Int32.ofNat (n + one (y 128 0 0 j = Int32.ofNat d)) ∧ y2 106 0 0 d = y 106 0 0 d - Int32.ofNat (one (y 128 0 0 j = Int32.ofNat d)) ∧ (∀ k, k < n → y2 105 0 0 (4 * d + k) = y 105 0 0 (4 * d + k)) ∧ (y 128 0 0 j = Int32.ofNat d → ∃ m : Nat, m < 2 ^ 31 ∧ y2 105 0 0 (4 * d + n) = Int32.ofNat m)) := by
  have g128 : GJ a j tm w37 w39 y 128 0 0 j = y 128 0 0 j := GJ_o (by omega)
  have h4 : ∀ d, d < 3 → (y 104 0 0 d).toNatClampNeg ≤ 4 := fun d hd => by
    obtain ⟨m, m1, m2, -⟩ := hs d hd
    rw [m1, tn (by omega)]
    exact m2
  unfold m_X1_moveParts_j34 m_X12_ends_j116
  simp only [f31 h30]
  rw [e5, e6, e_lt pv, gd_n h30 (by decide), tn (show j < 2 ^ 31 by omega), g128]
  generalize hV : y 128 0 0 j = v at *
  rcases buf_neg hv with ⟨e, q⟩ | ⟨b, hb, e, q, q2⟩
  · have hno : ¬ (0 : Int32) ≤ v := Int32.not_le.mpr q
    rw [if_pos e, if_neg hno]
    rcases hpv with ⟨w1, w2⟩ | ⟨w1, m, w2, w3⟩
    · rw [if_pos w1, if_pos (by rw [w2]; exact lt0_neg)]
      refine ⟨x, y, rfl, ?_, h.mono (Nat.le_succ _), fun _ _ _ _ _ _ => rfl, fun _ _ _ _ _ _ => rfl, fun d hd n e1 e2 => ?_⟩
      · unfold m_X12_ends_j140
        rw [e_lt, Int32.add_zero, up4_self]
      · rw [on_f (by rw [e]; exact neg1 hd), sub0]
        exact ⟨e1, rfl, fun _ _ => rfl, fun w => absurd w (by rw [e]; exact neg1 hd)⟩
    · rw [if_neg w1, if_neg (by rw [w3]; exact ge0 w2)]
      have e25 : x 2 c 0 5 = y 40 0 0 36 := h.1.1.2.2.2.2.2.1.trans (ov_ne (by decide))
      refine ⟨up4 x 2 c 0 5 (y 40 0 0 36 + 1), up4 y 40 0 0 36 (y 40 0 0 36 + 1), ?_, ?_, (h.sca (by omega)).mono (Nat.le_succ _), fun k d i s u1 u2 => up4_ne (by omega), fun k d i s u1 u2 => up4_ne (by omega), fun d hd n e1 e2 => ?_⟩
      · rw [e_lt, e25]
      · unfold m_X12_ends_j140
        rw [e_lt, GJ_up (by unfold PK; omega), GJ_p (by unfold PK; omega)]
      · rw [on_f (by rw [e]; exact neg1 hd), sub0, up4_ne (k' := 104) (by omega), up4_ne (k' := 106) (by omega)]
        exact ⟨e1, rfl, fun k _ => up4_ne (by omega), fun w => absurd w (by rw [e]; exact neg1 hd)⟩
  · have hyes : (0 : Int32) ≤ v := Int32.not_lt.mp q
    obtain ⟨n, n1', n2, n3⟩ := hs b hb
    have n4 := n3 e
    have e92 : x 9 c b 2 = y 106 0 0 b := (h.1.2.2.2.2.1 b hb).2.2.1.trans (ov_ne (by decide))
    have h1 : Ins c N x0 y0 p (up4 x 9 c b 2 (y 106 0 0 b - 1)) (up4 y 106 0 0 b (y 106 0 0 b - 1)) := h.sto (by omega)
    rw [if_neg q2, e, sto_at hb, e_bd]
    simp only [f4 hb]
    rw [e_lt, e92, up4_ne (k' := 12) (by omega), e5, if_pos (show (0 : Int32) ≤ Int32.ofNat b by rw [← e]; exact hyes)]
    unfold m_X1_moveParts_j78 m_X12_ends_j164
    -- the reference's end, with the part v9, from the state u
    have refe : ∀ (u : Mem) (v9 : Int32), u 128 0 0 j = Int32.ofNat b → u 104 0 0 b = Int32.ofNat n → (gd_ (Int32.ofNat j) 30 (lt_ (GJ a j tm w37 w39 u 128 0 0 (Int32.ofNat j).toNatClampNeg) fun z29 => gd_ z29 3 (lt_ (up4 (GJ a j tm w37 w39 u) 106 0 0 z29.toNatClampNeg ((GJ a j tm w37 w39 u 106 0 0 z29.toNatClampNeg) - (1 : Int32))) fun y31 => bd_ (m_X12_comesPart (y31 128 0 0 (Int32.ofNat j).toNatClampNeg) v9 y31) fun y34 => some y34))) = some (GJ a j tm w37 w39 (up4 (up4 (up4 (up4 u 106 0 0 b (u 106 0 0 b - 1)) 105 0 0 (4 * b + n) v9) 104 0 0 b (Int32.ofNat (n + 1))) 108 0 0 b (u 108 0 0 b + 1))) := by
      intro u v9 u1 u2
      have g1 : GJ a j tm w37 w39 u 128 0 0 j = Int32.ofNat b := (GJ_o (by omega)).trans u1
      rw [gd_n h30 (by decide), tn (show j < 2 ^ 31 by omega), g1, e_lt, gd_n hb (by decide), e_lt, tn (show b < 2 ^ 31 by omega), up4_ne (k' := 128) (by omega), g1, put_y hb (by rw [up4_ne (by omega)]; exact (GJ_p (by unfold PK; omega)).trans u2) n4, e_bd, up4_ne (k' := 108) (by omega), GJ_p (K := 108) (by unfold PK; omega), GJ_p (K := 106) (by unfold PK; omega), GJ_up (by unfold PK; omega), GJ_up (by unfold PK; omega), GJ_up (by unfold PK; omega), GJ_up (by unfold PK; omega)]
    have facts : ∀ (u : Mem) (v9 : Int32), (∃ m : Nat, m < 2 ^ 31 ∧ v9 = Int32.ofNat m) → (∀ k d i s, ¬ (k = 40 ∧ 35 ≤ s ∧ s ≤ 36) → u k d i s = y k d i s) → (∀ d, d < 3 → ∀ n' : Nat, y 104 0 0 d = Int32.ofNat n' → n' ≤ 4 → up4 (up4 (up4 (up4 u 106 0 0 b (u 106 0 0 b - 1)) 105 0 0 (4 * b + n) v9) 104 0 0 b (Int32.ofNat (n + 1))) 108 0 0 b (u 108 0 0 b + 1) 104 0 0 d = Int32.ofNat (n' + one (Int32.ofNat b = Int32.ofNat d)) ∧ up4 (up4 (up4 (up4 u 106 0 0 b (u 106 0 0 b - 1)) 105 0 0 (4 * b + n) v9) 104 0 0 b (Int32.ofNat (n + 1))) 108 0 0 b (u 108 0 0 b + 1) 106 0 0 d = y 106 0 0 d - Int32.ofNat (one (Int32.ofNat b = Int32.ofNat d)) ∧ (∀ k, k < n' → up4 (up4 (up4 (up4 u 106 0 0 b (u 106 0 0 b - 1)) 105 0 0 (4 * b + n) v9) 104 0 0 b (Int32.ofNat (n + 1))) 108 0 0 b (u 108 0 0 b + 1) 105 0 0 (4 * d + k) = y 105 0 0 (4 * d + k)) ∧ (Int32.ofNat b = Int32.ofNat d → ∃ m : Nat, m < 2 ^ 31 ∧ up4 (up4 (up4 (up4 u 106 0 0 b (u 106 0 0 b - 1)) 105 0 0 (4 * b + n) v9) 104 0 0 b (Int32.ofNat (n + 1))) 108 0 0 b (u 108 0 0 b + 1) 105 0 0 (4 * d + n') = Int32.ofNat m)) := by
      intro u v9 hm hu d hd n' e1 e2
      by_cases w : d = b
      · subst w
        have hn : n' = n := (eq_n (by omega) (by omega)).mp (e1.symm.trans n1')
        subst hn
        rw [on_t rfl]
        refine ⟨by rw [up4_ne (by omega), up4_eq], by rw [up4_ne (by omega), up4_ne (by omega), up4_ne (by omega), up4_eq, hu _ _ _ _ (by omega)]; rfl, fun k hk => by rw [up4_ne (by omega), up4_ne (by omega), up4_ne (by omega), up4_ne (by omega), hu _ _ _ _ (by omega)], fun _ => ?_⟩
        rw [up4_ne (by omega), up4_ne (by omega), up4_eq]
        exact hm
      · rw [on_f (bufne hb hd w), sub0]
        refine ⟨by rw [up4_ne (by omega), up4_ne (by omega), up4_ne (by omega), up4_ne (by omega), hu _ _ _ _ (by omega)]; exact e1, by rw [up4_ne (by omega), up4_ne (by omega), up4_ne (by omega), up4_ne (by omega), hu _ _ _ _ (by omega)], fun k hk => by rw [up4_ne (by omega), up4_ne (by omega), up4_ne (by omega), up4_ne (by omega), hu _ _ _ _ (by omega)], fun w2 => absurd w2 (bufne hb hd w)⟩
    rcases hpv with ⟨w1, w2⟩ | ⟨w1, m, w2, w3⟩
    · have hle : ¬ (0 : Int32) ≤ pv := by rw [w2]; decide
      rw [if_pos w1, if_neg hle]
      unfold m_X1_makePart
      obtain ⟨P, hP, eP⟩ := h.1.2.2.1.1
      have eP' : y 40 0 0 35 = Int32.ofNat P := eP
      have e24 : x 2 c 0 4 = y 40 0 0 35 := h.1.1.2.2.2.2.1.trans (ov_ne (by decide))
      have h2 := h1.np
      have e35 : up4 y 106 0 0 b (y 106 0 0 b - 1) 40 0 0 35 = y 40 0 0 35 := up4_ne (by omega)
      rw [e35] at h2
      obtain ⟨x2, q1, q3, q4⟩ := h2.put (c := c) hb n4 (by rw [up4_ne (by omega), up4_ne (by omega)]; exact n1') (fun d hd => by rw [up4_ne (by omega), up4_ne (by omega)]; exact h4 d hd) (y 40 0 0 35)
      rw [up4_ne (k' := 108) (by omega), up4_ne (k' := 108) (by omega), up4_comm (k := 106) (k1 := 40) (by omega)] at q3
      have hr := refe (up4 y 40 0 0 35 (y 40 0 0 35 + 1)) (y 40 0 0 35) (by rw [up4_ne (by omega)]; exact hV.trans e) (by rw [up4_ne (by omega)]; exact n1')
      have hf := facts (up4 y 40 0 0 35 (y 40 0 0 35 + 1)) (y 40 0 0 35) ⟨P, by omega, eP'⟩ (fun k d i s u1 => up4_ne (by omega))
      rw [up4_ne (k' := 106) (by omega), up4_ne (k' := 108) (by omega)] at hr hf
      refine ⟨x2, _, ?_, ?_, q3, fun k d i s u1 u2 => ?_, fun k d i s u1 u2 => by rw [up4_ne (by omega), up4_ne (by omega), up4_ne (by omega), up4_ne (by omega), up4_ne (by omega)], hf⟩
      · rw [e_lt, e_lt, e_bd2, up4_ne (k' := 2) (by omega), e24, q1, e_bd]
      · rw [e_lt, e_lt, GJ_p (K := 40) (s := 35) (by unfold PK; omega), ← GJ_up (by unfold PK; omega)]
        exact hr
      · rw [q4 _ _ _ _ (by omega), up4_ne (by omega), up4_ne (by omega)]
    · have hle : (0 : Int32) ≤ pv := by rw [w3]; exact (le_n (a := 0) (by decide) w2).mpr (Nat.zero_le _)
      rw [if_neg w1, if_pos hle]
      obtain ⟨x2, q1, q3, q4⟩ := h1.put (c := c) hb n4 (by rw [up4_ne (by omega)]; exact n1') (fun d hd => by rw [up4_ne (by omega)]; exact h4 d hd) pv
      rw [up4_ne (k' := 108) (by omega)] at q3
      refine ⟨x2, _, by rw [q1, e_bd], refe y pv (hV.trans e) n1', q3.mono (Nat.le_succ _), fun k d i s u1 u2 => by rw [q4 _ _ _ _ (by omega), up4_ne (by omega)], fun k d i s u1 u2 => by rw [up4_ne (by omega), up4_ne (by omega), up4_ne (by omega), up4_ne (by omega)], facts y pv ⟨m, w2, w3⟩ (fun _ _ _ _ _ => rfl)⟩
