/-! THE LOG -/
def nE (y : Mem) (q : Nat) (a k z : Int32) (m : Int32) : Mem := up4 (up4 (up4 (up4 (up4 y 132 0 0 q (y 40 0 0 33)) 132 0 0 (q + 1) a) 132 0 0 (q + 2) k) 132 0 0 (q + 3) z) 40 0 0 40 m
/-- what notes of the reference does -/
def nY (y : Mem) (m : Nat) (a k z : Int32) : Mem := if m = 24 then nE (blk (up4 y 40 0 0 40 23) 132 0 92 (fun s => y 132 0 0 (s + 4))) 92 a k z 24 else nE y (4 * m) a k z (Int32.ofNat (m + 1))
theorem nE_up {y : Mem} {q K s : Nat} {a k z m v : Int32} (h1 : K ≠ 132) (h2 : K ≠ 40) : nE (up4 y K 0 0 s v) q a k z m = up4 (nE y q a k z m) K 0 0 s v := by
  unfold nE
  rw [up4_ne (by omega), up4_comm (k := K) (by omega), up4_comm (k := K) (by omega), up4_comm (k := K) (by omega), up4_comm (k := K) (by omega), up4_comm (k := K) (by omega)]
theorem nY_up {y : Mem} {M K s : Nat} {a k z v : Int32} (h1 : K ≠ 132) (h2 : K ≠ 40) : nY (up4 y K 0 0 s v) M a k z = up4 (nY y M a k z) K 0 0 s v := by
  unfold nY
  by_cases h : M = 24
  · rw [if_pos h, if_pos h, up4_comm (k := K) (by omega), blk_up (by omega), show (fun s_1 => up4 y K 0 0 s v 132 0 0 (s_1 + 4)) = (fun s_1 => y 132 0 0 (s_1 + 4)) from funext fun t => up4_ne (by omega), nE_up h1 h2]
  · rw [if_neg h, if_neg h, nE_up h1 h2]
theorem nE_o {y : Mem} {q : Nat} {a k z m : Int32} {K c i s : Nat} (h : ¬ (K = 132) ∧ ¬ (K = 40 ∧ s = 40)) : nE y q a k z m K c i s = y K c i s := by
  unfold nE
  rw [up4_ne (by omega), up4_ne (by omega), up4_ne (by omega), up4_ne (by omega), up4_ne (by omega)]
theorem nY_o {y : Mem} {M : Nat} {a k z : Int32} {K c i s : Nat} (h : ¬ (K = 132) ∧ ¬ (K = 40 ∧ s = 40)) : nY y M a k z K c i s = y K c i s := by
  unfold nY
  by_cases e : M = 24
  · rw [if_pos e, nE_o h, blk_out (by omega), up4_ne (by omega)]
  · rw [if_neg e, nE_o h]
theorem nt_j55 {y : Mem} {a k z : Int32} {m : Nat} (e : y 40 0 0 40 = Int32.ofNat m) (hm : m < 24) : m_X12_notes_j55 a k z y = some (nE y (4 * m) a k z (Int32.ofNat (m + 1))) := by
  unfold m_X12_notes_j55 nE
  rw [e_lt, e, show (4 : Int32) * Int32.ofNat m = Int32.ofNat (4 * m) by rw [Int32.ofNat_mul]; rfl, show Int32.ofNat (4 * m) + 1 = Int32.ofNat (4 * m + 1) from n1, show Int32.ofNat (4 * m) + 2 = Int32.ofNat (4 * m + 2) by rw [Int32.ofNat_add]; rfl, show Int32.ofNat (4 * m) + 3 = Int32.ofNat (4 * m + 3) by rw [Int32.ofNat_add]; rfl, gd_n (show 4 * m < 96 by omega) (by decide), e_lt, gd_n (show 4 * m + 1 < 96 by omega) (by decide), e_lt, gd_n (show 4 * m + 2 < 96 by omega) (by decide), e_lt, gd_n (show 4 * m + 3 < 96 by omega) (by decide), e_lt, e_lt, tn (show 4 * m < 2 ^ 31 by omega), tn (show 4 * m + 1 < 2 ^ 31 by omega), tn (show 4 * m + 2 < 2 ^ 31 by omega), tn (show 4 * m + 3 < 2 ^ 31 by omega), up4_ne (k' := 40) (by omega), up4_ne (k' := 40) (by omega), up4_ne (k' := 40) (by omega), up4_ne (k' := 40) (by omega), e, n1]
theorem nt_loop {y : Mem} {a k z : Int32} (e : y 40 0 0 40 = 23) : ∀ (n t : Nat), t ≤ 92 → 92 < t + n → m_X12_notes_l22 a k z n (Int32.ofNat t) (blk y 132 0 t (fun s => y 132 0 0 (s + 4))) = some (nE (blk y 132 0 92 (fun s => y 132 0 0 (s + 4))) 92 a k z 24) := by
  intro n
  induction n with
  | zero => intro t h1 h2; omega
  | succ n ih =>
    intro t h1 h2
    show m_X12_notes_b22 a k z (m_X12_notes_l22 a k z n) _ _ = _
    unfold m_X12_notes_b22
    have e4 : blk y 132 0 t (fun s => y 132 0 0 (s + 4)) 40 0 0 40 = Int32.ofNat 23 := by rw [blk_out (by omega)]; exact e
    by_cases ht : t = 92
    · subst ht
      rw [e4, if_pos (by decide)]
      exact nt_j55 (m := 23) e4 (by decide)
    rw [e4, show (4 : Int32) * Int32.ofNat 23 = Int32.ofNat 92 from rfl, if_neg (le_f (by decide) (by omega) (by omega)), show Int32.ofNat t + 4 = Int32.ofNat (t + 4) by rw [Int32.ofNat_add]; rfl, gd_n (show t + 4 < 96 by omega) (by decide), gd_n (show t < 96 by omega) (by decide), e_lt, e_lt, n1, tn (show t < 2 ^ 31 by omega), tn (show t + 4 < 2 ^ 31 by omega), blk_out (k' := 132) (s := t + 4) (by omega)]
    have hb := blk_succ (y := y) (k := 132) (lo := 0) (n := t) (f := fun s => y 132 0 0 (s + 4))
    rw [Nat.zero_add] at hb
    rw [hb]
    exact ih (t + 1) (by omega) (by omega)
theorem nt_n {y : Mem} {a k z : Int32} {m : Nat} (e : y 40 0 0 40 = Int32.ofNat m) (hm : m ≤ 24) : m_X12_notes a k z y = some (nY y m a k z) := by
  unfold m_X12_notes nY
  by_cases h : m = 24
  · subst h
    rw [if_pos (show y 40 0 0 40 = 24 from e), if_pos rfl, e_lt, e_lt, e, show Int32.ofNat 24 - 1 = (23 : Int32) from rfl, z0]
    have hl := nt_loop (y := up4 y 40 0 0 40 23) (a := a) (k := k) (z := z) up4_eq FU 0 (Nat.zero_le _) (by unfold FU; omega)
    rw [blk_0] at hl
    refine Eq.trans hl ?_
    rw [show (fun s => up4 y 40 0 0 40 23 132 0 0 (s + 4)) = (fun s => y 132 0 0 (s + 4)) from funext fun t => up4_ne (by omega)]
  · rw [if_neg (by rw [e, show (24 : Int32) = Int32.ofNat 24 from rfl, eq_n (by omega) (by decide)]; exact h), if_neg h]
    exact nt_j55 e (by omega)
def aX (x : Mem) (c M : Nat) (t a k z : Int32) : Mem := up4 (up4 (up4 (up4 (up4 x 7 c 0 (4 * (M % 24)) t) 7 c 0 (4 * (M % 24) + 1) a) 7 c 0 (4 * (M % 24) + 2) k) 7 c 0 (4 * (M % 24) + 3) z) 6 c 0 0 (Int32.ofNat (M + 1))
theorem ad_n {x : Mem} {c : Fin 10} {M : Nat} {t a k z : Int32} (e : x 6 c 0 0 = Int32.ofNat M) (hM : M < 2 ^ 30) : m_X7_add c t a k z x = some (aX x c M t a k z) := by
  unfold m_X7_add aX
  have hr : M % 24 < 24 := Nat.mod_lt _ (by decide)
  rw [e_lt, e, show (24 : Int32) = Int32.ofNat 24 from rfl, rem_n (by omega) (by decide), show Int32.ofNat (M % 24) * (4 : Int32) = Int32.ofNat (4 * (M % 24)) by rw [Nat.mul_comm, Int32.ofNat_mul]; rfl, if_neg (ge0 (by omega)), show Int32.ofNat (4 * (M % 24)) + 3 = Int32.ofNat (4 * (M % 24) + 3) by rw [Int32.ofNat_add]; rfl, if_neg (show ¬ (96 : Int32) ≤ Int32.ofNat (4 * (M % 24) + 3) from le_f (a := 96) (by decide) (by omega) (by omega)), show Int32.ofNat (4 * (M % 24)) + 1 = Int32.ofNat (4 * (M % 24) + 1) from n1, show Int32.ofNat (4 * (M % 24)) + 2 = Int32.ofNat (4 * (M % 24) + 2) by rw [Int32.ofNat_add]; rfl, gd_n (show 4 * (M % 24) < 96 by omega) (by decide), e_lt, gd_n (show 4 * (M % 24) + 1 < 96 by omega) (by decide), e_lt, gd_n (show 4 * (M % 24) + 2 < 96 by omega) (by decide), e_lt, gd_n (show 4 * (M % 24) + 3 < 96 by omega) (by decide), e_lt, e_lt, tn (show 4 * (M % 24) < 2 ^ 31 by omega), tn (show 4 * (M % 24) + 1 < 2 ^ 31 by omega), tn (show 4 * (M % 24) + 2 < 2 ^ 31 by omega), tn (show 4 * (M % 24) + 3 < 2 ^ 31 by omega), up4_ne (k' := 6) (by omega), up4_ne (k' := 6) (by omega), up4_ne (k' := 6) (by omega), up4_ne (k' := 6) (by omega), e, n1]
theorem aX_o {x : Mem} {c M : Nat} {t a k z : Int32} {K d i s : Nat} (h : ¬ ((K = 6 ∨ K = 7) ∧ d = c)) : aX x c M t a k z K d i s = x K d i s := by
  unfold aX
  rw [up4_ne (by omega), up4_ne (by omega), up4_ne (by omega), up4_ne (by omega), up4_ne (by omega)]
def pick (t a k z : Int32) : Nat → Int32
  | 0 => t
  | 1 => a
  | 2 => k
  | _ => z
theorem ent_new {y : Mem} {q w : Nat} {a k z m : Int32} (hw : w < 4) : nE y q a k z m 132 0 0 (q + w) = pick (y 40 0 0 33) a k z w := by
  unfold nE
  match w, hw with
  | 0, _ => rw [up4_ne (by omega), up4_ne (by omega), up4_ne (by omega), up4_ne (by omega), Nat.add_zero, up4_eq]; rfl
  | 1, _ => rw [up4_ne (by omega), up4_ne (by omega), up4_ne (by omega), up4_eq]; rfl
  | 2, _ => rw [up4_ne (by omega), up4_ne (by omega), up4_eq]; rfl
  | 3, _ => rw [up4_ne (by omega), up4_eq]; rfl
theorem ent_old {y : Mem} {q s : Nat} {a k z m : Int32} (h : s < q ∨ q + 3 < s) : nE y q a k z m 132 0 0 s = y 132 0 0 s := by
  unfold nE
  rw [up4_ne (by omega), up4_ne (by omega), up4_ne (by omega), up4_ne (by omega), up4_ne (by omega)]
theorem aX_new {x : Mem} {c M w : Nat} {t a k z : Int32} (hw : w < 4) : aX x c M t a k z 7 c 0 (4 * (M % 24) + w) = pick t a k z w := by
  unfold aX
  match w, hw with
  | 0, _ => rw [up4_ne (by omega), up4_ne (by omega), up4_ne (by omega), up4_ne (by omega), Nat.add_zero, up4_eq]; rfl
  | 1, _ => rw [up4_ne (by omega), up4_ne (by omega), up4_ne (by omega), up4_eq]; rfl
  | 2, _ => rw [up4_ne (by omega), up4_ne (by omega), up4_eq]; rfl
  | 3, _ => rw [up4_ne (by omega), up4_eq]; rfl
theorem aX_old {x : Mem} {c M s : Nat} {t a k z : Int32} (h : s < 4 * (M % 24) ∨ 4 * (M % 24) + 3 < s) : aX x c M t a k z 7 c 0 s = x 7 c 0 s := by
  unfold aX
  rw [up4_ne (by omega), up4_ne (by omega), up4_ne (by omega), up4_ne (by omega), up4_ne (by omega)]
theorem nY_40 {y : Mem} {M : Nat} {a k z : Int32} : nY y (min M 24) a k z 40 0 0 40 = Int32.ofNat (min (M + 1) 24) := by
  unfold nY
  by_cases h : min M 24 = 24
  · rw [if_pos h, show min (M + 1) 24 = 24 by omega]
    unfold nE
    rw [up4_eq]
    rfl
  · rw [if_neg h, show min (M + 1) 24 = min M 24 + 1 by omega]
    unfold nE
    rw [up4_eq]
theorem nY_ent {x y : Mem} {c M : Nat} {a k z : Int32} (g : ∀ i w, i < min M 24 → w < 4 → y 132 0 0 (4 * i + w) = x 7 c 0 (4 * ((M - min M 24 + i) % 24) + w)) : ∀ i w, i < min (M + 1) 24 → w < 4 → nY y (min M 24) a k z 132 0 0 (4 * i + w) = aX x c M (y 40 0 0 33) a k z 7 c 0 (4 * ((M + 1 - min (M + 1) 24 + i) % 24) + w) := by
  intro i w hi hw
  unfold nY
  by_cases h : min M 24 = 24
  · have h24 : 24 ≤ M := by omega
    rw [if_pos h]
    by_cases e : i = 23
    · subst e
      rw [show 4 * 23 + w = 92 + w by omega, ent_new hw, show (M + 1 - min (M + 1) 24 + 23) % 24 = M % 24 by omega, aX_new hw, blk_out (by omega), up4_ne (by omega)]
    · rw [ent_old (by omega), blk_in (by omega) (by omega), aX_old (by omega), show 4 * i + w - 0 + 4 = 4 * (i + 1) + w by omega, g (i + 1) w (by omega) hw, show M - min M 24 + (i + 1) = M + 1 - min (M + 1) 24 + i by omega]
  · have h24 : M < 24 := by omega
    rw [if_neg h, show min M 24 = M by omega]
    by_cases e : i = M
    · subst e
      rw [ent_new hw, show (i + 1 - min (i + 1) 24 + i) % 24 = i % 24 by omega, aX_new hw]
    · rw [ent_old (by omega), aX_old (by omega), g i w (by omega) hw, show (M - min M 24 + i) % 24 = (M + 1 - min (M + 1) 24 + i) % 24 by omega]
/-- an entry of the log -/
theorem Ins.log {N : Nat} {c : Fin 10} {x0 y0 x y : Mem} {p : Nat → Int32} (h : Ins c N x0 y0 p x y) (hN : N < 2 ^ 30) (a k z : Int32) : ∃ (M : Nat) (x' : Mem), m_X7_add c (y 40 0 0 33) a k z x = some x' ∧ (∀ y2 : Mem, y2 40 0 0 40 = y 40 0 0 40 → m_X12_notes a k z y2 = some (nY y2 M a k z)) ∧ Ins c (N + 1) x0 y0 p x' (nY y M a k z) ∧ ∀ K d i s, ¬ (K = 6 ∨ K = 7) → x' K d i s = x K d i s := by
  obtain ⟨⟨P, q1, q2⟩, M, g1, g2, g3, g4⟩ := h.1.2.2.1
  have e40 : y 40 0 0 40 = Int32.ofNat (min M 24) := g3
  have e6 : x 6 c 0 0 = Int32.ofNat M := g2
  refine ⟨min M 24, _, ad_n e6 (by omega), fun y2 h2 => nt_n (h2.trans e40) (by omega), ?_, fun K d i s q => aX_o (by omega)⟩
  have hx : ∀ K d i s, ¬ ((K = 6 ∨ K = 7) ∧ d = (c : Nat)) → aX x c M (y 40 0 0 33) a k z K d i s = x K d i s := fun K d i s q => aX_o q
  refine h.gen (h.1.of_log (fun K i s q => hx _ _ _ _ (by omega)) (fun K s q => ?_) ⟨⟨P, by omega, ?_⟩, M + 1, by omega, ?_, ?_, fun i w hi hw => ?_⟩) (fun d q => ⟨by rw [hx _ _ _ _ (by omega)]; exact (h.2.1 d q).1, fun b r => by rw [hx _ _ _ _ (by omega)]; exact (h.2.1 d q).2 b r⟩) (fun K b d t q r => hx _ _ _ _ (by omega)) (fun K b d t q => nY_o (by omega))
  · unfold ov
    by_cases e : K = 117
    · rw [if_pos e, if_pos e]
    · rw [if_neg e, if_neg e]
      exact nY_o (by omega)
  · refine Eq.trans ?_ q2
    rw [ov_ne (by decide), ov_ne (by decide)]
    exact nY_o (by omega)
  · unfold aX
    rw [up4_eq]
  · rw [ov_ne (by decide)]
    exact nY_40
  · rw [ov_ne (by decide)]
    exact nY_ent (fun i w hi hw => by have := g4 i w hi hw; rw [ov_ne (by decide)] at this; exact this) i w hi hw
/-! PARTS OF BUFFERS -/
theorem put_x {x : Mem} {c : Fin 10} {b n : Nat} {v : Int32} (hb : b < 3) (e : x 9 c b 1 = Int32.ofNat n) (hn : n < 4) : m_X9_putLast (c, Fin.ofNat 4 b) v x = some (up4 (up4 (up4 x 10 c b n v) 9 c b 1 (Int32.ofNat (n + 1))) 9 c b 4 (x 9 c b 4 + 1)) := by
  unfold m_X9_putLast
  simp only [f4 hb]
  rw [e, if_neg (ge0 (by omega)), if_neg (show ¬ (4 : Int32) ≤ Int32.ofNat n from le_f (a := 4) (by decide) (by omega) (by omega)), gd_n hn (by decide), e_lt, e_lt, e_lt, tn (show n < 2 ^ 31 by omega), up4_ne (k' := 9) (s' := 1) (by omega), e, n1, up4_ne (k' := 9) (s' := 4) (by omega), up4_ne (k' := 9) (s' := 4) (by omega)]
theorem put_y {y : Mem} {b n : Nat} {v : Int32} (hb : b < 3) (e : y 104 0 0 b = Int32.ofNat n) (hn : n < 4) : m_X12_comesPart (Int32.ofNat b) v y = some (up4 (up4 (up4 y 105 0 0 (4 * b + n) v) 104 0 0 b (Int32.ofNat (n + 1))) 108 0 0 b (y 108 0 0 b + 1)) := by
  unfold m_X12_comesPart
  rw [gd_n hb (by decide), tn (show b < 2 ^ 31 by omega), e, m4, gd_n (show 4 * b + n < 12 by omega) (by decide), tn (show 4 * b + n < 2 ^ 31 by omega), e_lt, e_lt, e_lt, up4_ne (k' := 104) (by omega), e, n1, up4_ne (k' := 108) (by omega), up4_ne (k' := 108) (by omega)]
theorem Rep.put {x x' : Mem} {c N b n : Nat} {A A' : St} (hR : Rep x c A N) (hn : n < 4) (e : A 104 b = Int32.ofNat n) (h4 : ∀ d, d < 3 → (A 104 d).toNatClampNeg ≤ 4) {v : Int32} (hx : ∀ k i s, ¬ (k = 9 ∧ i = b ∧ (s = 1 ∨ s = 4)) → ¬ (k = 10 ∧ i = b ∧ s = n) → x' k c i s = x k c i s) (x1 : x' 9 c b 1 = Int32.ofNat (n + 1)) (x2 : x' 9 c b 4 = x 9 c b 4 + 1) (x3 : x' 10 c b n = v) (hA : ∀ k s, ¬ ((k = 104 ∨ k = 108) ∧ s = b) → ¬ (k = 105 ∧ s = 4 * b + n) → A' k s = A k s) (a1 : A' 104 b = Int32.ofNat (n + 1)) (a2 : A' 108 b = A 108 b + 1) (a3 : A' 105 (4 * b + n) = v) : Rep x' c A' N := by
  refine hR.of_sto (b := b) (fun k i s h => hx _ _ _ (by omega) (by omega)) (fun k s h => hA _ _ (by omega) (by omega)) (fun k b _ _ _ _ _ => hA _ _ (by omega) (by omega)) (fun d k hd hdb hk => hA _ _ (by omega) (by have := h4 d hd; omega)) (fun hb => ?_)
  obtain ⟨g1, g2, g3, g4, g5, g6, g7⟩ := hR.2.2.2.2.1 b hb
  refine ⟨?_, x1.trans a1.symm, ?_, ?_, ?_, ?_, fun k hk => ?_⟩
  · rw [hx _ _ _ (by omega) (by omega), hA _ _ (by omega) (by omega)]; exact g1
  · rw [hx _ _ _ (by omega) (by omega), hA _ _ (by omega) (by omega)]; exact g3
  · rw [hx _ _ _ (by omega) (by omega), hA _ _ (by omega) (by omega)]; exact g4
  · rw [x2, a2, g5]
  · rw [hx _ _ _ (by omega) (by omega), hA _ _ (by omega) (by omega)]; exact g6
  · rw [a1, tn (by omega)] at hk
    by_cases e2 : k = n
    · subst e2
      rw [x3, a3]
    · rw [hx _ _ _ (by omega) (by omega), hA _ _ (by omega) (by omega)]
      refine g7 k ?_
      rw [e, tn (by omega)]
      omega
theorem Ins.put {N b n : Nat} {c : Fin 10} {x0 y0 x y : Mem} {p : Nat → Int32} (h : Ins c N x0 y0 p x y) (hb : b < 3) (hn : n < 4) (e : y 104 0 0 b = Int32.ofNat n) (h4 : ∀ d, d < 3 → (y 104 0 0 d).toNatClampNeg ≤ 4) (v : Int32) : ∃ x', m_X9_putLast (c, Fin.ofNat 4 b) v x = some x' ∧ Ins c N x0 y0 p x' (up4 (up4 (up4 y 105 0 0 (4 * b + n) v) 104 0 0 b (Int32.ofNat (n + 1))) 108 0 0 b (y 108 0 0 b + 1)) ∧ (∀ k d i s, ¬ (9 ≤ k ∧ k ≤ 10) → x' k d i s = x k d i s) := by
  have ex : x 9 c b 1 = Int32.ofNat n := (h.1.2.2.2.2.1 b hb).2.1.trans ((ov_ne (by decide)).trans e)
  refine ⟨_, put_x hb ex hn, ?_, fun k d i s q => by rw [up4_ne (by omega), up4_ne (by omega), up4_ne (by omega)]⟩
  refine h.gen ?_ (((h.2.1.up (by omega) (by omega)).up (by omega) (by omega)).up (by omega) (by omega)) (((FX.up (by decide)).tr (FX.up (by decide))).tr (FX.up (by decide))) (((FY.up (by omega)).tr (FY.up (by omega))).tr (FY.up (by omega)))
  rw [V_up, V_up, V_up, ov_S4 (by decide), ov_S4 (by decide), ov_S4 (by decide)]
  refine h.1.put (b := b) (n := n) (v := v) hn ((ov_ne (by decide)).trans e) (fun d hd => by rw [ov_ne (by decide)]; exact h4 d hd) (fun k i s q1 q2 => by rw [up4_ne (by omega), up4_ne (by omega), up4_ne (by omega)]) (by rw [up4_ne (by omega), up4_eq]) up4_eq (by rw [up4_ne (by omega), up4_ne (by omega), up4_eq]) (fun k s q1 q2 => by rw [S4_ne (by omega), S4_ne (by omega), S4_ne (by omega)]) (by rw [S4_ne (by omega), S4_eq]) ?_ (by rw [S4_ne (by omega), S4_ne (by omega), S4_eq])
  rw [S4_eq, ov_ne (by decide)]
  rfl
theorem tak_xl {x : Mem} {c : Fin 10} {b r : Nat} {v : Int32} (hb : b < 3) (e : x 9 c b 1 = Int32.ofNat (r + 1)) (hr : r < 4) : ∀ (m u : Nat), u ≤ r → r < u + m → m_X9_takeFirst_l26 (c, Fin.ofNat 4 b) m v (Int32.ofNat (u + 1)) (bk x 10 c b 0 u (fun s => x 10 c b (s + 1))) = some (v, up4 (up4 (bk x 10 c b 0 r (fun s => x 10 c b (s + 1))) 9 c b 1 (Int32.ofNat r)) 9 c b 5 (x 9 c b 5 + 1)) := by
  intro m
  induction m with
  | zero => intro u h1 h2; omega
  | succ m ih =>
    intro u h1 h2
    show m_X9_takeFirst_b26 (c, Fin.ofNat 4 b) (m_X9_takeFirst_l26 (c, Fin.ofNat 4 b) m) _ _ _ = _
    unfold m_X9_takeFirst_b26 m_X9_takeFirst_j63
    simp only [f4 hb]
    rw [bk_out (k' := 9) (s := 1) (by omega), e]
    by_cases hu : u = r
    · subst hu
      rw [if_pos ((le_n (by omega) (by omega)).mpr (Nat.le_refl _)), e_lt, e_lt, s1, up4_ne (k' := 9) (s' := 5) (by omega), bk_out (k' := 9) (s := 5) (by omega)]
    rw [if_neg (le_f (by omega) (by omega) (by omega)), if_neg (show ¬ (4 : Int32) ≤ Int32.ofNat (u + 1) from le_f (a := 4) (by decide) (by omega) (by omega)), gd_n (show u + 1 < 4 by omega) (by decide), s1, gd_n (show u < 4 by omega) (by decide), e_lt, e_lt, tn (show u < 2 ^ 31 by omega), tn (show u + 1 < 2 ^ 31 by omega), bk_out (k' := 10) (s := u + 1) (by omega)]
    have hb := bk_succ (x := x) (k := 10) (c := c) (i := b) (lo := 0) (n := u) (f := fun s => x 10 c b (s + 1))
    rw [Nat.zero_add] at hb
    rw [hb, n1]
    exact ih (u + 1) (by omega) (by omega)
theorem tak_x {x : Mem} {c : Fin 10} {b r : Nat} (hb : b < 3) (e : x 9 c b 1 = Int32.ofNat (r + 1)) (hr : r < 4) : m_X9_takeFirst (c, Fin.ofNat 4 b) x = some (x 10 c b 0, up4 (up4 (bk x 10 c b 0 r (fun s => x 10 c b (s + 1))) 9 c b 1 (Int32.ofNat r)) 9 c b 5 (x 9 c b 5 + 1)) := by
  unfold m_X9_takeFirst
  simp only [f4 hb]
  rw [e_lt, e, if_neg (gt0 (by omega)), if_neg (show ¬ (4 : Int32) ≤ 0 by decide), e_lt, e_lt]
  have h := tak_xl (x := x) (c := c) (v := x 10 c b 0) hb e hr FU 0 (Nat.zero_le _) (by unfold FU; omega)
  rw [bk_0] at h
  exact h
def tkY (y : Mem) (b r : Nat) : Mem := up4 (up4 (blk (up4 y 104 0 0 b (Int32.ofNat r)) 105 (4 * b) r (fun s => y 105 0 0 (4 * b + (s + 1)))) 107 0 0 b (y 107 0 0 b - 1)) 109 0 0 b (y 109 0 0 b + 1)
theorem tak_yl {y : Mem} {b r : Nat} {v : Int32} (hb : b < 3) (hr : r < 4) : ∀ (m u : Nat), u ≤ r → r < u + m → m_X12_firstPartOf_l21 (Int32.ofNat b) m v (Int32.ofNat u) (blk (up4 y 104 0 0 b (Int32.ofNat r)) 105 (4 * b) u (fun s => y 105 0 0 (4 * b + (s + 1)))) = some (v, tkY y b r) := by
  intro m
  induction m with
  | zero => intro u h1 h2; omega
  | succ m ih =>
    intro u h1 h2
    show m_X12_firstPartOf_b21 (Int32.ofNat b) (m_X12_firstPartOf_l21 (Int32.ofNat b) m) _ _ _ = _
    unfold m_X12_firstPartOf_b21
    rw [gd_n hb (by decide), tn (show b < 2 ^ 31 by omega), blk_out (k' := 104) (by omega), up4_eq]
    by_cases hu : u = r
    · subst hu
      unfold tkY
      rw [if_pos ((le_n (by omega) (by omega)).mpr (Nat.le_refl _)), e_lt, e_lt, blk_out (k' := 107) (by omega), up4_ne (k' := 107) (by omega), up4_ne (k' := 109) (by omega), blk_out (k' := 109) (by omega), up4_ne (k' := 109) (by omega)]
    rw [if_neg (le_f (by omega) (by omega) (by omega)), m4, n1, gd_n (show 4 * b + u + 1 < 12 by omega) (by decide), gd_n (show 4 * b + u < 12 by omega) (by decide), e_lt, e_lt, tn (show 4 * b + u < 2 ^ 31 by omega), tn (show 4 * b + u + 1 < 2 ^ 31 by omega), blk_out (k' := 105) (s := 4 * b + u + 1) (by omega), up4_ne (k' := 105) (by omega)]
    have hq := blk_succ (y := up4 y 104 0 0 b (Int32.ofNat r)) (k := 105) (lo := 4 * b) (n := u) (f := fun s => y 105 0 0 (4 * b + (s + 1)))
    rw [show 4 * b + u + 1 = 4 * b + (u + 1) by omega, hq, n1]
    exact ih (u + 1) (by omega) (by omega)
theorem tak_y {y : Mem} {b r : Nat} (hb : b < 3) (e : y 104 0 0 b = Int32.ofNat (r + 1)) (hr : r < 4) : m_X12_firstPartOf (Int32.ofNat b) y = some (y 105 0 0 (4 * b), tkY y b r) := by
  unfold m_X12_firstPartOf
  have h40 : (4 : Int32) * Int32.ofNat b = Int32.ofNat (4 * b) := by rw [Int32.ofNat_mul]; rfl
  rw [h40, gd_n (show 4 * b < 12 by omega) (by decide), e_lt, gd_n hb (by decide), e_lt, e_lt, tn (show b < 2 ^ 31 by omega), tn (show 4 * b < 2 ^ 31 by omega), e, s1]
  have h := tak_yl (y := y) (v := y 105 0 0 (4 * b)) hb hr FU 0 (Nat.zero_le _) (by unfold FU; omega)
  rw [blk_0] at h
  exact h
theorem Rep.tak {x x' : Mem} {c N b r : Nat} {A A' : St} (hR : Rep x c A N) (hr : r < 4) (e : A 104 b = Int32.ofNat (r + 1)) (h4 : ∀ d, d < 3 → (A 104 d).toNatClampNeg ≤ 4) (hx : ∀ k i s, ¬ (k = 9 ∧ i = b ∧ (s = 1 ∨ s = 5 ∨ s = 3)) → ¬ (k = 10 ∧ i = b) → x' k c i s = x k c i s) (x1 : x' 9 c b 1 = Int32.ofNat r) (x2 : x' 9 c b 5 = x 9 c b 5 + 1) (x3 : x' 9 c b 3 = x 9 c b 3 - 1) (x4 : ∀ k, k < r → x' 10 c b k = x 10 c b (k + 1)) (hA : ∀ k s, ¬ ((k = 104 ∨ k = 107 ∨ k = 109) ∧ s = b) → ¬ (k = 105 ∧ 4 * b ≤ s ∧ s < 4 * b + 4) → A' k s = A k s) (a1 : A' 104 b = Int32.ofNat r) (a2 : A' 109 b = A 109 b + 1) (a3 : A' 107 b = A 107 b - 1) (a4 : ∀ k, k < r → A' 105 (4 * b + k) = A 105 (4 * b + (k + 1))) : Rep x' c A' N := by
  refine hR.of_sto (b := b) (fun k i s h => hx _ _ _ (by omega) (by omega)) (fun k s h => hA _ _ (by omega) (by omega)) (fun k b _ _ _ _ _ => hA _ _ (by omega) (by omega)) (fun d k hd hdb hk => hA _ _ (by omega) (by have := h4 d hd; omega)) (fun hb => ?_)
  obtain ⟨g1, g2, g3, g4, g5, g6, g7⟩ := hR.2.2.2.2.1 b hb
  refine ⟨?_, x1.trans a1.symm, ?_, ?_, ?_, ?_, fun k hk => ?_⟩
  · rw [hx _ _ _ (by omega) (by omega), hA _ _ (by omega) (by omega)]; exact g1
  · rw [hx _ _ _ (by omega) (by omega), hA _ _ (by omega) (by omega)]; exact g3
  · rw [x3, a3, g4]
  · rw [hx _ _ _ (by omega) (by omega), hA _ _ (by omega) (by omega)]; exact g5
  · rw [x2, a2, g6]
  · rw [a1, tn (by omega)] at hk
    rw [x4 k hk, a4 k hk]
    refine g7 (k + 1) ?_
    rw [e, tn (by omega)]
    omega
