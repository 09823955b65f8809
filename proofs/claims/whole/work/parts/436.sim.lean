/-! A TICK -/
def bz (h : Int32) (z : Nat) : Int32 := sar32 h (Int32.ofNat z) &&& 1
def sa (A : St) (a : Nat) : Int32 := if A 114 a = 0 then 0 else 1
/-- what the reference counts of one arm -/
def RT (a : Nat) (s h : Int32) (y : Mem) : Mem := blk (up4 y 121 0 0 a (y 121 0 0 a + s)) 102 0 8 (fun z => y 102 0 0 z + bz h z)
theorem RT_o {a : Nat} {s h : Int32} {y : Mem} {k d i t : Nat} (q : ¬ (k = 121 ∧ t = a) ∧ ¬ (k = 102 ∧ t < 8)) : RT a s h y k d i t = y k d i t := by
  unfold RT
  rw [blk_out (by omega), up4_ne (by omega)]
theorem tz_in {y u : Mem} {a : Nat} {h : Int32} (ha : a < 3) (hh : ∀ u' : Mem, (∀ k d i s, k ≠ 102 → u' k d i s = u k d i s) → m_X12_holds (Int32.ofNat a) u' = some h) (k71 : Int32 → Mem → Option Mem) {f : Nat → Int32} (hf : f = fun z => u 102 0 0 z + bz h z) : ∀ (m t : Nat), t ≤ 8 → 8 < t + m → m_X12_ticks_l101 k71 m (Int32.ofNat a) (Int32.ofNat t) (blk u 102 0 t f) = k71 (Int32.ofNat (a + 1)) (blk u 102 0 8 f) := by
  intro m
  induction m with
  | zero => intro t h1 h2; omega
  | succ m ih =>
    intro t h1 h2
    show m_X12_ticks_b101 k71 (m_X12_ticks_l101 k71 m) _ _ _ = _
    unfold m_X12_ticks_b101
    by_cases ht : t = 8
    · subst ht
      rw [if_pos (by decide), e_lt, n1]
    have h8 : t < 8 := by omega
    rw [if_neg (show ¬ (8 : Int32) ≤ Int32.ofNat t from le_f (a := 8) (by decide) (by omega) h8), gd_n h8 (by decide), hh _ (fun k d i s q => blk_out (by omega)), e_bd, e_lt, e_lt, n1, tn (show t < 2 ^ 31 by omega), blk_out (k' := 102) (by omega)]
    have hb := blk_succ (y := u) (k := 102) (lo := 0) (n := t) (f := f)
    rw [Nat.zero_add, show f t = u 102 0 0 t + (sar32 h (Int32.ofNat t) &&& 1) by rw [hf]; rfl] at hb
    rw [hb]
    exact ih (t + 1) (by omega) (by omega)
theorem tz_s {y : Mem} {a m : Nat} (hW : InvW (V y)) (ha : a < 3) : m_X12_ticks_l71 (m + 1) (Int32.ofNat a) y = m_X12_ticks_l71 m (Int32.ofNat (a + 1)) (RT a (sa (V y) a) (hold (V y) a) y) := by
  show m_X12_ticks_b71 (m_X12_ticks_l71 m) _ y = _
  unfold m_X12_ticks_b71 m_X12_ticks_j97
  have key : ∀ s : Int32, s = sa (V y) a → m_X12_ticks_l101 (m_X12_ticks_l71 m) FU (Int32.ofNat a) 0 (up4 y 121 0 0 a (y 121 0 0 a + s)) = m_X12_ticks_l71 m (Int32.ofNat (a + 1)) (RT a (sa (V y) a) (hold (V y) a) y) := by
    intro s hs
    subst hs
    have h := tz_in (y := y) (u := up4 y 121 0 0 a (y 121 0 0 a + sa (V y) a)) (a := a) (h := hold (V y) a) ha (fun u' hu => by
      have e : ∀ k s, mn k s → RdK k s → k ≠ 116 → V y k s = V u' k s := fun k s q1 q2 _ => by
        unfold RdK at q2
        rw [show V u' k s = u' k 0 0 s from rfl, hu _ _ _ _ (by omega), up4_ne (by omega)]
        rfl
      have hW' := hW.cg e
      rw [holds_n hW' ha]
      rw [hold_kp (A := V y) (by rw [show V u' 113 a = u' 113 0 0 a from rfl, hu _ _ _ _ (by omega), up4_ne (by omega)]; rfl) (by rw [show V u' 114 a = u' 114 0 0 a from rfl, hu _ _ _ _ (by omega), up4_ne (by omega)]; rfl) (by rw [show V u' 115 a = u' 115 0 0 a from rfl, hu _ _ _ _ (by omega), up4_ne (by omega)]; rfl) (by rw [show ∀ i, V u' 123 i = u' 123 0 0 i from fun _ => rfl, hu _ _ _ _ (by omega), up4_ne (by omega)]; rfl) (by rw [show ∀ i, V u' 124 i = u' 124 0 0 i from fun _ => rfl, hu _ _ _ _ (by omega), up4_ne (by omega)]; rfl)]) (m_X12_ticks_l71 m) rfl FU 0 (Nat.zero_le _) (by unfold FU; omega)
    rw [blk_0, ← z0] at h
    rw [h]
    unfold RT
    rw [show (fun z => up4 y 121 0 0 a (y 121 0 0 a + sa (V y) a) 102 0 0 z + bz (hold (V y) a) z) = (fun z => y 102 0 0 z + bz (hold (V y) a) z) from funext fun z => by rw [up4_ne (by omega)]]
  rw [if_neg (le3 ha), gd_n ha (by decide), tn (show a < 2 ^ 31 by omega)]
  by_cases h0 : y 114 0 0 a = 0
  · rw [if_pos h0, gd_n ha (by decide), e_lt, e_lt]
    exact key 0 (by unfold sa; rw [if_pos (show V y 114 a = 0 from h0)])
  · rw [if_neg h0, gd_n ha (by decide), e_lt, e_lt]
    exact key 1 (by unfold sa; rw [if_neg (show ¬ V y 114 a = 0 from h0)])
theorem RT_W {y : Mem} {a : Nat} {s h : Int32} (hW : InvW (V y)) : InvW (V (RT a s h y)) := hW.cg (fun k t _ q _ => (RT_o (by unfold RdK at q; omega)).symm)
theorem RT_h {y : Mem} {a b : Nat} {s h : Int32} : hold (V (RT a s h y)) b = hold (V y) b := hold_kp (RT_o (by omega)) (RT_o (by omega)) (RT_o (by omega)) (RT_o (by omega)) (RT_o (by omega))
theorem RT_s {y : Mem} {a b : Nat} {s h : Int32} : sa (V (RT a s h y)) b = sa (V y) b := by
  unfold sa
  rw [show V (RT a s h y) 114 b = V y 114 b from RT_o (by omega)]
theorem tz_y {y : Mem} (hW : InvW (V y)) : m_X12_ticks_l71 FU 0 y = some (RT 2 (sa (V y) 2) (hold (V y) 2) (RT 1 (sa (V y) 1) (hold (V y) 1) (RT 0 (sa (V y) 0) (hold (V y) 0) y))) := by
  obtain ⟨m, hm⟩ := FUs
  rw [hm, z0, show m + 8 = (m + 7) + 1 from rfl, tz_s hW (by decide), show m + 7 = (m + 6) + 1 from rfl, tz_s (RT_W hW) (by decide), show m + 6 = (m + 5) + 1 from rfl, tz_s (RT_W (RT_W hW)) (by decide), RT_h, RT_h, RT_h, RT_s, RT_s, RT_s, show m + 5 = (m + 4) + 1 from rfl]
  show m_X12_ticks_b71 (m_X12_ticks_l71 (m + 4)) (Int32.ofNat 3) _ = _
  unfold m_X12_ticks_b71
  rw [if_pos (by decide)]
def CB (c a : Nat) (x : Mem) : Mem := if x 0 c a 2 = 0 then x else up4 x 0 c a 11 (x 0 c a 11 + 1)
theorem CB_o {c a : Nat} {x : Mem} {k d i t : Nat} (q : ¬ (k = 0 ∧ d = c ∧ i = a ∧ t = 11)) : CB c a x k d i t = x k d i t := by
  unfold CB
  by_cases w : x 0 c a 2 = 0
  · rw [if_pos w]
  · rw [if_neg w, up4_ne q]
theorem CB_11 {c a : Nat} {x : Mem} : CB c a x 0 c a 11 = x 0 c a 11 + (if x 0 c a 2 = 0 then 0 else 1) := by
  unfold CB
  by_cases w : x 0 c a 2 = 0
  · rw [if_pos w, if_pos w]
    exact (Int32.add_zero _).symm
  · rw [if_neg w, if_neg w, up4_eq]
theorem ct_s {x : Mem} {c : Fin 10} {a m : Nat} {u : Int32} (ha : a < 3) : m_X1_countTick_l4 c (m + 1) u (Int32.ofNat a) x = m_X1_countTick_l4 c m (u ||| x 0 c a 6) (Int32.ofNat (a + 1)) (CB c a x) := by
  show m_X1_countTick_b4 c (m_X1_countTick_l4 c m) _ _ x = _
  unfold m_X1_countTick_b4 m_X1_countTick_j39 CB
  rw [if_neg (le3 ha), arm_at ha, e_bd]
  simp only [f4 ha]
  rw [e_lt]
  by_cases w : x 0 c a 2 = 0
  · rw [if_pos w, if_pos w, e_lt, n1]
  · rw [if_neg w, if_neg w, e_lt, e_lt, n1]
theorem cz_l {x : Mem} {c : Fin 10} {u : Int32} {f : Nat → Int32} (hf : f = fun z => x 5 c 0 z + (if tb u z = true then 1 else 0)) : ∀ (m t : Nat), t ≤ 8 → 8 < t + m → m_X10_countTick_l2 c u m (Int32.ofNat t) (bk x 5 c 0 0 t f) = some (bk x 5 c 0 0 8 f) := by
  intro m
  induction m with
  | zero => intro t h1 h2; omega
  | succ m ih =>
    intro t h1 h2
    show m_X10_countTick_b2 c u (m_X10_countTick_l2 c u m) _ _ = _
    unfold m_X10_countTick_b2 m_X10_countTick_j29
    by_cases ht : t = 8
    · subst ht
      rw [if_pos (by decide)]
    have h8 : t < 8 := by omega
    have hb := bk_succ (x := x) (k := 5) (c := c) (i := 0) (lo := 0) (n := t) (f := f)
    rw [Nat.zero_add] at hb
    rw [if_neg (show ¬ (8 : Int32) ≤ Int32.ofNat t from le_f (a := 8) (by decide) (by omega) h8), one_bit]
    by_cases w : tb u t = true
    · rw [if_neg (fun q => by rw [and_bit (by omega)] at q; rw [q] at w; exact absurd w (by decide)), gd_n h8 (by decide), e_lt, e_lt, n1, tn (show t < 2 ^ 31 by omega), bk_out (k' := 5) (by omega)]
      rw [show f t = x 5 c 0 t + 1 by rw [hf]; simp [w]] at hb
      rw [hb]
      exact ih (t + 1) (by omega) (by omega)
    · rw [if_pos ((and_bit (by omega)).mpr (by simpa using w)), e_lt, n1]
      have e : bk x 5 c 0 0 (t + 1) f = bk x 5 c 0 0 t f := by
        rw [← hb, show f t = bk x 5 c 0 0 t f 5 c 0 t by rw [bk_out (by omega), hf]; simp [w], up4_self]
      rw [← e]
      exact ih (t + 1) (by omega) (by omega)
theorem ct_x {x : Mem} {c : Fin 10} {h : Nat → Int32} (h6 : ∀ b, b < 3 → x 0 c b 6 = h b) : m_X1_countTick c x = some (bk (CB c 2 (CB c 1 (CB c 0 x))) 5 c 0 0 8 (fun z => x 5 c 0 z + (if tb (((0 ||| h 0) ||| h 1) ||| h 2) z = true then 1 else 0))) := by
  obtain ⟨m, hm⟩ := FUs
  unfold m_X1_countTick
  rw [e_lt, e_lt]
  have h1 : m_X1_countTick_l4 c FU 0 0 x = m_X1_countTick_l4 c (m + 8) 0 (Int32.ofNat 0) x := by rw [hm, ← z0]
  rw [h1, show m + 8 = (m + 7) + 1 from rfl, ct_s (by decide), show m + 7 = (m + 6) + 1 from rfl, ct_s (by decide), show m + 6 = (m + 5) + 1 from rfl, ct_s (by decide), CB_o (by omega), CB_o (by omega), CB_o (by omega), h6 0 (by decide), h6 1 (by decide), h6 2 (by decide), show m + 5 = (m + 4) + 1 from rfl]
  show m_X1_countTick_b4 c (m_X1_countTick_l4 c (m + 4)) _ (Int32.ofNat 3) _ = _
  unfold m_X1_countTick_b4 m_X10_countTick
  rw [if_pos (by decide), e_lt]
  have hz := cz_l (x := CB c 2 (CB c 1 (CB c 0 x))) (c := c) (u := ((0 ||| h 0) ||| h 1) ||| h 2) rfl FU 0 (Nat.zero_le _) (by unfold FU; omega)
  rw [bk_0, ← z0] at hz
  rw [hz, e_bd]
  rw [show (fun z => CB c 2 (CB c 1 (CB c 0 x)) 5 c 0 z + (if tb (((0 ||| h 0) ||| h 1) ||| h 2) z = true then 1 else 0)) = (fun z => x 5 c 0 z + (if tb (((0 ||| h 0) ||| h 1) ||| h 2) z = true then 1 else 0)) from funext fun z => by rw [CB_o (by omega), CB_o (by omega), CB_o (by omega)]]
theorem sum3 {v : Int32} {h : Nat → Int32} {z : Nat} (hz : z < 8) (hd : DJ h) : ((v + bz (h 0) z) + bz (h 1) z) + bz (h 2) z = v + (if tb (((0 ||| h 0) ||| h 1) ||| h 2) z = true then 1 else 0) := by
  unfold bz
  rw [sar_bit (by omega), sar_bit (by omega), sar_bit (by omega), tb_or, tb_or, tb_or, tb_0]
  have d01 := fun q => hd.tb (a := 0) (b := 1) (w := z) (by decide) (by decide) (by decide) (by omega) q
  have d02 := fun q => hd.tb (a := 0) (b := 2) (w := z) (by decide) (by decide) (by decide) (by omega) q
  have d12 := fun q => hd.tb (a := 1) (b := 2) (w := z) (by decide) (by decide) (by decide) (by omega) q
  cases t0 : tb (h 0) z <;> cases t1 : tb (h 1) z <;> cases t2 : tb (h 2) z <;> simp_all
theorem Rep.cnt {x x' : Mem} {c N : Nat} {A A' : St} (hR : Rep x c A N) (hx : ∀ k i s, ¬ (k = 0 ∧ s = 11) → k ≠ 5 → x' k c i s = x k c i s) (hA : ∀ k s, k ≠ 121 → k ≠ 102 → A' k s = A k s) (h1 : ∀ a, a < 3 → x' 0 c a 11 = A' 121 a) (h2 : ∀ z, z < 8 → x' 5 c 0 z = A' 102 z) : Rep x' c A' N := by
  obtain ⟨r1, r2, r3, r4, r5, r6⟩ := hR
  refine ⟨r1.kp (fun s => hx _ _ _ (by omega) (by omega)) (fun s _ _ => hA _ _ (by omega) (by omega)), ⟨?_, fun z q => ⟨?_, h2 z q⟩⟩, r3.kp (fun s => hx _ _ _ (by omega) (by omega)) (fun s => hx _ _ _ (by omega) (by omega)) (hA _ _ (by omega) (by omega)) (hA _ _ (by omega) (by omega)) (fun s => hA _ _ (by omega) (by omega)), fun a q => ?_, fun d q => (r5 d q).kp (fun s => hx _ _ _ (by omega) (by omega)) (fun s => hx _ _ _ (by omega) (by omega)) (fun k _ _ _ => hA _ _ (by omega) (by omega)) (fun k _ => hA _ _ (by omega) (by omega)), fun j q => ?_⟩
  · rw [hx _ _ _ (by omega) (by omega), r2.1]
    exact icnt_congr (fun z _ => (hA _ _ (by omega) (by omega)).symm)
  · rw [hx _ _ _ (by omega) (by omega), hA _ _ (by omega) (by omega)]
    exact (r2.2 z q).1
  · obtain ⟨g1, g2, g3, g4, g5, g6, g7, g8, g9, g10, g11, g12, g13⟩ := r4 a q
    have hh : hold A' a = hold A a := hold_kp (hA _ _ (by omega) (by omega)) (hA _ _ (by omega) (by omega)) (hA _ _ (by omega) (by omega)) (hA _ _ (by omega) (by omega)) (hA _ _ (by omega) (by omega))
    refine ⟨?_, ?_, ?_, ?_, ?_, ?_, ?_, ?_, ?_, ?_, h1 a q, ?_, fun k hk => ?_⟩
    · rw [hx _ _ _ (by omega) (by omega), hA _ _ (by omega) (by omega)]; exact g1
    · rw [hx _ _ _ (by omega) (by omega), hA _ _ (by omega) (by omega)]; exact g2
    · rw [hx _ _ _ (by omega) (by omega), hA _ _ (by omega) (by omega)]; exact g3
    · rw [hx _ _ _ (by omega) (by omega), hA _ _ (by omega) (by omega)]; exact g4
    · rw [hx _ _ _ (by omega) (by omega), hA _ _ (by omega) (by omega)]; exact g5
    · rw [hx _ _ _ (by omega) (by omega), hh]; exact g6
    · rw [hx _ _ _ (by omega) (by omega), hA _ _ (by omega) (by omega)]; exact g7
    · rw [hx _ _ _ (by omega) (by omega), hA _ _ (by omega) (by omega)]; exact g8
    · rw [hx _ _ _ (by omega) (by omega), hA _ _ (by omega) (by omega)]; exact g9
    · rw [hx _ _ _ (by omega) (by omega), hA _ _ (by omega) (by omega)]; exact g10
    · rw [hx _ _ _ (by omega) (by omega), hA _ _ (by omega) (by omega)]; exact g12
    · rw [hA _ _ (by omega) (by omega)] at hk
      rw [hx _ _ _ (by omega) (by omega), hA _ _ (by omega) (by omega)]
      exact g13 k hk
  · rw [hA 40 34 (by omega) (by omega)] at q
    exact (r6 j q).kp (fun s => hx _ _ _ (by omega) (by omega)) (fun k _ _ => hA _ _ (by omega) (by omega))
theorem ct_sim {c : Fin 10} {N : Nat} {x0 y0 x y : Mem} (h : Ins c N x0 y0 (V y 117) x y) (hI : Inv (V y)) : ∃ x' y', m_X1_countTick c x = some x' ∧ m_X12_ticks_l71 FU 0 y = some y' ∧ Ins c N x0 y0 (V y' 117) x' y' ∧ Inv (V y') := by
  have hW := hI.w
  have h6 : ∀ b, b < 3 → x 0 c b 6 = hold (V y) b := fun b hb => (h.1.2.2.2.1 b hb).2.2.2.2.2.1.trans hold_ov
  have hD : DJ (hold (V y)) := by
    obtain ⟨J, -, -, -, -, -, -, hd⟩ := hI
    exact hd
  refine ⟨_, _, ct_x h6, tz_y hW, ?_, ?_⟩
  rotate_left
  · refine hI.cg (fun k s _ q => ?_)
    unfold RdK at q
    refine Eq.symm (Eq.trans (RT_o (by omega)) (Eq.trans (RT_o (by omega)) (RT_o (by omega))))
  have e117 : V (RT 2 (sa (V y) 2) (hold (V y) 2) (RT 1 (sa (V y) 1) (hold (V y) 1) (RT 0 (sa (V y) 0) (hold (V y) 0) y))) 117 = V y 117 := funext fun s => (RT_o (by omega)).trans ((RT_o (by omega)).trans (RT_o (by omega)))
  rw [e117]
  have hsx : ∀ a, a < 3 → (if x 0 c a 2 = 0 then (0 : Int32) else 1) = sa (V y) a := fun a ha => by
    unfold sa
    rw [show x 0 c a 2 = V y 114 a from (h.1.2.2.2.1 a ha).2.1.trans (ov_ne (by decide))]
  have hbx : ∀ a, a < 3 → x 0 c a 11 = y 121 0 0 a := fun a ha => (h.1.2.2.2.1 a ha).2.2.2.2.2.2.2.2.2.2.1.trans (ov_ne (by decide))
  have ex : ∀ k d i s, ¬ (k = 0 ∧ d = (c : Nat) ∧ s = 11) → ¬ (k = 5 ∧ d = (c : Nat)) → bk (CB c 2 (CB c 1 (CB c 0 x))) 5 c 0 0 8 (fun z => x 5 c 0 z + (if tb (((0 ||| hold (V y) 0) ||| hold (V y) 1) ||| hold (V y) 2) z = true then 1 else 0)) k d i s = x k d i s := fun k d i s q1 q2 => by rw [bk_out (by omega), CB_o (by omega), CB_o (by omega), CB_o (by omega)]
  refine h.gen (h.1.cnt (fun k i s q1 q2 => ex _ _ _ _ (by omega) (by omega)) (fun k s q1 q2 => ?_) (fun a ha => ?_) (fun z hz => ?_)) (fun d q => ⟨by rw [ex _ _ _ _ (by omega) (by omega)]; exact (h.2.1 d q).1, fun b r => by rw [ex _ _ _ _ (by omega) (by omega)]; exact (h.2.1 d q).2 b r⟩) (fun k d i s q _ => ex _ _ _ _ (by omega) (by omega)) (fun k d i s q => ?_)
  · by_cases e : k = 117
    · subst e
      rfl
    · rw [ov_ne e, ov_ne e]
      exact (RT_o (by omega)).trans ((RT_o (by omega)).trans (RT_o (by omega)))
  · rw [ov_ne (by decide), bk_out (by omega)]
    show _ = RT 2 (sa (V y) 2) (hold (V y) 2) (RT 1 (sa (V y) 1) (hold (V y) 1) (RT 0 (sa (V y) 0) (hold (V y) 0) y)) 121 0 0 a
    have r : ∀ (b : Nat) (s h : Int32) (u : Mem), RT b s h u 121 0 0 b = u 121 0 0 b + s := fun b s h u => by
      unfold RT
      rw [blk_out (by omega), up4_eq]
    match a, ha with
    | 0, _ => rw [CB_o (by omega), CB_o (by omega), CB_11, hsx 0 (by decide), hbx 0 (by decide), RT_o (by omega), RT_o (by omega), r]
    | 1, _ => rw [CB_o (by omega), CB_11, CB_o (by omega), CB_o (by omega), hsx 1 (by decide), hbx 1 (by decide), RT_o (by omega), r, RT_o (by omega)]
    | 2, _ => rw [CB_11, CB_o (by omega), CB_o (by omega), CB_o (by omega), CB_o (by omega), hsx 2 (by decide), hbx 2 (by decide), r, RT_o (by omega), RT_o (by omega)]
  · rw [ov_ne (by decide), bk_in (by omega) (by omega), Nat.sub_zero]
    show _ = RT 2 (sa (V y) 2) (hold (V y) 2) (RT 1 (sa (V y) 1) (hold (V y) 1) (RT 0 (sa (V y) 0) (hold (V y) 0) y)) 102 0 0 z
    have r : ∀ (b : Nat) (s h : Int32) (u : Mem), RT b s h u 102 0 0 z = u 102 0 0 z + bz h z := fun b s h u => by
      unfold RT
      rw [blk_in (by omega) (by omega), Nat.sub_zero]
    rw [r, r, r, sum3 hz hD, show x 5 c 0 z = y 102 0 0 z from (h.1.2.1.2 z hz).2.trans (ov_ne (by decide))]
  · exact (RT_o (by omega)).trans ((RT_o (by omega)).trans (RT_o (by omega)))
theorem mt_loop {c : Fin 10} {N : Nat} {x0 y0 : Mem} {o : Nat → Nat} (hN : N < 2 ^ 27) : ∀ (m t : Nat) (x y : Mem), t ≤ 3 → 3 < t + m → Ins c (N + 2 * t) x0 y0 (V y 117) x y → Inv (V y) → (∀ s, s < 3 → o s < 3 ∧ x 18 0 0 s = Int32.ofNat (o s) ∧ y 147 0 0 s = Int32.ofNat (o s)) → ∃ x' y', m_X8_makeTick_l17 c m (Int32.ofNat t) x = some x' ∧ m_X12_ticks_l16 m (Int32.ofNat t) y = some y' ∧ Ins c (N + 6) x0 y0 (V y' 117) x' y' ∧ Inv (V y') := by
  intro m
  induction m with
  | zero => intro t x y h1 h2; omega
  | succ m ih =>
    intro t x y h1 h2 hI hV ho
    show ∃ x' y', m_X8_makeTick_b17 c (m_X8_makeTick_l17 c m) (Int32.ofNat t) x = some x' ∧ m_X12_ticks_b16 (m_X12_ticks_l16 m) (Int32.ofNat t) y = some y' ∧ _
    unfold m_X8_makeTick_b17 m_X12_ticks_b16 m_X12_ticks_j62
    by_cases ht : t = 3
    · subst ht
      rw [if_pos (by decide), if_pos (by decide), e_lt]
      obtain ⟨x', y', w1, w2, w3, w4⟩ := ct_sim hI hV
      rw [w1, e_bd, w2]
      exact ⟨x', y', rfl, rfl, w3, w4⟩
    have h3 : t < 3 := by omega
    obtain ⟨o1, o2, o3⟩ := ho t h3
    obtain ⟨x', y13, w1, w2, w3, w4, w5, w6⟩ := act_sim hI hV o1 (by omega)
    rw [if_neg (le3 h3), if_neg (le3 h3), gd_n h3 (by decide), gd_n h3 (by decide), tn (show t < 2 ^ 31 by omega), o2, o3, arm_at o1, e_bd, w1, e_bd, e_lt, e_lt, e_lt, w2, e_bd, n1, gd_n o1 (by decide), tn (show o t < 2 ^ 31 by omega)]
    have hnext := ih (t + 1) x' _ (by omega) (by omega) (by rw [show N + 2 * (t + 1) = N + 2 * t + 2 by omega]; exact w3) w4 (fun s hs => ⟨(ho s hs).1, (w5 s).trans (ho s hs).2.1, (up4_ne (by omega)).trans ((w6 s).trans (ho s hs).2.2)⟩)
    by_cases hz : y13 40 0 0 46 = 0
    · rw [if_pos hz, e_lt, e_lt]
      rw [if_pos hz] at hnext
      exact hnext
    · rw [if_neg hz, gd_n o1 (by decide), gd_n o1 (by decide), e_lt, e_lt]
      rw [if_neg hz] at hnext
      exact hnext
/-- a tick -/
theorem tick_sim {c : Fin 10} {N : Nat} {x0 y0 x y : Mem} (h : Ins c N x0 y0 (V y 117) x y) (hI : Inv (V y)) (hN : N < 2 ^ 27) : ∃ x' y', m_X8_makeTick c x = some x' ∧ m_X12_ticks y = some y' ∧ Ins c (N + 6) x0 y0 (V y' 117) x' y' ∧ Inv (V y') := by
  unfold m_X8_makeTick m_X12_ticks
  rw [e_lt, e_lt, ins_x2 h]
  have h1 : Ins c N x0 y0 (V y 117) (up4 x 2 c 0 0 (y 40 0 0 33 + 1)) (up4 y 40 0 0 33 (y 40 0 0 33 + 1)) := h.sca (by omega)
  have hI1 : Inv (V (up4 y 40 0 0 33 (y 40 0 0 33 + 1))) := hI.wy (by unfold RdK; omega)
  have e117 : ∀ s, up4 y 40 0 0 33 (y 40 0 0 33 + 1) 117 0 0 s = y 117 0 0 s := fun s => up4_ne (by omega)
  obtain ⟨x2, y2, o, q1, q2, q3, q4, q5⟩ := ord_sim (x := up4 x 2 c 0 0 (y 40 0 0 33 + 1)) (y := up4 y 40 0 0 33 (y 40 0 0 33 + 1)) (c := c) (fun b hb => by rw [e117, up4_ne (by omega)]; exact (h.1.2.2.2.1 b hb).2.2.2.2.2.2.1)
  rw [q1, e_bd, q2, e_bd, e_lt, e_lt, z0]
  have h2 : Ins c N x0 y0 (V y 117) x2 y2 := (h1.x (fun k a b t q => q3 _ _ _ _ (by omega))).y (fun k a b t q => q4 _ _ _ _ (by omega))
  have hI2 : Inv (V y2) := hI1.oth (fun k s q => q4 _ _ _ _ (by have := mn_K q; omega))
  refine mt_loop (o := o) hN FU 0 x2 y2 (Nat.zero_le _) (by unfold FU; omega) ?_ hI2 q5
  rw [show V y2 117 = V y 117 from funext fun s => (q4 _ _ _ _ (by omega)).trans (e117 s)]
  exact h2
