/-! KEEPING: the ring of the class, the row of the reference -/
theorem Rel.main {i i' : Nat} {x y x' y' : Mem} (hi : i ≤ i') (hR : Rel i x y) (hC : Con x') (hN : Rep x' 0 (V y') (SAT * i')) (hI : Inv (V y')) (hx : ∀ k c a t, k < 14 → c ≠ 0 → c ≠ 1 → x' k c a t = x k c a t) (hx2 : ∀ k c a t, k = 14 ∨ k = 15 ∨ k = 22 ∨ k = 23 → x' k c a t = x k c a t) (h155 : ∀ s, y' 155 0 0 s = y 155 0 0 s) (h156 : ∀ s, y' 156 0 0 s = y 156 0 0 s) (h148 : ∀ s, y' 148 0 0 s = y 148 0 0 s) (h59 : y' 40 0 0 59 = y 40 0 0 59) (h61 : y' 40 0 0 61 = y 40 0 0 61) (h51 : y' 40 0 0 51 = y 40 0 0 51) : Rel i' x' y' := by
  have hm : SAT * i ≤ SAT * i' := Nat.mul_le_mul_left _ hi
  obtain ⟨-, -, ⟨ch, f, a1, a2, a3, a4, a5, a6⟩, ⟨b1, b2⟩, n, c1, c2, c3, c4⟩ := hR
  have e5 : ∀ w, Sl y' 155 w = Sl y 155 w := fun w => by funext k s; exact h155 _
  have e6 : ∀ w, Sl y' 156 w = Sl y 156 w := fun w => by funext k s; exact h156 _
  have ec : ∀ c A, c ≠ 0 → c ≠ 1 → Rep x c A (SAT * i) → Rep x' c A (SAT * i') := fun c A q1 q2 h => (h.cell (fun k a t q => hx k c a t q q1 q2)).mono hm
  refine ⟨hC, ⟨hN, hI⟩, ⟨ch, f, a1, a2, ?_, by rw [h59]; exact a4, ?_, fun j hj => ?_⟩, ⟨?_, ?_⟩, n, c1, ?_, by rw [h51]; exact c3, fun k hk => ?_⟩
  · rw [hx2 15 _ _ _ (by decide)]; exact a3
  · rw [hx2 15 _ _ _ (by decide)]; exact a5
  · rw [e5]
    exact ⟨ec _ _ (by omega) (by omega) (a6 j hj).1, (a6 j hj).2⟩
  · rw [hx2 14 _ _ _ (by decide), h61]; exact b1
  · rw [h61, e6]
    exact b2.imp id fun q => ⟨q.1, ec _ _ (by decide) (by decide) q.2.1, q.2.2⟩
  · rw [hx2 22 _ _ _ (by decide)]; exact c2
  · rw [hx2 23 _ _ _ (by decide), h148]; exact c4 k hk
theorem mul573 {ch : Nat} : (573 : Int32) * Int32.ofNat ch = Int32.ofNat (573 * ch) := by
  rw [Int32.ofNat_mul]
  rfl
theorem rem_j50 {y : Mem} {ch : Nat} (h59 : y 40 0 0 59 = Int32.ofNat ch) (hc : ch < 6) : m_X12_remembers_j50 y = some (up4 (ZK y 155 (573 * ch) 573) 40 0 0 59 (Int32.ofNat (ch + 1))) := by
  unfold m_X12_remembers_j50
  rw [h59, mul573, keep_all (by decide) (by decide) (by omega), e_bd, e_lt, ZK_40 (by decide) (by decide), h59, n1]
theorem rem_lt {y : Mem} {ch : Nat} (h59 : y 40 0 0 59 = Int32.ofNat ch) (hc : ch < 6) : m_X12_remembers y = some (up4 (ZK y 155 (573 * ch) 573) 40 0 0 59 (Int32.ofNat (ch + 1))) := by
  unfold m_X12_remembers
  rw [if_neg (by rw [h59, show (6 : Int32) = Int32.ofNat 6 from rfl, eq_n (by omega) (by decide)]; omega)]
  exact rem_j50 h59 hc
def shf (y : Mem) : Mem := up4 (blk y 155 0 2865 (fun s => y 155 0 0 (s + 573))) 40 0 0 59 5
theorem sh_loop {y : Mem} (h59 : y 40 0 0 59 = 6) : ∀ (m t : Nat), t ≤ 2865 → 2865 < t + m → m_X12_remembers_l11 m (Int32.ofNat t) (blk y 155 0 t (fun s => y 155 0 0 (s + 573))) = m_X12_remembers_j50 (shf y) := by
  intro m
  induction m with
  | zero => intro t h1 h2; omega
  | succ m ih =>
    intro t h1 h2
    show m_X12_remembers_b11 (m_X12_remembers_l11 m) (Int32.ofNat t) _ = _
    unfold m_X12_remembers_b11
    generalize hg : (fun s => y 155 0 0 (s + 573)) = g at ih ⊢
    by_cases ht : t = 2865
    · subst ht
      rw [if_pos (by decide), e_lt, blk_out (by omega), h59]
      unfold shf
      rw [hg]
      rfl
    have htn : t < 2865 := by omega
    rw [if_neg (fun q => by have := (le_n (a := 2865) (by decide) (show t < 2 ^ 31 by omega)).mp q; omega)]
    have e5 : Int32.ofNat t + 573 = Int32.ofNat (t + 573) := by rw [Int32.ofNat_add]; rfl
    rw [e5, gd_n (show t + 573 < 3438 by omega) (by decide), gd_n (show t < 3438 by omega) (by decide), e_lt, e_lt, n1, tn (show t < 2 ^ 31 by omega), tn (show t + 573 < 2 ^ 31 by omega), blk_out (by omega)]
    have hb := blk_succ (y := y) (k := 155) (lo := 0) (n := t) (f := g)
    rw [Nat.zero_add, show g t = y 155 0 0 (t + 573) by rw [← hg]] at hb
    rw [hb]
    exact ih (t + 1) (by omega) (by omega)
theorem rem_6 {y : Mem} (h59 : y 40 0 0 59 = 6) : m_X12_remembers y = some (up4 (ZK (shf y) 155 2865 573) 40 0 0 59 6) := by
  unfold m_X12_remembers
  rw [if_pos h59, e_lt]
  have h := sh_loop h59 FU 0 (Nat.zero_le _) (by unfold FU; omega)
  rw [blk_0] at h
  refine Eq.trans h ?_
  exact rem_j50 (ch := 5) (show shf y 40 0 0 59 = Int32.ofNat 5 from up4_eq) (by decide)
theorem cell_dec : ∀ f, f < 6 → ∀ m, m < 7 → (lt_ (rem32 (Int32.ofNat f + Int32.ofNat m) (6 : Int32)) fun x2_1 => if x2_1 < 0 then (some (3 : Fin 10)) else (if (6 : Int32) ≤ x2_1 then (some (3 : Fin 10)) else (gd_ x2_1 6 (lt_ (el_16 x2_1) fun o5 => lt_ (el_16 x2_1) fun o6 => some o6)))) = some (Fin.ofNat 10 (4 + (f + m) % 6)) := by decide +kernel
theorem cell_at {x : Mem} {f m : Nat} (h1 : x 15 0 0 1 = Int32.ofNat f) (hf : f < 6) (hm : m < 7) : m_X4_cellAt (Int32.ofNat m) x = some (Fin.ofNat 10 (4 + (f + m) % 6)) := by
  unfold m_X4_cellAt
  rw [h1]
  exact cell_dec f hf m hm
theorem f10 {k : Nat} (h : k < 10) : ((Fin.ofNat 10 k : Fin 10) : Nat) = k := Nat.mod_eq_of_lt h
theorem ring_dec : ∀ f, f < 6 → rem32 (Int32.ofNat f + 1) 6 = Int32.ofNat ((f + 1) % 6) := by decide +kernel
theorem Agr.up {A : St} {y : Mem} {s : Nat} {v : Int32} (hs : s < 33 ∨ 40 < s) (h : Agr A (V y)) : Agr A (V (up4 y 40 0 0 s v)) := by
  intro k t q
  rw [h k t q]
  show y k 0 0 t = up4 y 40 0 0 s v k 0 0 t
  rw [up4_ne (fun r => by
    have h1 := r.1
    subst h1
    have := mn_40 q
    omega)]
theorem Agr.rf {A : St} : Agr A A := fun _ _ _ => rfl
theorem Agr.tr {A B C : St} (h : Agr A B) (g : Agr B C) : Agr A C := fun k s q => (h k s q).trans (g k s q)
theorem Sl_up {y : Mem} {K w s : Nat} {v : Int32} (hK : K ≠ 40) : Sl (up4 y 40 0 0 s v) K w = Sl y K w := by
  funext k t
  show up4 y 40 0 0 s v K 0 0 _ = y K 0 0 _
  rw [up4_ne (fun r => hK r.1)]
theorem keep_A {i ch : Nat} {x y : Mem} (hR : Rel i x y) (h59 : y 40 0 0 59 = Int32.ofNat ch) (hc : ch < 6) : ∃ x' y', m_X4_keep_j32 0 x = some x' ∧ m_X12_remembers_j50 y = some y' ∧ Rel i x' y' ∧ Agr (V y) (V y') ∧ (∀ k a t, k < 14 → x' k 0 a t = x k 0 a t) ∧ (∀ k a t, k < 14 → x' k 1 a t = x k 1 a t) ∧ y' 40 0 0 0 = y 40 0 0 0 ∧ (∀ k, k = 157 ∨ k = 158 → y' k = y k) := by
  obtain ⟨hC, ⟨hN, hI⟩, ⟨ch0, f, a1, a2, a3, a4, a5, a6⟩, ⟨b1, b2⟩, n, c1, c2, c3, c4⟩ := hR
  have hch : ch0 = ch := (eq_n (by omega) (by omega)).mp (a4.symm.trans h59)
  subst hch
  have hd : ((Fin.ofNat 10 (4 + (f + ch0) % 6) : Fin 10) : Nat) = 4 + (f + ch0) % 6 := f10 (by omega)
  obtain ⟨x8, e8, r8, k8, o8, p8⟩ := copy_rep (d := Fin.ofNat 10 (4 + (f + ch0) % 6)) (s := 0) (by rw [hd]; show _ ≠ 0; omega) hI hN hC
  rw [hd] at r8 o8
  have hy : Agr (V y) (V (up4 (ZK y 155 (573 * ch0) 573) 40 0 0 59 (Int32.ofNat (ch0 + 1)))) := (ZK_V (by decide)).up (by decide)
  have ex : ∀ k c a t, k ≠ 15 → up4 x8 15 0 0 0 (Int32.ofNat (ch0 + 1)) k c a t = x8 k c a t := fun k c a t q => up4_ne (fun r => q r.1)
  have e80 : ∀ k a t, x8 k 0 a t = x k 0 a t := fun k a t => o8 k 0 a t (by omega)
  refine ⟨up4 x8 15 0 0 0 (Int32.ofNat (ch0 + 1)), _, ?_, rem_j50 h59 hc, ⟨fun c q => ?_, ⟨?_, hI.congr hy⟩, ⟨ch0 + 1, f, by omega, a2, up4_eq, up4_eq, ?_, fun j hj => ?_⟩, ⟨?_, ?_⟩, n, c1, ?_, ?_, fun k hk => ?_⟩, hy, fun k a t q => ?_, fun k a t q => ?_, ?_, fun k q => ?_⟩
  · unfold m_X4_keep_j32
    rw [a3, cell_at a5 a2 (by omega), e_bd, e8, e_bd, e_lt, p8 15 _ _ _ (by decide), a3, n1]
  · rw [ex _ _ _ _ (by decide)]
    exact ⟨(k8 c q).1, fun a r => by rw [ex _ _ _ _ (by decide)]; exact (k8 c q).2 a r⟩
  · exact (hN.cell (fun k a t q => by rw [ex _ _ _ _ (by omega), e80])).congr hy hI
  · rw [up4_ne (by decide), p8 15 _ _ _ (by decide)]
    exact a5
  · rw [Sl_up (by decide)]
    by_cases hj2 : j = ch0
    · subst hj2
      have hs : Agr (V y) (Sl (ZK y 155 (573 * j) 573) 155 (573 * j)) := ZK_Sl (by decide)
      exact ⟨(r8.cell (fun k a t q => ex _ _ _ _ (by omega))).congr hs hI, hI.congr hs⟩
    · have hs : Agr (Sl y 155 (573 * j)) (Sl (ZK y 155 (573 * ch0) 573) 155 (573 * j)) := ZK_oS (by decide) (by omega)
      have hne : 4 + (f + j) % 6 ≠ 4 + (f + ch0) % 6 := by omega
      obtain ⟨q1, q2⟩ := a6 j (by omega)
      exact ⟨(q1.cell (fun k a t q => by rw [ex _ _ _ _ (by omega), o8 _ _ _ _ hne])).congr hs q2, q2.congr hs⟩
  · rw [ex _ _ _ _ (by decide), p8 14 _ _ _ (by decide), up4_ne (by decide), ZK_40 (by decide) (by decide)]
    exact b1
  · rw [up4_ne (by decide), ZK_40 (by decide) (by decide), Sl_up (by decide)]
    have e6 : Sl (ZK y 155 (573 * ch0) 573) 156 0 = Sl y 156 0 := by
      funext k s
      show ZK y 155 (573 * ch0) 573 156 0 0 _ = y 156 0 0 _
      rw [ZK_o (by decide) (by decide)]
    rw [e6]
    refine b2.imp id fun q => ⟨q.1, q.2.1.cell (fun k a t r => ?_), q.2.2⟩
    rw [ex _ _ _ _ (by omega), o8 _ _ _ _ (by omega)]
  · rw [ex _ _ _ _ (by decide), p8 22 _ _ _ (by decide)]
    exact c2
  · rw [up4_ne (by decide), ZK_40 (by decide) (by decide)]
    exact c3
  · rw [ex _ _ _ _ (by decide), p8 23 _ _ _ (by decide), up4_ne (by omega), ZK_o (by decide) (by decide)]
    exact c4 k hk
  · rw [ex _ _ _ _ (by omega), e80]
  · rw [ex _ _ _ _ (by omega), o8 _ _ _ _ (by omega)]
  · rw [up4_ne (by decide), ZK_40 (by decide) (by decide)]
  · funext c a t
    rw [up4_ne (by omega), ZK_o (by omega) (by omega)]
/-- what keep of the class and remembers of the reference do -/
theorem keep_sim {i : Nat} {x y : Mem} (hR : Rel i x y) : ∃ x' y', m_X4_keep 0 x = some x' ∧ m_X12_remembers y = some y' ∧ Rel i x' y' ∧ Agr (V y) (V y') ∧ (∀ k a t, k < 14 → x' k 0 a t = x k 0 a t) ∧ (∀ k a t, k < 14 → x' k 1 a t = x k 1 a t) ∧ y' 40 0 0 0 = y 40 0 0 0 ∧ (∀ k, k = 157 ∨ k = 158 → y' k = y k) := by
  obtain ⟨hC, ⟨hN, hI⟩, ⟨ch, f, a1, a2, a3, a4, a5, a6⟩, ⟨b1, b2⟩, n, c1, c2, c3, c4⟩ := id hR
  unfold m_X4_keep
  by_cases hc : ch = 6
  · subst hc
    rw [if_pos (by rw [a3]; rfl), a5, ring_dec f a2, e_lt, e_lt]
    have h6 := sh_loop a4 FU 0 (Nat.zero_le _) (by unfold FU; omega)
    rw [blk_0] at h6
    have hrem : m_X12_remembers y = m_X12_remembers_j50 (shf y) := by
      unfold m_X12_remembers
      rw [if_pos (show y 40 0 0 59 = 6 from a4), e_lt]
      exact h6
    rw [hrem]
    have ey : ∀ k c a t, k ≠ 155 → ¬ (k = 40 ∧ t = 59) → shf y k c a t = y k c a t := fun k c a t q1 q2 => by
      unfold shf
      rw [up4_ne (fun r => q2 ⟨r.1, r.2.2.2⟩), blk_out (fun r => q1 r.1)]
    have e15 : up4 x 15 0 0 1 (Int32.ofNat ((f + 1) % 6)) 15 0 0 0 - 1 = Int32.ofNat 5 := by
      rw [up4_ne (by decide), a3]
      rfl
    rw [e15]
    have ex : ∀ k c a t, k ≠ 15 → up4 (up4 x 15 0 0 1 (Int32.ofNat ((f + 1) % 6))) 15 0 0 0 (Int32.ofNat 5) k c a t = x k c a t := fun k c a t q => by rw [up4_ne (fun r => q r.1), up4_ne (fun r => q r.1)]
    have hA : Agr (V y) (V (shf y)) := fun k s q => (ey k 0 0 s (by have := mn_K q; omega) (fun r => by
      have h1 := r.1
      subst h1
      have := mn_40 q
      omega)).symm
    have hRel : Rel i (up4 (up4 x 15 0 0 1 (Int32.ofNat ((f + 1) % 6))) 15 0 0 0 (Int32.ofNat 5)) (shf y) := by
      refine ⟨fun c q => ?_, ⟨(hN.cell (fun k a t q => ex _ _ _ _ (by omega))).congr hA hI, hI.congr hA⟩, ⟨5, (f + 1) % 6, by decide, by omega, up4_eq, up4_eq, by rw [up4_ne (by decide), up4_eq], fun j hj => ?_⟩, ⟨?_, ?_⟩, n, c1, ?_, ?_, fun k hk => ?_⟩
      · rw [ex _ _ _ _ (by decide)]
        exact ⟨(hC c q).1, fun a r => by rw [ex _ _ _ _ (by decide)]; exact (hC c q).2 a r⟩
      · have hs : Agr (Sl y 155 (573 * (j + 1))) (Sl (shf y) 155 (573 * j)) := fun k s q => by
          have h2 := (kO_off q).2
          show y 155 0 0 (573 * (j + 1) + offS k + s) = shf y 155 0 0 (573 * j + offS k + s)
          unfold shf
          rw [up4_ne (by omega), blk_in (by omega) (by omega)]
          show _ = y 155 0 0 (573 * j + offS k + s - 0 + 573)
          rw [show 573 * (j + 1) + offS k + s = 573 * j + offS k + s - 0 + 573 by omega]
        obtain ⟨q1, q2⟩ := a6 (j + 1) (by omega)
        rw [show (f + 1) % 6 + j = (f + 1) % 6 + j from rfl, show 4 + ((f + 1) % 6 + j) % 6 = 4 + (f + (j + 1)) % 6 by omega]
        exact ⟨(q1.cell (fun k a t q => ex _ _ _ _ (by omega))).congr hs q2, q2.congr hs⟩
      · rw [ex _ _ _ _ (by decide), ey _ _ _ _ (by decide) (by decide)]
        exact b1
      · have e6 : Sl (shf y) 156 0 = Sl y 156 0 := by
          funext k s
          exact ey _ _ _ _ (by decide) (by omega)
        rw [ey _ _ _ _ (by decide) (by decide), e6]
        exact b2.imp id fun q => ⟨q.1, q.2.1.cell (fun k a t r => ex _ _ _ _ (by omega)), q.2.2⟩
      · rw [ex _ _ _ _ (by decide)]
        exact c2
      · rw [ey _ _ _ _ (by decide) (by decide)]
        exact c3
      · rw [ex _ _ _ _ (by decide), ey _ _ _ _ (by decide) (by omega)]
        exact c4 k hk
    obtain ⟨x', y', e1, e2, g1, g2, g3, g4, g5, g6⟩ := keep_A hRel (ch := 5) up4_eq (by decide)
    refine ⟨x', y', e1, e2, g1, hA.tr g2, fun k a t q => by rw [g3 k a t q, ex _ _ _ _ (by omega)], fun k a t q => by rw [g4 k a t q, ex _ _ _ _ (by omega)], by rw [g5, ey _ _ _ _ (by decide) (by decide)], fun k q => ?_⟩
    rw [g6 k q]
    funext c a t
    exact ey _ _ _ _ (by omega) (by omega)
  · have hc6 : ch < 6 := by omega
    have h1 : ¬ Int32.ofNat ch = 6 := by
      rw [show (6 : Int32) = Int32.ofNat 6 from rfl, eq_n (by omega) (by decide)]
      exact hc
    rw [if_neg (by rw [a3]; exact h1)]
    have hrem : m_X12_remembers y = m_X12_remembers_j50 y := by
      unfold m_X12_remembers
      rw [if_neg (by rw [a4]; exact h1)]
    rw [hrem]
    exact keep_A hR a4 hc6
