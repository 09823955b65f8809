/-! PERFORM: what keeping leaves, and what a failure takes back -/
theorem j32_22 {x x6 : Mem} {A : St} {N ch f : Nat} (a3 : x 15 0 0 0 = Int32.ofNat ch) (a5 : x 15 0 0 1 = Int32.ofNat f) (hch : ch < 6) (a2 : f < 6) (hI : Inv A) (hN : Rep x ((0 : Fin 10) : Nat) A N) (hC : Con x) (h : m_X4_keep_j32 0 x = some x6) : x6 22 0 0 0 = x 22 0 0 0 := by
  have hd : ((Fin.ofNat 10 (4 + (f + ch) % 6) : Fin 10) : Nat) = 4 + (f + ch) % 6 := f10 (by omega)
  obtain ⟨x8, e8, r8, k8, o8, p8⟩ := copy_rep (d := Fin.ofNat 10 (4 + (f + ch) % 6)) (s := 0) (by rw [hd]; show _ ≠ 0; omega) hI hN hC
  unfold m_X4_keep_j32 at h
  rw [a3, cell_at a5 a2 (by omega), e_bd, e8, e_bd, e_lt] at h
  have h2 := Option.some.inj h
  rw [← h2, up4_ne (by decide), p8 22 _ _ _ (by decide)]
theorem keep_22 {i : Nat} {x y x6 : Mem} (hR : Rel i x y) (h : m_X4_keep 0 x = some x6) : x6 22 0 0 0 = x 22 0 0 0 := by
  obtain ⟨hC, ⟨hN, hI⟩, ⟨ch, f, a1, a2, a3, a4, a5, a6⟩, -⟩ := hR
  unfold m_X4_keep at h
  by_cases hc : ch = 6
  · subst hc
    have ex : ∀ k c a t, k ≠ 15 → up4 (up4 x 15 0 0 1 (Int32.ofNat ((f + 1) % 6))) 15 0 0 0 (Int32.ofNat 5) k c a t = x k c a t := fun k c a t q => by rw [up4_ne (fun r => q r.1), up4_ne (fun r => q r.1)]
    have e15 : up4 x 15 0 0 1 (Int32.ofNat ((f + 1) % 6)) 15 0 0 0 - 1 = Int32.ofNat 5 := by
      rw [up4_ne (by decide), a3]
      rfl
    rw [if_pos (show x 15 0 0 0 = 6 from a3), a5, ring_dec f a2, e_lt, e_lt, e15] at h
    rw [j32_22 (ch := 5) (f := (f + 1) % 6) up4_eq (by rw [up4_ne (by decide), up4_eq]) (by decide) (by omega) hI (hN.cell (fun k a t q => ex _ _ _ _ (by omega))) (fun c q => ?_) h, ex _ _ _ _ (by decide)]
    rw [ex _ _ _ _ (by decide)]
    exact ⟨(hC c q).1, fun a r => by rw [ex _ _ _ _ (by decide)]; exact (hC c q).2 a r⟩
  · rw [if_neg (show ¬ x 15 0 0 0 = 6 from fun q => hc ((eq_n (by omega) (by decide)).mp (a3.symm.trans (show x 15 0 0 0 = Int32.ofNat 6 from q))))] at h
    exact j32_22 a3 a5 (by omega) a2 hI hN hC h
theorem rem_53 {y y6 : Mem} {ch : Nat} (hc : ch ≤ 6) (h59 : y 40 0 0 59 = Int32.ofNat ch) (h : m_X12_remembers y = some y6) : y6 40 0 0 53 = y 40 0 0 53 := by
  by_cases h6 : ch = 6
  · subst h6
    rw [rem_6 h59] at h
    rw [← Option.some.inj h, up4_ne (by decide), ZK_40 (by decide) (by decide)]
    unfold shf
    rw [up4_ne (by decide), blk_out (by omega)]
  · rw [rem_lt h59 (by omega)] at h
    rw [← Option.some.inj h, up4_ne (by decide), ZK_40 (by decide) (by decide)]
theorem kp_158 {y : Mem} : m_X12_passAll (158, 0, 0) 573 0 1 y = some (ZK y 158 0 573) := keep_all (W := 0) (by decide) (by decide) (by decide)
theorem tk_158 {y : Mem} : m_X12_passAll (158, 0, 0) 573 0 0 y = some (ZT y 158 0 573) := take_all (W := 0) (by decide) (by decide) (by decide)
theorem tk_157 {y : Mem} : m_X12_passAll (157, 0, 0) 573 0 0 y = some (ZT y 157 0 573) := take_all (W := 0) (by decide) (by decide) (by decide)
/-- behind the commands, the state of before taken back -/
theorem back_A {y y1 y' : Mem} (hY : FYw (ZK y 158 0 573) y1) (h8 : ∀ s, y' 158 0 0 s = y1 158 0 0 s) : Agr (V y) (V (ZT y' 158 0 573)) := by
  have eS : Sl y' 158 0 = Sl (ZK y 158 0 573) 158 0 := by
    funext k s
    exact (h8 _).trans (hY _ _ _ _ (by omega))
  refine Agr.tr (B := Sl y' 158 0) ?_ ZT_V
  rw [eS]
  exact ZK_Sl (by decide)
theorem fore8 {i : Nat} {x y x' y1 y' : Mem} (hR : Rel i x y) (hC : Con x') (h1 : ∀ k c a t, k < 14 → c ≠ 1 → x' k c a t = x k c a t) (h2 : ∀ k c a t, 14 ≤ k → ¬ (18 ≤ k ∧ k ≤ 21) → x' k c a t = x k c a t) (hY : FYw (ZK y 158 0 573) y1) (h8 : ∀ k d a s, 148 ≤ k → k ≠ 157 → y' k d a s = y1 k d a s) (h40 : ∀ s, 47 ≤ s → s ≠ 60 → s ≠ 62 → y' 40 0 0 s = y1 40 0 0 s) : Rel i x' (ZT y' 158 0 573) := by
  obtain ⟨-, ⟨hN, hI⟩, -⟩ := id hR
  have hA : Agr (V y) (V (ZT y' 158 0 573)) := back_A hY (fun s => h8 _ _ _ _ (by decide) (by decide))
  have e40 : ∀ s, 47 ≤ s → s ≠ 60 → s ≠ 62 → ZT y' 158 0 573 40 0 0 s = y 40 0 0 s := fun s q1 q2 q3 => by
    rw [ZT_40 ⟨q2, q3⟩ (by omega), h40 s q1 q2 q3, hY _ _ _ _ (by omega), ZK_40 (by decide) ⟨q2, q3⟩]
  have eK : ∀ k s, 148 ≤ k → k ≠ 158 → k ≠ 157 → ZT y' 158 0 573 k 0 0 s = y k 0 0 s := fun k s q1 q2 q3 => by
    rw [ZT_o (by omega), h8 _ _ _ _ q1 q3, hY _ _ _ _ (by omega), ZK_o q2 (by omega)]
  exact hR.main (Nat.le_refl _) hC ((hN.cell (fun k a t q => h1 _ _ _ _ q (by decide))).congr hA hI) (hI.congr hA) (fun k c a t q _ r => h1 _ _ _ _ q r) (fun k c a t q => h2 _ _ _ _ (by omega) (by omega)) (fun s => eK _ _ (by omega) (by omega) (by omega)) (fun s => eK _ _ (by omega) (by omega) (by omega)) (fun s => eK _ _ (by omega) (by omega) (by omega)) (e40 _ (by omega) (by omega) (by omega)) (e40 _ (by omega) (by omega) (by omega)) (e40 _ (by omega) (by omega) (by omega))
