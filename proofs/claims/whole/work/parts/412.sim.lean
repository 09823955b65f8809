theorem nar_char (e : Int32) : vp_nar .char (e.toUInt32 % 65536).toInt32 = (e.toUInt32 % 65536).toInt32 := by
  show ((e.toUInt32 % 65536).toInt32.toUInt32 % 65536).toInt32 = _
  congr 1
  apply UInt32.toNat_inj.mp
  simp
theorem sim_feed : Sim_feed Rel := by
  intro i x y p0 hp hi hR
  obtain ⟨e, rfl⟩ := hp
  have hnar := nar_char e
  generalize (e.toUInt32 % 65536).toInt32 = p0 at hnar ⊢
  obtain ⟨hC, ⟨hN, hI⟩, hH, hS, n, c1, c2, c3, c4⟩ := id hR
  by_cases hn : n = 80
  · subst hn
    refine ⟨3, 0, x, 0, up4 y 40 0 0 0 1, ?_, ?_, by decide, up4_eq, (fun h => absurd h (by decide)), (hR.th 1).up⟩
    · unfold m_X11_feed m_X3_isFull
      rw [c2, if_neg (by decide), e_bd, if_neg no1]
    · unfold m_X12_feed
      rw [c3, if_pos (by decide)]
      rfl
  have h80 : n < 80 := by omega
  have hlt : Int32.ofNat n < 80 := (lt_n (b := 80) (by omega) (by decide)).mpr h80
  have hne : ¬ Int32.ofNat n = 80 := fun q => hn ((eq_n (b := 80) (by omega) (by decide)).mp q)
  have hle : ¬ (80 : Int32) ≤ Int32.ofNat n := fun q => by have := (le_n (a := 80) (by decide) (by omega)).mp q; omega
  have ex : up4 x 23 0 0 n p0 22 0 0 2 = Int32.ofNat n := by rw [up4_ne (by omega)]; exact c2
  have eY : up4 (up4 y 40 0 0 0 0) 148 0 0 n p0 40 0 0 51 = Int32.ofNat n := by rw [up4_ne (by omega), up4_ne (by decide)]; exact c3
  refine ⟨0, Int32.ofNat (n + 1), up4 (up4 x 23 0 0 n p0) 22 0 0 2 (Int32.ofNat (n + 1)), Int32.ofNat (n + 1), up4 (up4 (up4 y 40 0 0 0 0) 148 0 0 n p0) 40 0 0 51 (Int32.ofNat (n + 1)), ?_, ?_, by decide, ?_, fun _ => rfl, ?_⟩
  · unfold m_X11_feed m_X3_isFull m_X3_append
    rw [c2, if_pos hlt, e_bd, if_pos rfl, if_neg (ge0 (by omega)), if_neg hle, gd_n h80 (by decide), tn (show n < 2 ^ 31 by omega), hnar, e_lt, e_lt, ex, n1, e_bd2, up4_eq]
  · unfold m_X12_feed
    rw [c3, if_neg hne, e_lt, up4_ne (by decide), c3, gd_n h80 (by decide), tn (show n < 2 ^ 31 by omega), e_lt, e_lt, eY, n1, up4_eq]
  · rw [up4_ne (by decide), up4_ne (by omega), up4_eq]
    rfl
  · have hA : Agr (V y) (V (up4 (up4 (up4 y 40 0 0 0 0) 148 0 0 n p0) 40 0 0 51 (Int32.ofNat (n + 1)))) := by
      refine Agr.up (by decide) ?_
      refine Agr.tr (Agr.rf.up (s := 0) (v := 0) (by decide)) (fun k s q => ?_)
      show up4 y 40 0 0 0 0 k 0 0 s = up4 (up4 y 40 0 0 0 0) 148 0 0 n p0 k 0 0 s
      rw [up4_ne (k := 148) (fun r => by have := mn_K q; omega)]
    have ey : ∀ k, k ≠ 40 → k ≠ 148 → up4 (up4 (up4 y 40 0 0 0 0) 148 0 0 n p0) 40 0 0 51 (Int32.ofNat (n + 1)) k = y k := fun k q r => by
      funext c a t
      rw [up4_ne (fun u => q u.1), up4_ne (fun u => r u.1), up4_ne (fun u => q u.1)]
    have ex2 : ∀ k c a t, k ≠ 22 → k ≠ 23 → up4 (up4 x 23 0 0 n p0) 22 0 0 2 (Int32.ofNat (n + 1)) k c a t = x k c a t := fun k c a t q r => by rw [up4_ne (fun u => q u.1), up4_ne (fun u => r u.1)]
    have e40 : ∀ s, s ≠ 0 → s ≠ 51 → up4 (up4 (up4 y 40 0 0 0 0) 148 0 0 n p0) 40 0 0 51 (Int32.ofNat (n + 1)) 40 0 0 s = y 40 0 0 s := fun s q r => by
      rw [up4_ne (fun u => r u.2.2.2), up4_ne (by omega), up4_ne (fun u => q u.2.2.2)]
    obtain ⟨ch, f, a1, a2, a3, a4, a5, a6⟩ := hH
    have e5 : ∀ K w, K = 155 ∨ K = 156 → Sl (up4 (up4 (up4 y 40 0 0 0 0) 148 0 0 n p0) 40 0 0 51 (Int32.ofNat (n + 1))) K w = Sl y K w := fun K w q => by
      unfold Sl
      rw [ey K (by omega) (by omega)]
    refine Rel.up ⟨fun c q => ?_, ⟨(hN.cell (fun k a t q => ex2 _ _ _ _ (by omega) (by omega))).congr hA hI, hI.congr hA⟩, ⟨ch, f, a1, a2, ?_, ?_, ?_, fun j hj => ?_⟩, ⟨?_, ?_⟩, n + 1, by omega, up4_eq, up4_eq, fun k hk => ?_⟩
    · rw [ex2 _ _ _ _ (by decide) (by decide)]
      exact ⟨(hC c q).1, fun a r => by rw [ex2 _ _ _ _ (by decide) (by decide)]; exact (hC c q).2 a r⟩
    · rw [ex2 _ _ _ _ (by decide) (by decide)]; exact a3
    · rw [e40 _ (by decide) (by decide)]; exact a4
    · rw [ex2 _ _ _ _ (by decide) (by decide)]; exact a5
    · rw [e5 _ _ (Or.inl rfl)]
      exact ⟨(a6 j hj).1.cell (fun k a t q => ex2 _ _ _ _ (by omega) (by omega)), (a6 j hj).2⟩
    · rw [ex2 _ _ _ _ (by decide) (by decide), e40 _ (by decide) (by decide)]; exact hS.1
    · rw [e40 _ (by decide) (by decide), e5 _ _ (Or.inr rfl)]
      exact hS.2.imp id fun q => ⟨q.1, q.2.1.cell (fun k a t r => ex2 _ _ _ _ (by omega) (by omega)), q.2.2⟩
    · rw [up4_ne (k := 22) (by omega), up4_ne (k := 40) (by omega), up4_at, up4_at]
      by_cases hkn : k = n
      · rw [if_pos ⟨rfl, rfl, rfl, hkn⟩, if_pos ⟨rfl, rfl, rfl, hkn⟩]
      · rw [if_neg (fun u => hkn u.2.2.2), if_neg (fun u => hkn u.2.2.2), up4_ne (by omega)]
        exact c4 k (by omega)
