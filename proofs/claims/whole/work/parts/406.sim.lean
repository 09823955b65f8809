theorem s1 {c : Nat} : Int32.ofNat (c + 1) - 1 = Int32.ofNat c := by rw [← n1, Int32.add_sub_cancel]
theorem time_eq {x : Mem} {c N : Nat} {A : St} (h : Rep x c A N) : x 2 c 0 0 = A 40 33 := h.1.1
theorem sim_undo : Sim_undo Rel := by
  intro i x y hi hR
  obtain ⟨hC, ⟨hN, hI⟩, ⟨ch, f, a1, a2, a3, a4, a5, a6⟩, ⟨b1, b2⟩, n, c1, c2, c3, c4⟩ := id hR
  unfold m_X11_undo m_X12_undo
  cases ch with
  | zero => exact ⟨3, 0, x, 0, up4 y 40 0 0 0 1, by rw [if_pos (by rw [a3]; rfl)], by rw [if_pos (by rw [a4]; rfl)]; rfl, by decide, up4_eq, (fun h => absurd h (by decide)), (hR.th 1).up⟩
  | succ c =>
    have hz : ¬ Int32.ofNat (c + 1) = 0 := by
      rw [show (0 : Int32) = Int32.ofNat 0 from rfl, eq_n (by omega) (by decide)]
      omega
    have hs : ((Fin.ofNat 10 (4 + (f + c) % 6) : Fin 10) : Nat) = 4 + (f + c) % 6 := f10 (by omega)
    obtain ⟨q1, q2⟩ := a6 c (by omega)
    have ex : ∀ k c' a t, k ≠ 15 → up4 x 15 0 0 0 (Int32.ofNat c) k c' a t = x k c' a t := fun k c' a t q => up4_ne (fun r => q r.1)
    have hC1 : Con (up4 x 15 0 0 0 (Int32.ofNat c)) := fun c' q => by
      rw [ex _ _ _ _ (by decide)]
      exact ⟨(hC c' q).1, fun a r => by rw [ex _ _ _ _ (by decide)]; exact (hC c' q).2 a r⟩
    obtain ⟨x6, e6, r6, k6, o6, p6⟩ := copy_rep (d := 0) (s := Fin.ofNat 10 (4 + (f + c) % 6)) (by rw [hs]; show 0 ≠ _; omega) q2 (show Rep (up4 x 15 0 0 0 (Int32.ofNat c)) _ _ (SAT * i) by rw [hs]; exact q1.cell (fun k a t q => ex _ _ _ _ (by omega))) hC1
    rw [if_neg (by rw [a3]; exact hz), if_neg (by rw [a4]; exact hz), e_lt, e_lt]
    have ey : up4 y 40 0 0 0 0 40 0 0 59 - 1 = Int32.ofNat c := by rw [up4_ne (by decide), a4, s1]
    rw [ey, up4_eq, mul573, take_all (by decide) (by decide) (by omega), e_bd]
    generalize hy3 : up4 (up4 y 40 0 0 0 0) 40 0 0 59 (Int32.ofNat c) = y3
    have e3 : ∀ k, k ≠ 40 → y3 k = y k := fun k q => by
      rw [← hy3]
      funext c' a t
      rw [up4_ne (fun r => q r.1), up4_ne (fun r => q r.1)]
    have e34 : ∀ s, s ≠ 0 → s ≠ 59 → y3 40 0 0 s = y 40 0 0 s := fun s q r => by
      rw [← hy3, up4_ne (fun u => r u.2.2.2), up4_ne (fun u => q u.2.2.2)]
    have e59 : y3 40 0 0 59 = Int32.ofNat c := by rw [← hy3, up4_eq]
    have e0 : y3 40 0 0 0 = 0 := by rw [← hy3, up4_ne (by decide), up4_eq]
    have eS : ∀ w, Sl y3 155 w = Sl y 155 w := fun w => by
      unfold Sl
      rw [e3 155 (by decide)]
    have hv : Agr (Sl y 155 (573 * c)) (V (ZT y3 155 (573 * c) 573)) := by
      rw [← eS]
      exact ZT_V
    have o6' : ∀ k c' a t, k ≠ 15 → c' ≠ 0 → x6 k c' a t = x k c' a t := fun k c' a t q r => (o6 k c' a t r).trans (ex _ _ _ _ q)
    refine ⟨0, Int32.ofNat c, x6, Int32.ofNat c, ZT y3 155 (573 * c) 573, ?_, ?_, by decide, ?_, fun _ => rfl, Rel.up ⟨k6, ⟨r6.congr hv q2, q2.congr hv⟩, ⟨c, f, by omega, a2, ?_, ?_, ?_, fun j hj => ?_⟩, ⟨?_, ?_⟩, n, c1, ?_, ?_, fun k hk => ?_⟩⟩
    · unfold m_X4_takeBackInto
      rw [e_lt, a3, s1, up4_eq, cell_at (by rw [up4_ne (by decide)]; exact a5) a2 (by omega), e_bd, e6, e_bd, e_bd2, p6 15 _ _ _ (by decide), up4_eq]
    · rw [ZT_40 (by decide) (by decide), e59]
    · rw [ZT_40 (by decide) (by decide), e0]
      rfl
    · rw [p6 15 _ _ _ (by decide), up4_eq]
    · rw [ZT_40 (by decide) (by decide), e59]
    · rw [p6 15 _ _ _ (by decide), up4_ne (by decide)]
      exact a5
    · have e5 : Sl (ZT y3 155 (573 * c) 573) 155 (573 * j) = Sl y 155 (573 * j) := by
        unfold Sl
        rw [ZT_o (by decide), e3 155 (by decide)]
      rw [e5]
      obtain ⟨g1, g2⟩ := a6 j (by omega)
      exact ⟨g1.cell (fun k a t q => o6' _ _ _ _ (by omega) (by omega)), g2⟩
    · rw [p6 14 _ _ _ (by decide), ex _ _ _ _ (by decide), ZT_40 (by decide) (by decide), e34 _ (by decide) (by decide)]
      exact b1
    · have e5 : Sl (ZT y3 155 (573 * c) 573) 156 0 = Sl y 156 0 := by
        unfold Sl
        rw [ZT_o (by decide), e3 156 (by decide)]
      rw [ZT_40 (by decide) (by decide), e34 _ (by decide) (by decide), e5]
      exact b2.imp id fun q => ⟨q.1, q.2.1.cell (fun k a t r => o6' _ _ _ _ (by omega) (by decide)), q.2.2⟩
    · rw [p6 22 _ _ _ (by decide), ex _ _ _ _ (by decide)]
      exact c2
    · rw [ZT_40 (by decide) (by decide), e34 _ (by decide) (by decide)]
      exact c3
    · rw [p6 23 _ _ _ (by decide), ex _ _ _ _ (by decide), ZT_o (by decide), e3 148 (by decide)]
      exact c4 k hk
theorem sim_save : Sim_save Rel := by
  intro i x y hi hR
  obtain ⟨hC, ⟨hN, hI⟩, ⟨ch, f, a1, a2, a3, a4, a5, a6⟩, ⟨b1, b2⟩, n, c1, c2, c3, c4⟩ := id hR
  unfold m_X11_save m_X12_save
  obtain ⟨x3, e3, r3, k3, o3, p3⟩ := copy_rep (d := 2) (s := 0) (by decide) hI hN hC
  rw [e3, e_bd, e_lt, e_lt, e_lt, show (0 : Int32) = Int32.ofNat 0 from rfl]
  generalize hy2 : up4 (up4 y 40 0 0 0 (Int32.ofNat 0)) 40 0 0 61 1 = y2
  rw [keep_all (by decide) (by decide) (by decide), e_bd]
  have eY : ∀ k, k ≠ 40 → y2 k = y k := fun k q => by
    rw [← hy2]
    funext c' a t
    rw [up4_ne (fun r => q r.1), up4_ne (fun r => q r.1)]
  have e40 : ∀ s, s ≠ 0 → s ≠ 61 → y2 40 0 0 s = y 40 0 0 s := fun s q r => by
    rw [← hy2, up4_ne (fun u => r u.2.2.2), up4_ne (fun u => q u.2.2.2)]
  have e61 : y2 40 0 0 61 = 1 := by rw [← hy2, up4_eq]
  have hy : Agr (V y) (V y2) := by
    rw [← hy2]
    exact (Agr.rf.up (by decide)).up (by decide)
  have hv : Agr (V y) (V (ZK y2 156 0 573)) := hy.tr (ZK_V (by decide))
  have hs : Agr (V y) (Sl (ZK y2 156 0 573) 156 0) := hy.tr (ZK_Sl (by decide))
  have ex : ∀ k c a t, k ≠ 14 → up4 x3 14 0 0 3 1 k c a t = x3 k c a t := fun k c a t q => up4_ne (fun r => q r.1)
  have e0 : ∀ k a t, x3 k 0 a t = x k 0 a t := fun k a t => o3 k 0 a t (by decide)
  have et : up4 x3 14 0 0 3 1 2 0 0 0 = V y 40 33 := by rw [ex _ _ _ _ (by decide), e0]; exact time_eq hN
  refine ⟨V y 40 33, up4 x3 14 0 0 3 1, ZK y2 156 0 573, ?_, ?_, Rel.up ⟨fun c q => ?_, ⟨?_, hI.congr hv⟩, ⟨ch, f, a1, a2, ?_, ?_, ?_, fun j hj => ?_⟩, ⟨?_, Or.inr ⟨?_, ?_, hI.congr hs⟩⟩, n, c1, ?_, ?_, fun k hk => ?_⟩⟩
  · rw [show up4 x3 14 0 0 3 1 2 ((0 : Fin 10) : Nat) 0 0 = V y 40 33 from et]
  · rw [show ZK y2 156 0 573 40 0 0 33 = V y 40 33 from (hv 40 33 (mnS (by decide) (by decide))).symm]
  · rw [ex _ _ _ _ (by decide)]
    exact ⟨(k3 c q).1, fun a r => by rw [ex _ _ _ _ (by decide)]; exact (k3 c q).2 a r⟩
  · exact (hN.cell (fun k a t q => by rw [ex _ _ _ _ (by omega), e0])).congr hv hI
  · rw [ex _ _ _ _ (by decide), p3 15 _ _ _ (by decide)]
    exact a3
  · rw [ZK_40 (by decide) (by decide), e40 _ (by decide) (by decide)]
    exact a4
  · rw [ex _ _ _ _ (by decide), p3 15 _ _ _ (by decide)]
    exact a5
  · have e5 : Sl (ZK y2 156 0 573) 155 (573 * j) = Sl y 155 (573 * j) := by
      unfold Sl
      rw [ZK_o (by decide) (by decide), eY 155 (by decide)]
    rw [e5]
    obtain ⟨g1, g2⟩ := a6 j hj
    exact ⟨g1.cell (fun k a t q => by rw [ex _ _ _ _ (by omega), o3 _ _ _ _ (show 4 + (f + j) % 6 ≠ ((2 : Fin 10) : Nat) by show _ ≠ 2; omega)]), g2⟩
  · rw [up4_eq, ZK_40 (by decide) (by decide), e61]
  · rw [ZK_40 (by decide) (by decide), e61]
  · exact (r3.cell (fun k a t q => ex _ _ _ _ (by omega))).congr hs hI
  · rw [ex _ _ _ _ (by decide), p3 22 _ _ _ (by decide)]
    exact c2
  · rw [ZK_40 (by decide) (by decide), e40 _ (by decide) (by decide)]
    exact c3
  · rw [ex _ _ _ _ (by decide), p3 23 _ _ _ (by decide), ZK_o (by decide) (by decide), eY 148 (by decide)]
    exact c4 k hk
theorem sim_restore : Sim_restore Rel := by
  intro i x y hi hR
  obtain ⟨hC, ⟨hN, hI⟩, ⟨ch, f, a1, a2, a3, a4, a5, a6⟩, ⟨b1, b2⟩, n, c1, c2, c3, c4⟩ := id hR
  unfold m_X11_restore m_X12_restore
  rcases b2 with b2 | ⟨b2, q1, q2⟩
  · exact ⟨3, 0, x, 0, up4 y 40 0 0 0 1, by rw [if_pos (b1.trans b2)], by rw [if_pos b2]; rfl, by decide, up4_eq, (fun h => absurd h (by decide)), (hR.th 1).up⟩
  have hn0 : ¬ ((1 : Int32) = 0) := by decide
  obtain ⟨x4, e4, r4, k4, o4, p4⟩ := copy_rep (d := 0) (s := 2) (by decide) q2 q1 hC
  rw [if_neg (by rw [b1, b2]; exact hn0), if_neg (by rw [b2]; exact hn0), e4, e_bd, e_lt]
  unfold m_X4_forget
  rw [e_lt, e_bd]
  generalize hy2 : up4 y 40 0 0 0 0 = y2
  have htk := take_all (y := y2) (K := 156) (W := 0) (N := 573) (by decide) (by decide) (by decide)
  rw [show (m_X12_passAll (156, 0, 0) 573 0 0 y2) = some (ZT y2 156 0 573) from htk, e_bd, e_lt]
  have eY : ∀ k, k ≠ 40 → y2 k = y k := fun k q => by
    rw [← hy2]
    funext c' a t
    rw [up4_ne (fun r => q r.1)]
  have e40 : ∀ s, s ≠ 0 → y2 40 0 0 s = y 40 0 0 s := fun s q => by
    rw [← hy2, up4_ne (fun u => q u.2.2.2)]
  have e00 : y2 40 0 0 0 = 0 := by rw [← hy2, up4_eq]
  have eS : Sl y2 156 0 = Sl y 156 0 := by
    unfold Sl
    rw [eY 156 (by decide)]
  have hv : Agr (Sl y 156 0) (V (up4 (ZT y2 156 0 573) 40 0 0 59 0)) := by
    rw [← eS]
    exact Agr.up (by decide) ZT_V
  have ex : ∀ k c a t, k ≠ 15 → up4 x4 15 0 0 0 0 k c a t = x4 k c a t := fun k c a t q => up4_ne (fun r => q r.1)
  have et : up4 x4 15 0 0 0 0 2 0 0 0 = Sl y 156 0 40 33 := by rw [ex _ _ _ _ (by decide)]; exact time_eq r4
  refine ⟨0, Sl y 156 0 40 33, up4 x4 15 0 0 0 0, Sl y 156 0 40 33, up4 (ZT y2 156 0 573) 40 0 0 59 0, ?_, ?_, by decide, ?_, fun _ => rfl, Rel.up ⟨fun c q => ?_, ⟨?_, q2.congr hv⟩, ⟨0, f, by decide, a2, up4_eq, up4_eq, ?_, fun j hj => by omega⟩, ⟨?_, Or.inr ⟨?_, ?_, ?_⟩⟩, n, c1, ?_, ?_, fun k hk => ?_⟩⟩
  · rw [show up4 x4 15 0 0 0 0 2 ((0 : Fin 10) : Nat) 0 0 = Sl y 156 0 40 33 from et]
  · rw [hv 40 33 (mnS (by decide) (by decide))]
    rfl
  · rw [up4_ne (by decide), ZT_40 (by decide) (by decide), e00]
    rfl
  · rw [ex _ _ _ _ (by decide)]
    exact ⟨(k4 c q).1, fun a r => by rw [ex _ _ _ _ (by decide)]; exact (k4 c q).2 a r⟩
  · exact (r4.cell (fun k a t q => ex _ _ _ _ (by omega))).congr hv q2
  · rw [up4_ne (by decide), p4 15 _ _ _ (by decide)]
    exact a5
  · rw [ex _ _ _ _ (by decide), p4 14 _ _ _ (by decide), up4_ne (by decide), ZT_40 (by decide) (by decide), e40 _ (by decide)]
    exact b1
  · rw [up4_ne (by decide), ZT_40 (by decide) (by decide), e40 _ (by decide)]
    exact b2
  · rw [Sl_up (by decide)]
    have e5 : Sl (ZT y2 156 0 573) 156 0 = Sl y 156 0 := by
      unfold Sl
      rw [ZT_o (by decide), eY 156 (by decide)]
    rw [e5]
    exact q1.cell (fun k a t q => by rw [ex _ _ _ _ (by omega), o4 _ _ _ _ (show (2 : Nat) ≠ ((0 : Fin 10) : Nat) by decide)])
  · rw [Sl_up (by decide)]
    have e5 : Sl (ZT y2 156 0 573) 156 0 = Sl y 156 0 := by
      unfold Sl
      rw [ZT_o (by decide), eY 156 (by decide)]
    rw [e5]
    exact q2
  · rw [ex _ _ _ _ (by decide), p4 22 _ _ _ (by decide)]
    exact c2
  · rw [up4_ne (by decide), ZT_40 (by decide) (by decide), e40 _ (by decide)]
    exact c3
  · rw [ex _ _ _ _ (by decide), p4 23 _ _ _ (by decide), up4_ne (by omega), ZT_o (by decide), eY 148 (by decide)]
    exact c4 k hk
