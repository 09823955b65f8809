theorem icnt_congr {A B : St} (h : ∀ z, z < 8 → A 101 z = B 101 z) : icnt A = icnt B := by
  unfold icnt
  exact sumT_congr 8 fun z hz => by rw [h z hz]
theorem Rep.congr {x : Mem} {c N : Nat} {A B : St} (h : Agr A B) (hI : Inv A) (hR : Rep x c A N) : Rep x c B N := by
  have hjb : ∀ a, a < 3 → ajob A a < 30 := fun a ha => hI.job ha
  obtain ⟨J, hJ, e1, hj, ha, hb, hz, hd⟩ := hI
  obtain ⟨r1, r2, r3, r4, r5, r6⟩ := hR
  have s3 : ∀ k a, (k = 103 ∨ k = 104 ∨ (106 ≤ k ∧ k ≤ 111) ∨ (113 ≤ k ∧ k ≤ 121)) → a < 3 → B k a = A k a := fun k a q r => (h k a (mn3 q r)).symm
  have sS : ∀ s, 33 ≤ s → s ≤ 40 → B 40 s = A 40 s := fun s q r => (h 40 s (mnS q r)).symm
  refine ⟨?_, ⟨?_, fun z q => ?_⟩, ?_, fun a q => ?_, fun b q => ?_, fun j q => ?_⟩
  · unfold RSca at r1 ⊢
    rw [sS 33 (by decide) (by decide), sS 34 (by decide) (by decide), sS 35 (by decide) (by decide), sS 36 (by decide) (by decide), sS 37 (by decide) (by decide), sS 38 (by decide) (by decide), sS 39 (by decide) (by decide)]
    exact r1
  · rw [← icnt_congr (fun z q => h 101 z (mn8 (by decide) q))]
    exact r2.1
  · rw [← h 101 z (mn8 (by decide) q), ← h 102 z (mn8 (by decide) q)]
    exact r2.2 z q
  · obtain ⟨g0, M, g1, g2, g3, g4⟩ := r3
    refine ⟨by rw [sS 35 (by decide) (by decide)]; exact g0, M, g1, g2, by rw [sS 40 (by decide) (by decide)]; exact g3, fun i w q r => ?_⟩
    rw [← h 132 _ (mnL (by omega))]
    exact g4 i w q r
  · have g := r4 a q
    unfold RArm at g ⊢
    rw [s3 110 a (by decide) q, s3 111 a (by decide) q, s3 113 a (by decide) q, s3 114 a (by decide) q, s3 115 a (by decide) q, s3 116 a (by decide) q, s3 117 a (by decide) q, s3 118 a (by decide) q, s3 119 a (by decide) q, s3 120 a (by decide) q, s3 121 a (by decide) q, ← hold_congr h q (hjb a q)]
    obtain ⟨g1, g2, g3, g4, g5, g6, g7, g8, g9, g10, g11, g12, g13⟩ := g
    refine ⟨g1, g2, g3, g4, g5, g6, g7, g8, g9, g10, g11, g12, fun k hk => ?_⟩
    obtain ⟨-, r, w1, w2, -⟩ := ha a q
    have hk2 : k < r := by rw [w1, tn (by omega)] at hk; exact hk
    rw [← h 112 _ (mnR (by omega))]
    exact g13 k hk
  · have g := r5 b q
    unfold RSto at g ⊢
    rw [s3 103 b (by decide) q, s3 104 b (by decide) q, s3 106 b (by decide) q, s3 107 b (by decide) q, s3 108 b (by decide) q, s3 109 b (by decide) q]
    obtain ⟨g1, g2, g3, g4, g5, g6, g7⟩ := g
    refine ⟨g1, g2, g3, g4, g5, g6, fun k hk => ?_⟩
    obtain ⟨cap, n, pp, pr, w1, w2, w3, w4, w5, w6, -⟩ := hb b q
    have hk2 : k < n := by rw [w2, tn (by omega)] at hk; exact hk
    rw [← h 105 _ (mnP (by omega))]
    exact g7 k hk
  · have hq : j < J := by rw [sS 34 (by decide) (by decide), e1, tn (by omega)] at q; exact q
    have h30 : j < 30 := by omega
    have g := r6 j (by rw [e1, tn (by omega)]; exact hq)
    unfold RJob at g ⊢
    rw [← h 122 j (mn30 (by decide) (by decide) h30), ← h 123 j (mn30 (by decide) (by decide) h30), ← h 124 j (mn30 (by decide) (by decide) h30), ← h 125 j (mn30 (by decide) (by decide) h30), ← h 126 j (mn30 (by decide) (by decide) h30), ← h 127 j (mn30 (by decide) (by decide) h30), ← h 128 j (mn30 (by decide) (by decide) h30), ← h 129 j (mn30 (by decide) (by decide) h30), ← h 130 j (mn30 (by decide) (by decide) h30), ← h 131 j (mn30 (by decide) (by decide) h30)]
    exact g
theorem Rep.mono {x : Mem} {c N N' : Nat} {A : St} (h : N ≤ N') (hR : Rep x c A N) : Rep x c A N' := by
  obtain ⟨r1, r2, ⟨⟨P, g3, g4⟩, M, g1, g2⟩, r4⟩ := hR
  exact ⟨r1, r2, ⟨⟨P, by omega, g4⟩, M, by omega, g2⟩, r4⟩
/-- the cell c of x and the cell d of x' hold the same, but for the arms' numbers and what is past the ends -/
theorem Rep.cell {x x' : Mem} {c N : Nat} {A : St} (h : ∀ k i s, k < 14 → x' k c i s = x k c i s) (hR : Rep x c A N) : Rep x' c A N := by
  obtain ⟨r1, r2, ⟨g0, M, g1, g2, g3, g4⟩, r4, r5, r6⟩ := hR
  refine ⟨?_, ⟨?_, fun z q => ?_⟩, ⟨g0, M, g1, ?_, g3, fun i w q r => ?_⟩, fun a q => ?_, fun b q => ?_, fun j q => ?_⟩
  · unfold RSca at r1 ⊢
    rw [h 2 0 0 (by decide), h 2 0 1 (by decide), h 2 0 2 (by decide), h 2 0 3 (by decide), h 2 0 4 (by decide), h 2 0 5 (by decide), h 2 0 6 (by decide)]
    exact r1
  · rw [h 3 0 0 (by decide)]
    exact r2.1
  · rw [h 4 0 z (by decide), h 5 0 z (by decide)]
    exact r2.2 z q
  · rw [h 6 0 0 (by decide)]
    exact g2
  · rw [h 7 0 _ (by decide)]
    exact g4 i w q r
  · have g := r4 a q
    unfold RArm at g ⊢
    obtain ⟨g1, g2, g3, g4, g5, g6, g7, g8, g9, g10, g11, g12, g13⟩ := g
    refine ⟨?_, ?_, ?_, ?_, ?_, ?_, ?_, ?_, ?_, ?_, ?_, ?_, fun k hk => ?_⟩
    all_goals first | (rw [h 0 a _ (by decide)]; assumption) | (rw [h 1 a k (by decide)]; exact g13 k hk)
  · have g := r5 b q
    unfold RSto at g ⊢
    obtain ⟨g1, g2, g3, g4, g5, g6, g7⟩ := g
    refine ⟨?_, ?_, ?_, ?_, ?_, ?_, fun k hk => ?_⟩
    all_goals first | (rw [h 9 b _ (by decide)]; assumption) | (rw [h 10 b k (by decide)]; exact g7 k hk)
  · have g := r6 j q
    unfold RJob at g ⊢
    rw [h 12 j 0 (by decide), h 12 j 1 (by decide), h 12 j 2 (by decide), h 12 j 3 (by decide), h 12 j 4 (by decide), h 12 j 5 (by decide), h 12 j 6 (by decide), h 12 j 7 (by decide), h 12 j 8 (by decide), h 12 j 9 (by decide)]
    exact g
theorem Rel.y {i : Nat} {x y y' : Mem} (hR : Rel i x y) (hA : Agr (V y) (V y')) (h155 : y' 155 0 0 = y 155 0 0) (h156 : y' 156 0 0 = y 156 0 0) (h148 : y' 148 0 0 = y 148 0 0) (h59 : y' 40 0 0 59 = y 40 0 0 59) (h61 : y' 40 0 0 61 = y 40 0 0 61) (h51 : y' 40 0 0 51 = y 40 0 0 51) : Rel i x y' := by
  obtain ⟨hC, ⟨hN, hI⟩, ⟨ch, f, a1, a2, a3, a4, a5, a6⟩, ⟨b1, b2⟩, n, c1, c2, c3, c4⟩ := hR
  have e5 : ∀ w, Sl y' 155 w = Sl y 155 w := fun w => by funext k s; unfold Sl; rw [h155]
  have e6 : ∀ w, Sl y' 156 w = Sl y 156 w := fun w => by funext k s; unfold Sl; rw [h156]
  refine ⟨hC, ⟨hN.congr hA hI, hI.congr hA⟩, ⟨ch, f, a1, a2, a3, by rw [h59]; exact a4, a5, fun j hj => by rw [e5]; exact a6 j hj⟩, ⟨by rw [h61]; exact b1, by rw [h61, e6]; exact b2⟩, n, c1, c2, by rw [h51]; exact c3, fun k hk => by rw [h148]; exact c4 k hk⟩
theorem Rel.th {i : Nat} {x y : Mem} (hR : Rel i x y) (v : Int32) : Rel i x (up4 y 40 0 0 0 v) := by
  refine hR.y (fun k s h => ?_) rfl rfl rfl rfl rfl rfl
  show y k 0 0 s = up4 y 40 0 0 0 v k 0 0 s
  unfold up4
  by_cases hk : k = 40 ∧ (0 : Nat) = 0 ∧ (0 : Nat) = 0
  · rw [if_pos hk]
    have hs : s ≠ 0 := by
      rcases h with ⟨_, h1, _⟩ | ⟨h1, _⟩
      · omega
      · omega
    obtain ⟨rfl, -⟩ := hk
    show _ = upd _ _ _ _
    unfold upd
    rw [if_neg hs]
  · rw [if_neg hk]
theorem Rel.up {i : Nat} {x y : Mem} (hR : Rel i x y) : Rel (i + 1) x y := by
  have hm : SAT * i ≤ SAT * (i + 1) := Nat.mul_le_mul_left _ (Nat.le_succ i)
  obtain ⟨hC, ⟨hN, hI⟩, ⟨ch, f, a1, a2, a3, a4, a5, a6⟩, ⟨b1, b2⟩, c⟩ := hR
  exact ⟨hC, ⟨hN.mono hm, hI⟩, ⟨ch, f, a1, a2, a3, a4, a5, fun j hj => ⟨(a6 j hj).1.mono hm, (a6 j hj).2⟩⟩, ⟨b1, b2.imp id fun q => ⟨q.1, q.2.1.mono hm, q.2.2⟩⟩, c⟩
/-! what is asked: the readings -/
theorem arm_at {c : Fin 10} {k : Nat} (h : k < 3) : m_X1_armAt c (Int32.ofNat k) = some (c, Fin.ofNat 4 k) := by
  match k, h with
  | 0, _ => rfl
  | 1, _ => rfl
  | 2, _ => rfl
theorem sto_at {c : Fin 10} {k : Nat} (h : k < 3) : m_X1_storeAt c (Int32.ofNat k) = some (c, Fin.ofNat 4 k) := by
  match k, h with
  | 0, _ => rfl
  | 1, _ => rfl
  | 2, _ => rfl
theorem f4 {k : Nat} (h : k < 3) : ((Fin.ofNat 4 k : Fin 4) : Nat) = k := Nat.mod_eq_of_lt (by omega)
theorem sim_buffer : Sim_buffer Rel := by
  intro i x y p0 p1 hi hR
  by_cases h1 : p0 < 0 ∨ (2 : Int32) < p0
  · refine ⟨1, 0, x, 0, up4 y 40 0 0 0 1, ?_, ?_, by decide, rfl, (fun h => absurd h (by decide)), (hR.th 1).up⟩
    · simp only [m_X11_buffer, m_X11_needBuffer, iw_out h1, e_bd, e_bx1, if_true]
    · simp only [m_X12_buffer, m_X12_isBuffer, ib_out h1, e_bd, e_gb0, if_true, m_X12_fails, e_lt, e_bd2]
  have i1 := iw_in h1
  have i2 := ib_in h1
  obtain ⟨b, hb, rfl⟩ := ex_n (n := 2) (fun q => h1 (Or.inl q)) (fun q => h1 (Or.inr q)) (by decide)
  have hb3 : b < 3 := by omega
  by_cases h2 : p1 < 0 ∨ (5 : Int32) < p1
  · refine ⟨2, 0, x, 0, up4 y 40 0 0 0 2, ?_, ?_, by decide, rfl, (fun h => absurd h (by decide)), (hR.th 2).up⟩
    · simp only [m_X11_buffer, m_X11_needBuffer, m_X11_need, i1, iw_out h2, e_bd, e_bx0, e_bx1, if_true, show ¬ ((1 : Int32) = 0) by decide, if_false]
    · simp only [m_X12_buffer, m_X12_isBuffer, i2, ib_out h2, e_bd, e_gb1, if_true, m_X12_fails, e_lt, e_bd2, show ¬ ((1 : Int32) = 0) by decide, if_false]
  have i3 := iw_in h2
  have i4 := ib_in h2
  obtain ⟨w, hw, rfl⟩ := ex_n (n := 5) (fun q => h2 (Or.inl q)) (fun q => h2 (Or.inr q)) (by decide)
  obtain ⟨-, ⟨⟨-, -, -, -, r5, -⟩, -⟩, -⟩ := id hR
  replace r5 : ∀ b, b < 3 → RSto x ((0 : Fin 10) : Nat) (V y) b := r5
  obtain ⟨g1, g2, g3, g4, g5, g6, -⟩ := r5 b hb3
  have hn0 : ¬ ((1 : Int32) = 0) := by decide
  match w, hw with
  | 0, _ => exact ⟨0, V y 103 b, x, V y 103 b, up4 y 40 0 0 0 0, by simp only [m_X11_buffer, m_X11_needBuffer, m_X11_need, i1, i3, e_bd, e_bx0, if_neg hn0, sto_at hb3, m_X9_about, f4 hb3, g1]; rfl, by simp only [m_X12_buffer, m_X12_isBuffer, i2, i4, e_bd, e_gb1, if_neg hn0, e_lt, gd_n hb3 (show 3 < 2 ^ 31 by decide), tn (show b < 2 ^ 31 by omega)]; rfl, Or.inl rfl, rfl, fun _ => rfl, (hR.th 0).up⟩
  | 1, _ => exact ⟨0, V y 104 b, x, V y 104 b, up4 y 40 0 0 0 0, by simp only [m_X11_buffer, m_X11_needBuffer, m_X11_need, i1, i3, e_bd, e_bx0, if_neg hn0, sto_at hb3, m_X9_about, f4 hb3, g2]; rfl, by simp only [m_X12_buffer, m_X12_isBuffer, i2, i4, e_bd, e_gb1, if_neg hn0, e_lt, gd_n hb3 (show 3 < 2 ^ 31 by decide), tn (show b < 2 ^ 31 by omega)]; rfl, Or.inl rfl, rfl, fun _ => rfl, (hR.th 0).up⟩
  | 2, _ => exact ⟨0, V y 106 b, x, V y 106 b, up4 y 40 0 0 0 0, by simp only [m_X11_buffer, m_X11_needBuffer, m_X11_need, i1, i3, e_bd, e_bx0, if_neg hn0, sto_at hb3, m_X9_about, f4 hb3, g3]; rfl, by simp only [m_X12_buffer, m_X12_isBuffer, i2, i4, e_bd, e_gb1, if_neg hn0, e_lt, gd_n hb3 (show 3 < 2 ^ 31 by decide), tn (show b < 2 ^ 31 by omega)]; rfl, Or.inl rfl, rfl, fun _ => rfl, (hR.th 0).up⟩
  | 3, _ => exact ⟨0, V y 107 b, x, V y 107 b, up4 y 40 0 0 0 0, by simp only [m_X11_buffer, m_X11_needBuffer, m_X11_need, i1, i3, e_bd, e_bx0, if_neg hn0, sto_at hb3, m_X9_about, f4 hb3, g4]; rfl, by simp only [m_X12_buffer, m_X12_isBuffer, i2, i4, e_bd, e_gb1, if_neg hn0, e_lt, gd_n hb3 (show 3 < 2 ^ 31 by decide), tn (show b < 2 ^ 31 by omega)]; rfl, Or.inl rfl, rfl, fun _ => rfl, (hR.th 0).up⟩
  | 4, _ => exact ⟨0, V y 108 b, x, V y 108 b, up4 y 40 0 0 0 0, by simp only [m_X11_buffer, m_X11_needBuffer, m_X11_need, i1, i3, e_bd, e_bx0, if_neg hn0, sto_at hb3, m_X9_about, f4 hb3, g5]; rfl, by simp only [m_X12_buffer, m_X12_isBuffer, i2, i4, e_bd, e_gb1, if_neg hn0, e_lt, gd_n hb3 (show 3 < 2 ^ 31 by decide), tn (show b < 2 ^ 31 by omega)]; rfl, Or.inl rfl, rfl, fun _ => rfl, (hR.th 0).up⟩
  | 5, _ => exact ⟨0, V y 109 b, x, V y 109 b, up4 y 40 0 0 0 0, by simp only [m_X11_buffer, m_X11_needBuffer, m_X11_need, i1, i3, e_bd, e_bx0, if_neg hn0, sto_at hb3, m_X9_about, f4 hb3, g6]; rfl, by simp only [m_X12_buffer, m_X12_isBuffer, i2, i4, e_bd, e_gb1, if_neg hn0, e_lt, gd_n hb3 (show 3 < 2 ^ 31 by decide), tn (show b < 2 ^ 31 by omega)]; rfl, Or.inl rfl, rfl, fun _ => rfl, (hR.th 0).up⟩
  | w + 6, hw => omega
