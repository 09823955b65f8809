/-! PERFORM -/
theorem ExR.self {N : Nat} {x y x' y' : Mem} (h : ExR N x y x' y') : ExR N x' y' x' y' := ⟨h.1, h.2.1, h.2.2.1, FX.rf, fun _ _ _ _ _ => rfl⟩
def pfX (x' : Mem) : Option (Nat × Int32 × Mem) := bd_ (m_X4_keep (0 : Fin 10) x') fun x13 => bd_ (m_X1_copyFrom (0 : Fin 10) (1 : Fin 10) x13) fun x16 => some (0, (x16 22 0 0 0), x16)
def pfY (y' : Mem) : Option (Int32 × Mem) := bd_ (m_X12_passAll (157, 0, 0) 573 (0 : Int32) (1 : Int32) y') fun y15 => bd_ (m_X12_passAll (158, 0, 0) 573 (0 : Int32) (0 : Int32) y15) fun y18 => bd_ (m_X12_remembers y18) fun y21 => bd_ (m_X12_passAll (157, 0, 0) 573 (0 : Int32) (0 : Int32) y21) fun y24 => some ((y24 40 0 0 53), y24)
theorem pf_loop {X Y : Mem} {j N : Nat} (hj : j ≤ 27) (eX : X 22 0 0 0 = Int32.ofNat j) (eY : Y 40 0 0 53 = Int32.ofNat j) (hC : ∀ k, k < j → Cm (X 25 0 k) (Wn Y k) (Y 149 0 0 k)) (hN : N + 8100 < 2 ^ 26) : ∀ (m k : Nat) (x y : Mem), k ≤ j → j < k + m → ExR (N + 300 * k) X Y x y → ∃ x' y', ExR (N + 8100) X Y x' y' ∧ ((m_X11_perform_l31 m (Int32.ofNat k) x = some (4, 0, x') ∧ m_X12_perform_l39 m (Int32.ofNat k) y = some (0, up4 (ZT y' 158 0 573) 40 0 0 0 1)) ∨ (m_X11_perform_l31 m (Int32.ofNat k) x = pfX x' ∧ m_X12_perform_l39 m (Int32.ofNat k) y = pfY y')) := by
  intro m
  induction m with
  | zero => intro k x y h1 h2; omega
  | succ m ih =>
    intro k x y h1 h2 h
    have q1 : x 22 0 0 0 = Int32.ofNat j := (h.2.2.2.1 _ _ _ _ (by omega) (by omega)).trans eX
    have q2 : y 40 0 0 53 = Int32.ofNat j := (h.2.2.2.2 _ _ _ _ (by omega)).trans eY
    show ∃ x' y', _ ∧ ((m_X11_perform_b31 (m_X11_perform_l31 m) (Int32.ofNat k) x = some (4, 0, x') ∧ m_X12_perform_b39 (m_X12_perform_l39 m) (Int32.ofNat k) y = some (0, up4 (ZT y' 158 0 573) 40 0 0 0 1)) ∨ (m_X11_perform_b31 (m_X11_perform_l31 m) (Int32.ofNat k) x = pfX x' ∧ m_X12_perform_b39 (m_X12_perform_l39 m) (Int32.ofNat k) y = pfY y'))
    unfold m_X11_perform_b31 m_X12_perform_b39
    rw [q1, q2]
    by_cases hk : k = j
    · subst hk
      rw [if_pos ((le_n (by omega) (by omega)).mpr (Nat.le_refl _)), if_pos ((le_n (by omega) (by omega)).mpr (Nat.le_refl _))]
      exact ⟨x, y, h.mono (by omega), Or.inr ⟨rfl, rfl⟩⟩
    rw [if_neg (le_f (by omega) (by omega) (by omega)), if_neg (le_f (by omega) (by omega) (by omega))]
    have hcm : Cm (x 25 0 k) (Wn y k) (y 149 0 0 k) := by
      rw [h.2.2.2.2 149 _ _ _ (by omega)]
      refine (hC k (by omega)).cg (fun f => h.2.2.2.1 _ _ _ _ (by omega) (by omega)) (fun f hf => ?_)
      unfold Wn
      rw [if_pos hf, if_pos hf, h.2.2.2.2 _ _ _ _ (by omega)]
    obtain ⟨b, x', y', e1, e2, e3, hb⟩ := ex_sim (p := Fin.ofNat 28 k) (f28 (by omega)) (by omega) h.self (by omega) hcm
    rw [cmdAt k (by omega), e_bd, e1, e2, e_bd2, e_bd2]
    have h3 := h.tr e3
    rcases hb with rfl | rfl
    · rw [if_pos rfl, if_pos rfl, tk_158, e_bd]
      exact ⟨x', y', h3.mono (by omega), Or.inl ⟨rfl, rfl⟩⟩
    · rw [if_neg no1, if_neg no1, e_lt, e_lt, n1]
      exact ih (k + 1) x' y' (by omega) (by omega) (h3.mono (by omega))
theorem sim_perform : Sim_perform Rel := by
  intro i x y hi hR
  have hs := satb hi
  obtain ⟨b, x1, y1, n, j, t, e1, e2, hT, hb⟩ := read_sim hR
  obtain ⟨h0, h1, h2, h3, h4, h5, h6, h7, h8, h9, h10⟩ := hT
  have hR2 : Rel i (up4 x1 22 0 0 2 0) (up4 (up4 y1 40 0 0 51 0) 40 0 0 0 0) := by
    refine hR.text (fun k c a s q r => ?_) (fun k c a s q r u => ?_) up4_eq ?_
    · rw [up4_ne (by omega)]
      exact h9 _ _ _ _ (by omega) r
    · rw [up4_ne (by omega), up4_ne (by omega)]
      exact h10 _ _ _ _ (by omega) r u
    · rw [up4_ne (by decide), up4_eq]
  unfold m_X11_perform m_X12_perform m_X3_readCommands
  rw [e_lt, e1, e2, e_bd2, e_bd2, e_lt, e_lt, e_lt, e_lt, e_lt]
  have c3 : up4 x1 22 0 0 2 0 22 0 0 3 = Int32.ofNat t := by rw [up4_ne (by omega)]; exact h3
  have c4 : up4 (up4 y1 40 0 0 51 0) 40 0 0 0 0 40 0 0 52 = Int32.ofNat t := by rw [up4_ne (by omega), up4_ne (by omega)]; exact h4
  rw [c3, c4]
  rcases hb with rfl | ⟨rfl, hj1⟩
  · rw [if_pos rfl, if_pos rfl, e_bd2, e_lt, if_neg (fun q => ge0 (show t < 2 ^ 31 by omega) (by rw [q]; exact lt0_neg))]
    exact ⟨0, _, _, _, _, rfl, rfl, Or.inl rfl, up4_eq, fun _ => rfl, hR2.up⟩
  rw [if_neg no1, if_neg no1, e_bd2, e_lt, if_pos rfl]
  have d1 : up4 x1 22 0 0 2 0 22 0 0 0 = Int32.ofNat j := by rw [up4_ne (by omega)]; exact h8 hj1
  have d2 : up4 (up4 y1 40 0 0 51 0) 40 0 0 0 0 40 0 0 53 = Int32.ofNat j := by rw [up4_ne (by omega), up4_ne (by omega)]; exact h5
  have d3 : ∀ k, k < j → Cm (up4 x1 22 0 0 2 0 25 0 k) (Wn (up4 (up4 y1 40 0 0 51 0) 40 0 0 0 0) k) (up4 (up4 y1 40 0 0 51 0) 40 0 0 0 0 149 0 0 k) := fun k hk => by
    rw [up4_ne (k' := 149) (by omega), up4_ne (k' := 149) (by omega)]
    refine (h7 k hk).cg (fun f => up4_ne (by omega)) (fun f hf => ?_)
    unfold Wn
    rw [if_pos hf, if_pos hf, up4_ne (by omega), up4_ne (by omega)]
  have d0 : up4 (up4 y1 40 0 0 51 0) 40 0 0 0 0 40 0 0 0 = 0 := up4_eq
  generalize up4 x1 22 0 0 2 0 = x2 at hR2 d1 d3 ⊢
  generalize up4 (up4 y1 40 0 0 51 0) 40 0 0 0 0 = y2 at hR2 d2 d3 d0 ⊢
  obtain ⟨x3, k1, k2, k3, k4, k5⟩ := fcopy (K := 158) (by decide) hR2
  rw [k1, kp_158, e_bd, e_bd, e_lt, e_lt]
  have hE : ExR (SAT * i) x3 (ZK y2 158 0 573) x3 (ZK y2 158 0 573) := Ins.exr k2 k3
  have f1 : x3 22 0 0 0 = Int32.ofNat j := (k5 _ _ _ _ (by decide)).trans d1
  have f2 : ZK y2 158 0 573 40 0 0 53 = Int32.ofNat j := (ZK_40 (by decide) (by decide)).trans d2
  have f3 : ∀ k, k < j → Cm (x3 25 0 k) (Wn (ZK y2 158 0 573) k) (ZK y2 158 0 573 149 0 0 k) := fun k hk => by
    rw [ZK_o (k := 149) (by decide) (by decide)]
    refine (d3 k hk).cg (fun f => k5 _ _ _ _ (by decide)) (fun f hf => ?_)
    unfold Wn
    rw [if_pos hf, if_pos hf, ZK_o (by decide) (by decide)]
  obtain ⟨x', y', hX, hc⟩ := pf_loop (N := SAT * i) (by omega) f1 f2 f3 (by omega) FU 0 x3 _ (Nat.zero_le _) (by unfold FU; omega) hE
  rw [← z0] at hc
  have g1 : ∀ k c a t, k < 14 → c ≠ 1 → x' k c a t = x2 k c a t := fun k c a t q r => (hX.2.2.2.1 _ _ _ _ (by show ¬ (k < 14 ∧ c = 1); omega) (by omega)).trans (k4 _ _ _ _ r)
  have g2 : ∀ k c a t, 14 ≤ k → ¬ (18 ≤ k ∧ k ≤ 21) → x' k c a t = x2 k c a t := fun k c a t q r => (hX.2.2.2.1 _ _ _ _ (by omega) r).trans (k5 _ _ _ _ q)
  rcases hc with ⟨w1, w2⟩ | ⟨w1, w2⟩
  · rw [w1, w2]
    refine ⟨4, 0, x', 0, _, rfl, rfl, Or.inr rfl, ?_, fun q => absurd q (by decide), ((fore8 hR2 hX.2.1 g1 g2 hX.2.2.2.2 (fun _ _ _ _ _ _ => rfl) (fun _ _ _ _ => rfl)).th 1).up⟩
    rw [up4_eq]
    rfl
  · rw [w1, w2]
    have g5 : Rel i x' (ZT (ZK y' 157 0 573) 158 0 573) := fore8 hR2 hX.2.1 g1 g2 hX.2.2.2.2 (fun k d a s q r => by rw [ZK_o r (by omega)]) (fun s q r u => ZK_40 (by decide) ⟨r, u⟩)
    unfold pfX pfY
    rw [kp_157, e_bd, tk_158, e_bd]
    have p53 : ZT (ZK y' 157 0 573) 158 0 573 40 0 0 53 = Int32.ofNat j := by
      rw [ZT_40 (by decide) (by decide), ZK_40 (by decide) (by decide), hX.2.2.2.2 _ _ _ _ (by omega)]
      exact f2
    have p0 : ZT (ZK y' 157 0 573) 158 0 573 40 0 0 0 = 0 := by
      rw [ZT_40 (by decide) (by decide), ZK_40 (by decide) (by decide), hX.2.2.2.2 _ _ _ _ (by omega), ZK_40 (by decide) (by decide)]
      exact d0
    have p157 : ZT (ZK y' 157 0 573) 158 0 573 157 = ZK y' 157 0 573 157 := ZT_o (by decide)
    have pX : x' 22 0 0 0 = Int32.ofNat j := (g2 _ _ _ _ (by decide) (by omega)).trans d1
    generalize ZT (ZK y' 157 0 573) 158 0 573 = y5 at g5 p53 p0 p157 ⊢
    obtain ⟨x6, y6, r1, r2, r3, r4, r5, r6, r7, r8⟩ := keep_sim g5
    obtain ⟨ch, f, a1, -, -, a4, -⟩ := g5.2.2.1
    have s53 : y6 40 0 0 53 = Int32.ofNat j := (rem_53 a1 a4 r2).trans p53
    have s22 : x6 22 0 0 0 = Int32.ofNat j := (keep_22 g5 r1).trans pX
    have hRep : Rep x6 ((1 : Fin 10) : Nat) (V y') (SAT * i + 8100) := hX.1.cell (fun k a t q => r6 k a t q)
    obtain ⟨x7, u1, u2, u3, u4, u5⟩ := copy_rep (d := 0) (s := 1) (by decide) hX.2.2.1 hRep r3.1
    rw [r1, e_bd, u1, e_bd, r2, e_bd, tk_157, e_bd]
    have hA : Agr (V y') (V (ZT y6 157 0 573)) := by
      refine Agr.tr (B := Sl y6 157 0) ?_ ZT_V
      have eS : Sl y6 157 0 = Sl (ZK y' 157 0 573) 157 0 := by
        funext k s
        show y6 157 0 0 _ = ZK y' 157 0 573 157 0 0 _
        rw [r8 157 (Or.inl rfl), p157]
      rw [eS]
      exact ZK_Sl (by decide)
    have v1 : x7 22 0 0 0 = Int32.ofNat j := (u5 _ _ _ _ (by decide)).trans s22
    have v2 : ZT y6 157 0 573 40 0 0 53 = Int32.ofNat j := (ZT_40 (by decide) (by decide)).trans s53
    rw [v1, v2]
    refine ⟨0, _, x7, _, _, rfl, rfl, Or.inl rfl, ?_, fun _ => rfl, r3.main (Nat.le_succ _) u3 ((u2.congr hA hX.2.2.1).mono (by rw [satS]; omega)) (hX.2.2.1.congr hA) (fun k c a t q r _ => u4 _ _ _ _ r) (fun k c a t q => u5 _ _ _ _ (by omega)) (fun s => by rw [ZT_o (by decide)]) (fun s => by rw [ZT_o (by decide)]) (fun s => by rw [ZT_o (by decide)]) (ZT_40 (by decide) (by decide)) (ZT_40 (by decide) (by decide)) (ZT_40 (by decide) (by decide))⟩
    rw [ZT_40 (by decide) (by decide), r7, p0]
    rfl
