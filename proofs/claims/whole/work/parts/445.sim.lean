/-! PERFORM, reading: the text -/
def Wn (y : Mem) (j : Nat) : Nat → Int32 := fun f => if f < 6 then y 150 0 0 (6 * j + f) else 0
theorem Cm.cg {v w v2 w2 : Nat → Int32} {kd : Int32} (h : Cm v w kd) (hv : ∀ f, v2 f = v f) (hw : ∀ f, f < 6 → w2 f = w f) : Cm v2 w2 kd := by
  unfold Cm Fld at h ⊢
  rw [hv 0, hv 7, hv 8, hv 9, hw 0 (by decide), hw 1 (by decide)]
  exact ⟨h.1, h.2.imp (fun q => ⟨q.1, fun f hf => by rw [hv, hw f hf]; exact q.2 f hf⟩) id⟩
def TXs (n j : Nat) (X Y : Mem) (t : Nat) (x y : Mem) : Prop :=
  (n ≤ 80 ∧ j < 28 ∧ t ≤ n) ∧ x 22 0 0 2 = Int32.ofNat n ∧ y 40 0 0 51 = Int32.ofNat n ∧ x 22 0 0 3 = Int32.ofNat t ∧ y 40 0 0 52 = Int32.ofNat t ∧ y 40 0 0 53 = Int32.ofNat j ∧ (∀ k, k < n → x 23 0 0 k = y 148 0 0 k) ∧
  (∀ k, k < j → Cm (x 25 0 k) (Wn y k) (y 149 0 0 k)) ∧ (1 ≤ j → x 22 0 0 0 = Int32.ofNat j) ∧
  (∀ k c a s, ¬ (k = 22 ∧ (s = 0 ∨ s = 3 ∨ s = 4)) → k ≠ 25 → x k c a s = X k c a s) ∧
  (∀ k c a s, ¬ (k = 40 ∧ (s = 52 ∨ s = 53 ∨ s = 54)) → k ≠ 149 → k ≠ 150 → y k c a s = Y k c a s)
theorem TXs.ini {n j t : Nat} {X Y x y : Mem} (h : TXs n j X Y t x y) : RdS n j x y t (x 25 0 j) (Wn y j) (y 149 0 0 j) x y := by
  obtain ⟨h0, h1, h2, h3, h4, h5, h6, -⟩ := h
  exact ⟨h0, h1, h2, h3, h4, h5, h6, fun _ => rfl, fun f hf => (if_pos hf).symm, rfl, fun _ _ _ _ _ _ => rfl, fun _ _ _ _ _ _ _ => rfl⟩
theorem TXs.rd {n j t t' : Nat} {X Y x y x' y' : Mem} {v w : Nat → Int32} {kd : Int32} (h : TXs n j X Y t x y) (r : RdS n j x y t' v w kd x' y') : TXs n j X Y t' x' y' := by
  obtain ⟨h0, h1, h2, h3, h4, h5, h6, h7, h8, h9, h10⟩ := h
  obtain ⟨r0, r1, r2, r3, r4, r5, r6, -, -, -, r7, r8⟩ := r
  refine ⟨r0, r1, r2, r3, r4, r5, r6, fun k hk => ?_, fun q => ?_, fun k c a s q u => ?_, fun k c a s q u u' => ?_⟩
  · rw [r8 149 _ _ _ (by omega) (by omega) (by omega)]
    refine (h7 k hk).cg (fun f => r7 _ _ _ _ (by omega) (by omega)) (fun f hf => ?_)
    unfold Wn
    rw [if_pos hf, if_pos hf, r8 _ _ _ _ (by omega) (by omega) (by omega)]
  · rw [r7 _ _ _ _ (by omega) (by omega)]
    exact h8 q
  · rw [r7 _ _ _ _ (by omega) (by omega)]
    exact h9 k c a s q u
  · rw [r8 _ _ _ _ (by omega) (by omega) (by omega)]
    exact h10 k c a s q u u'
theorem TXs.nx {n j t t' : Nat} {X Y x y x' y' : Mem} {v w : Nat → Int32} {kd : Int32} (h : TXs n j X Y t x y) (r : RdS n j x y t' v w kd x' y') (hC : Cm v w kd) (hj : j < 27) : TXs n (j + 1) X Y t' (up4 x' 22 0 0 0 (Int32.ofNat (j + 1))) (up4 y' 40 0 0 53 (Int32.ofNat (j + 1))) := by
  have hT := h.rd r
  obtain ⟨-, -, -, -, -, -, -, rv, rw', rk, -⟩ := r
  obtain ⟨h0, h1, h2, h3, h4, h5, h6, h7, h8, h9, h10⟩ := hT
  have eW : ∀ k, Wn (up4 y' 40 0 0 53 (Int32.ofNat (j + 1))) k = Wn y' k := fun k => by
    funext f
    unfold Wn
    rw [up4_ne (by omega)]
  have eX : ∀ k, up4 x' 22 0 0 0 (Int32.ofNat (j + 1)) 25 0 k = x' 25 0 k := fun k => by
    funext f
    rw [up4_ne (by omega)]
  refine ⟨⟨h0.1, by omega, h0.2.2⟩, ?_, ?_, ?_, ?_, up4_eq, fun k q => ?_, fun k hk => ?_, fun _ => up4_eq, fun k c a s q u => ?_, fun k c a s q u u' => ?_⟩
  · rw [up4_ne (by omega)]; exact h1
  · rw [up4_ne (by omega)]; exact h2
  · rw [up4_ne (by omega)]; exact h3
  · rw [up4_ne (by omega)]; exact h4
  · rw [up4_ne (by omega), up4_ne (by omega)]; exact h6 k q
  · rw [eW, eX, up4_ne (by omega)]
    by_cases e : k = j
    · subst e
      rw [rk]
      exact hC.cg rv (fun f hf => (if_pos hf).trans (rw' f hf))
    · exact h7 k (by omega)
  · rw [up4_ne (by omega)]; exact h9 k c a s q u
  · rw [up4_ne (by omega)]; exact h10 k c a s q u u'
theorem cmdAt : ∀ j, j < 27 → m_X3_commandAt (Int32.ofNat j) = some (Fin.ofNat 28 j) := by decide +kernel
theorem f28 {k : Nat} (h : k < 28) : ((Fin.ofNat 28 k : Fin 28) : Nat) = k := Nat.mod_eq_of_lt h
theorem txt_loop {n : Nat} {X Y : Mem} : ∀ (m j t : Nat) (x y : Mem), 27 < j + m → 3 * j ≤ t → TXs n j X Y t x y → ∃ (b : Int32) (x' y' : Mem) (j' t' : Nat), m_X3_readText_l2 m (Int32.ofNat j) x = some (b, x') ∧ m_X12_takesText_l10 m y = some (b, y') ∧ TXs n j' X Y t' x' y' ∧ (b = 0 ∨ (b = 1 ∧ 1 ≤ j')) := by
  intro m
  induction m with
  | zero => intro j t x y h1 h2 h; have := h.1; omega
  | succ m ih =>
    intro j t x y h1 h2 h
    have h0 := h.1
    show ∃ (b : Int32) (x' y' : Mem) (j' t' : Nat), m_X3_readText_b2 (m_X3_readText_l2 m) (Int32.ofNat j) x = some (b, x') ∧ m_X12_takesText_b10 (m_X12_takesText_l10 m) y = some (b, y') ∧ _ ∧ _
    unfold m_X3_readText_b2 m_X12_takesText_b10
    rw [if_neg (show ¬ (27 : Int32) ≤ Int32.ofNat j from le_f (a := 27) (by decide) (by omega) (show j < 27 by omega)), cmdAt j (by omega), e_bd]
    obtain ⟨b, x1, y1, t1, v1, w1, k1, e1, e2, r1, hb⟩ := cmd_read (p := Fin.ofNat 28 j) (f28 (by omega)) h.ini
    rw [e1, e2, e_bd2, e_bd2]
    rcases hb with rfl | ⟨rfl, ht1, hC⟩
    · rw [if_pos rfl, if_pos rfl]
      exact ⟨0, x1, y1, j, t1, rfl, rfl, h.rd r1, Or.inl rfl⟩
    have h2' := h.nx r1 hC (by omega)
    rw [if_neg no1, if_neg no1, r1.2.2.2.2.2.1, n1, e_lt, e_lt]
    generalize up4 x1 22 0 0 0 (Int32.ofNat (j + 1)) = x2 at h2' ⊢
    generalize up4 y1 40 0 0 53 (Int32.ofNat (j + 1)) = y2 at h2' ⊢
    obtain ⟨b, x3, y3, t3, e1, e2, r3, hb⟩ := take_sim 59 h2'.ini
    rw [e1, e2, e_bd2, e_bd2]
    have h3 := h2'.rd r3
    rcases hb with ⟨rfl, rfl⟩ | ⟨rfl, rfl⟩
    · rw [if_pos rfl, if_pos rfl, h3.2.1, h3.2.2.1, h3.2.2.2.1, h3.2.2.2.2.1]
      by_cases e : Int32.ofNat t3 = Int32.ofNat n
      · rw [if_pos e, if_pos e]
        exact ⟨1, x3, y3, j + 1, t3, rfl, rfl, h3, Or.inr ⟨rfl, by omega⟩⟩
      · rw [if_neg e, if_neg e]
        exact ⟨0, x3, y3, j + 1, t3, rfl, rfl, h3, Or.inl rfl⟩
    · rw [if_neg no1, if_neg no1, e_lt]
      exact ih (j + 1) (t1 + 1) x3 y3 (by omega) (by omega) h3
/-- all of the reading -/
theorem read_sim {i : Nat} {x y : Mem} (hR : Rel i x y) : ∃ (b : Int32) (x' y' : Mem) (n j t : Nat), m_X3_readText (up4 x 22 0 0 3 0) = some (b, x') ∧ m_X12_takesText y = some (b, y') ∧ TXs n j x y t x' y' ∧ (b = 0 ∨ (b = 1 ∧ 1 ≤ j)) := by
  obtain ⟨-, -, -, -, n, c1, c2, c3, c4⟩ := hR
  have h0 : TXs n 0 x y 0 (up4 x 22 0 0 3 0) (up4 (up4 y 40 0 0 52 0) 40 0 0 53 0) := by
    refine ⟨⟨c1, by decide, by omega⟩, ?_, ?_, up4_eq, ?_, up4_eq, fun k hk => ?_, fun k hk => by omega, fun q => by omega, fun k c a s q u => ?_, fun k c a s q u u' => ?_⟩
    · rw [up4_ne (by omega)]; exact c2
    · rw [up4_ne (by omega), up4_ne (by omega)]; exact c3
    · rw [up4_ne (by omega), up4_eq]
      exact z0
    · rw [up4_ne (by omega), up4_ne (by omega), up4_ne (by omega)]; exact c4 k hk
    · rw [up4_ne (by omega)]
    · rw [up4_ne (by omega), up4_ne (by omega)]
  obtain ⟨b, x', y', j', t', e1, e2, e3, e4⟩ := txt_loop FU 0 0 _ _ (by obtain ⟨m, hm⟩ := FUs; unfold FU; omega) (by omega) h0
  refine ⟨b, x', y', n, j', t', ?_, ?_, e3, e4⟩
  · unfold m_X3_readText
    rw [e_lt]
    rw [← z0] at e1
    exact e1
  · unfold m_X12_takesText
    rw [e_lt, e_lt]
    exact e2
theorem Rel.text {i : Nat} {x y x' y' : Mem} (hR : Rel i x y) (hx : ∀ k c a s, k ≠ 22 → k ≠ 25 → x' k c a s = x k c a s) (hy : ∀ k c a s, ¬ (k = 40 ∧ (s = 0 ∨ (51 ≤ s ∧ s ≤ 54))) → k ≠ 149 → k ≠ 150 → y' k c a s = y k c a s) (e1 : x' 22 0 0 2 = 0) (e2 : y' 40 0 0 51 = 0) : Rel i x' y' := by
  obtain ⟨hC, ⟨hN, hI⟩, ⟨ch, f, a1, a2, a3, a4, a5, a6⟩, hS, n, c1, c2, c3, c4⟩ := hR
  have hA : Agr (V y) (V y') := fun k s q => (hy _ _ _ _ (by
    intro r
    have := r.1
    subst this
    have := mn_40 q
    omega) (fun r => by have := mn_K q; omega) (fun r => by have := mn_K q; omega)).symm
  have e5 : ∀ K w, K = 155 ∨ K = 156 → Sl y' K w = Sl y K w := fun K w q => by
    funext k s
    exact hy _ _ _ _ (by omega) (by omega) (by omega)
  refine ⟨fun c q => ?_, ⟨(hN.cell (fun k a t q => hx _ _ _ _ (by omega) (by omega))).congr hA hI, hI.congr hA⟩, ⟨ch, f, a1, a2, ?_, ?_, ?_, fun j hj => ?_⟩, ⟨?_, ?_⟩, 0, by decide, e1, e2, fun k hk => absurd hk (Nat.not_lt_zero _)⟩
  · rw [hx _ _ _ _ (by decide) (by decide)]
    exact ⟨(hC c q).1, fun a r => by rw [hx _ _ _ _ (by decide) (by decide)]; exact (hC c q).2 a r⟩
  · rw [hx _ _ _ _ (by decide) (by decide)]; exact a3
  · rw [hy _ _ _ _ (by decide) (by decide) (by decide)]; exact a4
  · rw [hx _ _ _ _ (by decide) (by decide)]; exact a5
  · rw [e5 _ _ (Or.inl rfl)]
    exact ⟨(a6 j hj).1.cell (fun k a t q => hx _ _ _ _ (by omega) (by omega)), (a6 j hj).2⟩
  · rw [hx _ _ _ _ (by decide) (by decide), hy _ _ _ _ (by decide) (by decide) (by decide)]; exact hS.1
  · rw [hy _ _ _ _ (by decide) (by decide) (by decide), e5 _ _ (Or.inr rfl)]
    exact hS.2.imp id fun q => ⟨q.1, q.2.1.cell (fun k a t r => hx _ _ _ _ (by omega) (by omega)), q.2.2⟩
