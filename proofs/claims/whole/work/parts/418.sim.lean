/-! THE TWO IN STEP: cell c of the class and the reference, the arms' patience apart -/
theorem Rep.same {x x' : Mem} {c N : Nat} {A A' : St} (hR : Rep x c A N) (hx : ∀ k i s, k < 14 → x' k c i s = x k c i s) (hA : ∀ k s, (101 ≤ k ∧ k ≤ 132) ∨ (k = 40 ∧ 33 ≤ s ∧ s ≤ 40) → A' k s = A k s) : Rep x' c A' N := by
  obtain ⟨r1, r2, r3, r4, r5, r6⟩ := hR
  refine ⟨r1.kp (fun s => hx _ _ _ (by omega)) (fun s _ _ => hA _ _ (by omega)), r2.kp (hx _ _ _ (by omega)) (fun s => hx _ _ _ (by omega)) (fun s => hx _ _ _ (by omega)) (fun s => hA _ _ (by omega)) (fun s => hA _ _ (by omega)), r3.kp (fun s => hx _ _ _ (by omega)) (fun s => hx _ _ _ (by omega)) (hA _ _ (by omega)) (hA _ _ (by omega)) (fun s => hA _ _ (by omega)), fun a q => (r4 a q).kp (fun s => hx _ _ _ (by omega)) (fun s => hx _ _ _ (by omega)) (fun k _ _ _ => hA _ _ (by omega)) (fun k _ => hA _ _ (by omega)) (hold_kp (hA _ _ (by omega)) (hA _ _ (by omega)) (hA _ _ (by omega)) (hA _ _ (by omega)) (hA _ _ (by omega))), fun d q => (r5 d q).kp (fun s => hx _ _ _ (by omega)) (fun s => hx _ _ _ (by omega)) (fun k _ _ _ => hA _ _ (by omega)) (fun k _ => hA _ _ (by omega)), fun j q => ?_⟩
  rw [hA 40 34 (by omega)] at q
  exact (r6 j q).kp (fun s => hx _ _ _ (by omega)) (fun k _ _ => hA _ _ (by omega))
def FX (c : Nat) (x x' : Mem) : Prop := ∀ k a b t, ¬ (k < 14 ∧ a = c) → ¬ (18 ≤ k ∧ k ≤ 21) → x' k a b t = x k a b t
def FY (y y' : Mem) : Prop := ∀ k a b t, (148 ≤ k ∨ (k = 40 ∧ (t = 0 ∨ t = 34 ∨ 47 ≤ t))) → y' k a b t = y k a b t
theorem FX.rf {c : Nat} {x : Mem} : FX c x x := fun _ _ _ _ _ _ => rfl
theorem FY.rf {y : Mem} : FY y y := fun _ _ _ _ _ => rfl
theorem FX.tr {c : Nat} {x x' x'' : Mem} (h : FX c x x') (g : FX c x' x'') : FX c x x'' := fun k a b t q r => (g k a b t q r).trans (h k a b t q r)
theorem FY.tr {y y' y'' : Mem} (h : FY y y') (g : FY y' y'') : FY y y'' := fun k a b t q => (g k a b t q).trans (h k a b t q)
theorem FX.up {c k i s : Nat} {x : Mem} {v : Int32} (hk : k < 14) : FX c x (up4 x k c i s v) := fun k' a b t q _ => up4_ne (fun r => q ⟨by omega, r.2.1⟩)
theorem FY.up {k s : Nat} {y : Mem} {v : Int32} (hk : ¬ (148 ≤ k ∨ (k = 40 ∧ (s = 0 ∨ s = 34 ∨ 47 ≤ s)))) : FY y (up4 y k 0 0 s v) := fun k' a b t q => up4_ne (by omega)
theorem Con.up {x : Mem} {k c i s : Nat} {v : Int32} (h : Con x) (h1 : ¬ (k = 12 ∧ i = 30)) (h2 : ¬ (k = 0 ∧ s = 0)) : Con (up4 x k c i s v) := fun d q => ⟨by rw [up4_ne (by omega)]; exact (h d q).1, fun a r => by rw [up4_ne (by omega)]; exact (h d q).2 a r⟩
def Ins (c N : Nat) (x0 y0 : Mem) (p : Nat → Int32) (x y : Mem) : Prop := Rep x c (ov (V y) p) N ∧ Con x ∧ FX c x0 x ∧ FY y0 y
theorem Ins.gen {c N N' : Nat} {x0 y0 x y x' y' : Mem} {p p' : Nat → Int32} (h : Ins c N x0 y0 p x y) (hR : Rep x' c (ov (V y') p') N') (hC : Con x') (hX : FX c x x') (hY : FY y y') : Ins c N' x0 y0 p' x' y' := ⟨hR, hC, h.2.2.1.tr hX, h.2.2.2.tr hY⟩
theorem Ins.up {c N N' k i s K S : Nat} {x0 y0 x y : Mem} {p : Nat → Int32} {v w : Int32} (h : Ins c N x0 y0 p x y) (hR : Rep (up4 x k c i s v) c (S4 (ov (V y) p) K S w) N') (hk : k < 14) (h1 : ¬ (k = 12 ∧ i = 30)) (h2 : ¬ (k = 0 ∧ s = 0)) (hK : K ≠ 117) (hY : ¬ (148 ≤ K ∨ (K = 40 ∧ (S = 0 ∨ S = 34 ∨ 47 ≤ S)))) : Ins c N' x0 y0 p (up4 x k c i s v) (up4 y K 0 0 S w) :=
  h.gen (by rw [V_up, ov_S4 hK]; exact hR) (h.2.1.up h1 h2) (FX.up hk) (FY.up hY)
/-- what only the class's judge and order change -/
theorem Ins.x {c N : Nat} {x0 y0 x y x' : Mem} {p : Nat → Int32} (h : Ins c N x0 y0 p x y) (hx : ∀ k a b t, ¬ (18 ≤ k ∧ k ≤ 21) → x' k a b t = x k a b t) : Ins c N x0 y0 p x' y :=
  h.gen (h.1.same (fun k i s q => hx _ _ _ _ (by omega)) (fun _ _ _ => rfl)) (fun d q => ⟨by rw [hx _ _ _ _ (by omega)]; exact (h.2.1 d q).1, fun a r => by rw [hx _ _ _ _ (by omega)]; exact (h.2.1 d q).2 a r⟩) (fun k a b t _ r => hx k a b t r) FY.rf
/-- what only the reference's judge and order change -/
theorem Ins.y {c N : Nat} {x0 y0 x y y' : Mem} {p : Nat → Int32} (h : Ins c N x0 y0 p x y) (hy : ∀ k a b t, ¬ ((133 ≤ k ∧ k ≤ 147) ∨ (k = 40 ∧ 41 ≤ t ∧ t ≤ 46)) → y' k a b t = y k a b t) : Ins c N x0 y0 p x y' := by
  refine h.gen (h.1.same (fun _ _ _ _ => rfl) (fun k s q => ?_)) h.2.1 FX.rf (fun k a b t q => hy k a b t (by omega))
  unfold ov
  by_cases e : k = 117
  · rw [if_pos e, if_pos e]
  · rw [if_neg e, if_neg e]
    exact hy k 0 0 s (by omega)
theorem Rep.arm {x : Mem} {c N a f K : Nat} {A : St} {v : Int32} (hf : (f = 1 ∧ K = 110) ∨ (f = 5 ∧ K = 116) ∨ (f = 7 ∧ K = 117) ∨ (f = 8 ∧ K = 118) ∨ (f = 9 ∧ K = 119) ∨ (f = 10 ∧ K = 120) ∨ (f = 11 ∧ K = 121)) (hR : Rep x c A N) : Rep (up4 x 0 c a f v) c (S4 A K a v) N := by
  refine hR.of_arm (a := a) (fun k i s h => up4_ne (by omega)) (fun k s h => S4_ne (by omega)) (fun k b _ _ _ _ _ => S4_ne (by omega)) (fun b k _ _ _ => S4_ne (by omega)) (fun ha => ?_)
  have g := hR.2.2.2.1 a ha
  have hh : hold (S4 A K a v) a = hold A a := hold_kp (S4_ne (by omega)) (S4_ne (by omega)) (S4_ne (by omega)) (S4_ne (by omega)) (S4_ne (by omega))
  obtain ⟨g1, g2, g3, g4, g5, g6, g7, g8, g9, g10, g11, g12, g13⟩ := g
  have e13 : ∀ k, k < (S4 A K a v 111 a).toNatClampNeg → up4 x 0 c a f v 1 c a k = S4 A K a v 112 (30 * a + k) := fun k hk => by
    rw [S4_ne (by omega)] at hk
    rw [up4_ne (by omega), S4_ne (by omega)]
    exact g13 k hk
  refine ⟨?_, ?_, ?_, ?_, ?_, ?_, ?_, ?_, ?_, ?_, ?_, ?_, e13⟩
  all_goals
    rcases hf with ⟨rfl, rfl⟩ | ⟨rfl, rfl⟩ | ⟨rfl, rfl⟩ | ⟨rfl, rfl⟩ | ⟨rfl, rfl⟩ | ⟨rfl, rfl⟩ | ⟨rfl, rfl⟩
    all_goals first
      | rw [hh, up4_ne (by omega)]; assumption
      | rw [up4_ne (by omega), S4_ne (by omega)]; assumption
      | rw [up4_eq, S4_eq]
theorem Rep.sto {x : Mem} {c N b f K : Nat} {A : St} {v : Int32} (hf : (f = 0 ∧ K = 103) ∨ (f = 2 ∧ K = 106) ∨ (f = 3 ∧ K = 107) ∨ (f = 4 ∧ K = 108) ∨ (f = 5 ∧ K = 109)) (hR : Rep x c A N) : Rep (up4 x 9 c b f v) c (S4 A K b v) N := by
  refine hR.of_sto (b := b) (fun k i s h => up4_ne (by omega)) (fun k s h => S4_ne (by omega)) (fun k b _ _ _ _ _ => S4_ne (by omega)) (fun b k _ _ _ => S4_ne (by omega)) (fun ha => ?_)
  have g := hR.2.2.2.2.1 b ha
  obtain ⟨g1, g2, g3, g4, g5, g6, g7⟩ := g
  have e7 : ∀ k, k < (S4 A K b v 104 b).toNatClampNeg → up4 x 9 c b f v 10 c b k = S4 A K b v 105 (4 * b + k) := fun k hk => by
    rw [S4_ne (by omega)] at hk
    rw [up4_ne (by omega), S4_ne (by omega)]
    exact g7 k hk
  refine ⟨?_, ?_, ?_, ?_, ?_, ?_, e7⟩
  all_goals
    rcases hf with ⟨rfl, rfl⟩ | ⟨rfl, rfl⟩ | ⟨rfl, rfl⟩ | ⟨rfl, rfl⟩ | ⟨rfl, rfl⟩
    all_goals first
      | rw [up4_ne (by omega), S4_ne (by omega)]; assumption
      | rw [up4_eq, S4_eq]
theorem Rep.job3 {x : Mem} {c N j f K : Nat} {A : St} {v : Int32} (hf : (f = 7 ∧ K = 129) ∨ (f = 8 ∧ K = 130) ∨ (f = 9 ∧ K = 131)) (hR : Rep x c A N) : Rep (up4 x 12 c j f v) c (S4 A K j v) N := by
  refine hR.of_job (j := j) (fun k i s h => up4_ne (by omega)) (fun k s h => S4_ne (by omega)) (fun ha => ?_)
  have g := hR.2.2.2.2.2 j ha
  obtain ⟨g1, g2, g3, g4, g5, g6, g7, g8, g9, g10⟩ := g
  refine ⟨?_, ?_, ?_, ?_, ?_, ?_, ?_, ?_, ?_, ?_⟩
  all_goals
    rcases hf with ⟨rfl, rfl⟩ | ⟨rfl, rfl⟩ | ⟨rfl, rfl⟩
    all_goals first
      | rw [up4_ne (by omega), S4_ne (by omega)]; assumption
      | rw [up4_eq, S4_eq]
theorem Rep.sca {x : Mem} {c N N' f K : Nat} {A : St} {v : Int32} (hf : (f = 0 ∧ K = 33) ∨ (f = 2 ∧ K = 37) ∨ (f = 3 ∧ K = 38) ∨ (f = 5 ∧ K = 36) ∨ (f = 6 ∧ K = 39) ∨ (f = 4 ∧ K = 35)) (hN : N ≤ N') (hP : K = 35 → ∃ P : Nat, P ≤ N' ∧ v = Int32.ofNat P) (hR : Rep x c A N) : Rep (up4 x 2 c 0 f v) c (S4 A 40 K v) N' := by
  have hK : K ≤ 39 ∧ K ≠ 34 := by
    clear hP
    omega
  have hx : ∀ k i s, k ≠ 2 → up4 x 2 c 0 f v k c i s = x k c i s := fun k i s h => up4_ne (fun q => h q.1)
  have hA : ∀ k s, ¬ (k = 40 ∧ s ≤ 39 ∧ s ≠ 34) → S4 A 40 K v k s = A k s := fun k s h => S4_ne (fun q => h ⟨q.1, by rw [q.2]; exact hK.1, by rw [q.2]; exact hK.2⟩)
  refine hR.of_sca hx hA ?_ hN ?_
  · have g := hR.1
    obtain ⟨g1, g2, g3, g4, g5, g6, g7⟩ := g
    refine ⟨?_, ?_, ?_, ?_, ?_, ?_, ?_⟩
    all_goals
      rcases hf with ⟨rfl, rfl⟩ | ⟨rfl, rfl⟩ | ⟨rfl, rfl⟩ | ⟨rfl, rfl⟩ | ⟨rfl, rfl⟩ | ⟨rfl, rfl⟩
      all_goals first
        | rw [up4_ne (by omega), S4_ne (by omega)]; assumption
        | rw [up4_eq, S4_eq]
  · by_cases e : K = 35
    · subst e
      rw [S4_eq]
      exact hP rfl
    · obtain ⟨P, q1, q2⟩ := hR.2.2.1.1
      exact ⟨P, by omega, by rw [S4_ne (by omega)]; exact q2⟩
theorem Ins.arm {c N a f K : Nat} {x0 y0 x y : Mem} {p : Nat → Int32} {v : Int32} (h : Ins c N x0 y0 p x y) (hf : (f = 1 ∧ K = 110) ∨ (f = 5 ∧ K = 116) ∨ (f = 8 ∧ K = 118) ∨ (f = 9 ∧ K = 119) ∨ (f = 10 ∧ K = 120) ∨ (f = 11 ∧ K = 121)) : Ins c N x0 y0 p (up4 x 0 c a f v) (up4 y K 0 0 a v) :=
  h.up (h.1.arm (by omega)) (by decide) (by omega) (by omega) (by omega) (by omega)
theorem Ins.sto {c N b f K : Nat} {x0 y0 x y : Mem} {p : Nat → Int32} {v : Int32} (h : Ins c N x0 y0 p x y) (hf : (f = 0 ∧ K = 103) ∨ (f = 2 ∧ K = 106) ∨ (f = 3 ∧ K = 107) ∨ (f = 4 ∧ K = 108) ∨ (f = 5 ∧ K = 109)) : Ins c N x0 y0 p (up4 x 9 c b f v) (up4 y K 0 0 b v) :=
  h.up (h.1.sto hf) (by decide) (by omega) (by omega) (by omega) (by omega)
theorem Ins.job3 {c N j f K : Nat} {x0 y0 x y : Mem} {p : Nat → Int32} {v : Int32} (h : Ins c N x0 y0 p x y) (hj : j < 30) (hf : (f = 7 ∧ K = 129) ∨ (f = 8 ∧ K = 130) ∨ (f = 9 ∧ K = 131)) : Ins c N x0 y0 p (up4 x 12 c j f v) (up4 y K 0 0 j v) :=
  h.up (h.1.job3 hf) (by decide) (by omega) (by omega) (by omega) (by omega)
theorem Ins.sca {c N f K : Nat} {x0 y0 x y : Mem} {p : Nat → Int32} {v : Int32} (h : Ins c N x0 y0 p x y) (hf : (f = 0 ∧ K = 33) ∨ (f = 2 ∧ K = 37) ∨ (f = 3 ∧ K = 38) ∨ (f = 5 ∧ K = 36) ∨ (f = 6 ∧ K = 39)) : Ins c N x0 y0 p (up4 x 2 c 0 f v) (up4 y 40 0 0 K v) :=
  h.up (h.1.sca (by omega) (Nat.le_refl _) (by omega)) (by decide) (by omega) (by omega) (by omega) (by omega)
theorem Ins.np {c N : Nat} {x0 y0 x y : Mem} {p : Nat → Int32} (h : Ins c N x0 y0 p x y) : Ins c (N + 1) x0 y0 p (up4 x 2 c 0 4 (y 40 0 0 35 + 1)) (up4 y 40 0 0 35 (y 40 0 0 35 + 1)) := by
  obtain ⟨P, q1, q2⟩ := h.1.2.2.1.1
  have q3 : y 40 0 0 35 = Int32.ofNat P := q2
  exact h.up (h.1.sca (by omega) (Nat.le_succ _) (fun _ => ⟨P + 1, by omega, by rw [q3, n1]⟩)) (by decide) (by omega) (by omega) (by omega) (by omega)
theorem Ins.pat {c N a : Nat} {x0 y0 x y : Mem} {p : Nat → Int32} {v : Int32} (h : Ins c N x0 y0 p x y) : Ins c N x0 y0 (fun s => if s = a then v else p s) (up4 x 0 c a 7 v) y := by
  refine h.gen ?_ (h.2.1.up (by omega) (by omega)) (FX.up (by decide)) FY.rf
  have e : ov (V y) (fun s => if s = a then v else p s) = S4 (ov (V y) p) 117 a v := by
    funext k s
    by_cases e1 : k = 117
    · subst e1
      by_cases e2 : s = a
      · subst e2
        rw [S4_eq]
        unfold ov
        rw [if_pos rfl]
        exact if_pos rfl
      · rw [S4_ne (fun q => e2 q.2)]
        unfold ov
        rw [if_pos rfl, if_pos rfl]
        exact if_neg e2
    · rw [S4_ne (fun q => e1 q.1), ov_ne e1, ov_ne e1]
  rw [e]
  exact h.1.arm (by omega)
/-- the arm's state, job, place, time to go and zones -/
theorem Rep.grp {x x' : Mem} {c N a : Nat} {A A' : St} (hR : Rep x c A N) (hx : ∀ k i s, ¬ (k = 0 ∧ i = a ∧ 2 ≤ s ∧ s ≤ 6) → x' k c i s = x k c i s) (hA : ∀ k s, ¬ (113 ≤ k ∧ k ≤ 116 ∧ s = a) → A' k s = A k s) (e2 : x' 0 c a 2 = A' 114 a) (e3 : x' 0 c a 3 = A' 113 a) (e4 : x' 0 c a 4 = A' 115 a) (e5 : x' 0 c a 5 = A' 116 a) (e6 : x' 0 c a 6 = hold A' a) : Rep x' c A' N := by
  refine hR.of_arm (a := a) (fun k i s h => hx _ _ _ (by omega)) (fun k s h => hA _ _ (by omega)) (fun k b _ _ _ _ _ => hA _ _ (by omega)) (fun b k _ _ _ => hA _ _ (by omega)) (fun ha => ?_)
  obtain ⟨g1, g2, g3, g4, g5, g6, g7, g8, g9, g10, g11, g12, g13⟩ := hR.2.2.2.1 a ha
  refine ⟨?_, e2, e3, e4, e5, e6, ?_, ?_, ?_, ?_, ?_, ?_, fun k hk => ?_⟩
  · rw [hx _ _ _ (by omega), hA _ _ (by omega)]; exact g1
  · rw [hx _ _ _ (by omega), hA _ _ (by omega)]; exact g7
  · rw [hx _ _ _ (by omega), hA _ _ (by omega)]; exact g8
  · rw [hx _ _ _ (by omega), hA _ _ (by omega)]; exact g9
  · rw [hx _ _ _ (by omega), hA _ _ (by omega)]; exact g10
  · rw [hx _ _ _ (by omega), hA _ _ (by omega)]; exact g11
  · rw [hx _ _ _ (by omega), hA _ _ (by omega)]; exact g12
  · rw [hA _ _ (by omega)] at hk
    rw [hx _ _ _ (by omega), hA _ _ (by omega)]
    exact g13 k hk
/-! ROWS -/
def bk (x : Mem) (k c i lo n : Nat) (f : Nat → Int32) : Mem := fun k' c' i' s => if k' = k ∧ c' = c ∧ i' = i ∧ lo ≤ s ∧ s < lo + n then f (s - lo) else x k' c' i' s
theorem bk_0 {x : Mem} {k c i lo : Nat} {f : Nat → Int32} : bk x k c i lo 0 f = x := by
  funext k' c' i' s
  unfold bk
  rw [if_neg (by omega)]
theorem bk_in {x : Mem} {k c i lo n s : Nat} {f : Nat → Int32} (h1 : lo ≤ s) (h2 : s < lo + n) : bk x k c i lo n f k c i s = f (s - lo) := by
  unfold bk
  rw [if_pos ⟨rfl, rfl, rfl, h1, h2⟩]
theorem bk_out {x : Mem} {k c i lo n k' c' i' s : Nat} {f : Nat → Int32} (h : ¬ (k' = k ∧ c' = c ∧ i' = i ∧ lo ≤ s ∧ s < lo + n)) : bk x k c i lo n f k' c' i' s = x k' c' i' s := by
  unfold bk
  rw [if_neg h]
theorem bk_succ {x : Mem} {k c i lo n : Nat} {f : Nat → Int32} : up4 (bk x k c i lo n f) k c i (lo + n) (f n) = bk x k c i lo (n + 1) f := by
  funext k' c' i' s
  rw [up4_at]
  unfold bk
  by_cases h : k' = k ∧ c' = c ∧ i' = i ∧ s = lo + n
  · obtain ⟨rfl, rfl, rfl, rfl⟩ := h
    rw [if_pos ⟨rfl, rfl, rfl, rfl⟩, if_pos ⟨rfl, rfl, rfl, by omega, by omega⟩, Nat.add_sub_cancel_left]
  · rw [if_neg h]
    by_cases h2 : k' = k ∧ c' = c ∧ i' = i ∧ lo ≤ s ∧ s < lo + n
    · rw [if_pos h2, if_pos ⟨h2.1, h2.2.1, h2.2.2.1, h2.2.2.2.1, by omega⟩]
    · rw [if_neg h2, if_neg (fun q => h2 ⟨q.1, q.2.1, q.2.2.1, q.2.2.2.1, by have := q.2.2.2.2; have h3 : s ≠ lo + n := fun e => h ⟨q.1, q.2.1, q.2.2.1, e⟩; omega⟩)]
theorem bk_blk {y : Mem} {k lo n : Nat} {f : Nat → Int32} : bk y k 0 0 lo n f = blk y k lo n f := rfl
theorem gt0 {r : Nat} (hr : r + 1 < 2 ^ 31) : ¬ Int32.ofNat (r + 1) ≤ 0 := fun q => by
  have := (le_n (a := r + 1) (b := 0) hr (by decide)).mp q
  omega
theorem row_xl {x : Mem} {c : Fin 10} {a r : Nat} {v : Int32} (ha : a < 3) (e : x 0 c a 12 = Int32.ofNat (r + 1)) (hr : r < 30) : ∀ (m u : Nat), u ≤ r → r < u + m → m_X0_takeFirstOfRow_l26 (c, Fin.ofNat 4 a) m v (Int32.ofNat (u + 1)) (bk x 1 c a 0 u (fun s => x 1 c a (s + 1))) = some (v, up4 (bk x 1 c a 0 r (fun s => x 1 c a (s + 1))) 0 c a 12 (Int32.ofNat r)) := by
  intro m
  induction m with
  | zero => intro u h1 h2; omega
  | succ m ih =>
    intro u h1 h2
    show m_X0_takeFirstOfRow_b26 (c, Fin.ofNat 4 a) (m_X0_takeFirstOfRow_l26 (c, Fin.ofNat 4 a) m) _ _ _ = _
    unfold m_X0_takeFirstOfRow_b26 m_X0_takeFirstOfRow_j63
    simp only [f4 ha]
    rw [bk_out (k' := 0) (by omega), e]
    by_cases hu : u = r
    · subst hu
      rw [if_pos ((le_n (by omega) (by omega)).mpr (Nat.le_refl _)), e_lt, s1]
    rw [if_neg (le_f (by omega) (by omega) (by omega)), if_neg (show ¬ (30 : Int32) ≤ Int32.ofNat (u + 1) from le_f (a := 30) (by decide) (by omega) (by omega)), gd_n (show u + 1 < 30 by omega) (by decide), s1, gd_n (show u < 30 by omega) (by decide), e_lt, e_lt, tn (show u < 2 ^ 31 by omega), tn (show u + 1 < 2 ^ 31 by omega), bk_out (k' := 1) (s := u + 1) (by omega)]
    have hb := bk_succ (x := x) (k := 1) (c := c) (i := a) (lo := 0) (n := u) (f := fun s => x 1 c a (s + 1))
    rw [Nat.zero_add] at hb
    rw [hb, n1]
    exact ih (u + 1) (by omega) (by omega)
theorem row_x {x : Mem} {c : Fin 10} {a r : Nat} (ha : a < 3) (e : x 0 c a 12 = Int32.ofNat (r + 1)) (hr : r < 30) : m_X0_takeFirstOfRow (c, Fin.ofNat 4 a) x = some (x 1 c a 0, up4 (bk x 1 c a 0 r (fun s => x 1 c a (s + 1))) 0 c a 12 (Int32.ofNat r)) := by
  unfold m_X0_takeFirstOfRow
  simp only [f4 ha]
  rw [e_lt, e, if_neg (gt0 (by omega)), if_neg (show ¬ (30 : Int32) ≤ 0 by decide), e_lt, e_lt]
  have h := row_xl (x := x) (c := c) (v := x 1 c a 0) ha e hr FU 0 (Nat.zero_le _) (by unfold FU; omega)
  rw [bk_0] at h
  exact h
/-- the first of an arm's row taken -/
theorem Rep.row {x x' : Mem} {c N a r : Nat} {A A' : St} (hR : Rep x c A N) (hr : r < 30) (e : A 111 a = Int32.ofNat (r + 1)) (h30 : ∀ b, b < 3 → (A 111 b).toNatClampNeg ≤ 30) (hx : ∀ k i s, ¬ (k = 0 ∧ i = a ∧ s = 12) → ¬ (k = 1 ∧ i = a) → x' k c i s = x k c i s) (x1 : x' 0 c a 12 = Int32.ofNat r) (x2 : ∀ k, k < r → x' 1 c a k = x 1 c a (k + 1)) (hA : ∀ k s, ¬ (k = 111 ∧ s = a) → ¬ (k = 112 ∧ 30 * a ≤ s ∧ s < 30 * a + 30) → A' k s = A k s) (a1 : A' 111 a = Int32.ofNat r) (a2 : ∀ k, k < r → A' 112 (30 * a + k) = A 112 (30 * a + (k + 1))) : Rep x' c A' N := by
  refine hR.of_arm (a := a) (fun k i s h => hx _ _ _ (by omega) (by omega)) (fun k s h => hA _ _ (by omega) (by omega)) (fun k b _ _ _ _ _ => hA _ _ (by omega) (by omega)) (fun b k hb hba hk => hA _ _ (by omega) (by have := h30 b hb; omega)) (fun ha => ?_)
  obtain ⟨g1, g2, g3, g4, g5, g6, g7, g8, g9, g10, g11, g12, g13⟩ := hR.2.2.2.1 a ha
  have hh : hold A' a = hold A a := hold_kp (hA _ _ (by omega) (by omega)) (hA _ _ (by omega) (by omega)) (hA _ _ (by omega) (by omega)) (hA _ _ (by omega) (by omega)) (hA _ _ (by omega) (by omega))
  refine ⟨?_, ?_, ?_, ?_, ?_, ?_, ?_, ?_, ?_, ?_, ?_, x1.trans a1.symm, fun k hk => ?_⟩
  · rw [hx _ _ _ (by omega) (by omega), hA _ _ (by omega) (by omega)]; exact g1
  · rw [hx _ _ _ (by omega) (by omega), hA _ _ (by omega) (by omega)]; exact g2
  · rw [hx _ _ _ (by omega) (by omega), hA _ _ (by omega) (by omega)]; exact g3
  · rw [hx _ _ _ (by omega) (by omega), hA _ _ (by omega) (by omega)]; exact g4
  · rw [hx _ _ _ (by omega) (by omega), hA _ _ (by omega) (by omega)]; exact g5
  · rw [hx _ _ _ (by omega) (by omega), hh]; exact g6
  · rw [hx _ _ _ (by omega) (by omega), hA _ _ (by omega) (by omega)]; exact g7
  · rw [hx _ _ _ (by omega) (by omega), hA _ _ (by omega) (by omega)]; exact g8
  · rw [hx _ _ _ (by omega) (by omega), hA _ _ (by omega) (by omega)]; exact g9
  · rw [hx _ _ _ (by omega) (by omega), hA _ _ (by omega) (by omega)]; exact g10
  · rw [hx _ _ _ (by omega) (by omega), hA _ _ (by omega) (by omega)]; exact g11
  · rw [a1, tn (by omega)] at hk
    rw [x2 k hk, a2 k hk]
    refine g13 (k + 1) ?_
    rw [e, tn (by omega)]
    omega
