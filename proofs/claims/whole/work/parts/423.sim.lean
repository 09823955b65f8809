/-! THE REFERENCE'S JUDGE -/
theorem lt0_neg : (-1 : Int32) < 0 := by decide
def JD (A : St) (S : Nat → Bool) (jj qq : Nat → Nat) : Prop := ∀ a, a < 3 → S a = true → jj a < 30 ∧ ∃ p n : Nat, A 123 (jj a) = Int32.ofNat p ∧ A 124 (jj a) = Int32.ofNat n ∧ PathOk p n ∧ qq a < n
def JY (y : Mem) (A : St) (S : Nat → Bool) (hh : Nat → Int32) (jj qq : Nat → Nat) : Prop := (∀ k s, 101 ≤ k → k ≤ 132 → y k 0 0 s = A k s) ∧ (∀ a, a < 3 → y 141 0 0 a = hh a) ∧ (∀ a, a < 3 → S a = true → y 142 0 0 a = Int32.ofNat (jj a) ∧ y 143 0 0 a = Int32.ofNat (qq a + 1)) ∧ ∀ a, a < 3 → S a = false → y 142 0 0 a < 0
theorem con_y {y : Mem} {z : Nat} (hz : z < 8) : m_X12_conflicts (Int32.ofNat z) y = some (con (V y) z) := by
  unfold m_X12_conflicts
  rw [gd_n hz (by decide), tn (show z < 2 ^ 31 by omega), one_bit]
  rfl
theorem cf_in {y : Mem} {A : St} {S : Nat → Bool} {hh : Nat → Int32} {jj qq : Nat → Nat} (hJ : JY y A S hh jj qq) (hD : JD A S jj qq) {a : Nat} (ha : a < 3) (hS : S a = true) {cwa X : Int32} (hC : CW A (jj a) (qq a) cwa) : ∀ (m k : Nat), qq a < k → k ≤ (A 124 (jj a)).toNatClampNeg → (A 124 (jj a)).toNatClampNeg < k + m → (∀ i, qq a < i → i < k → con A (znA A (jj a) i) &&& X = 0) → m_X12_canFinish_l49 (Int32.ofNat a) m X (Int32.ofNat k) y = some (if cwa &&& X = 0 then 1 else 0) := by
  obtain ⟨h30, p, n, e1, e2, hp, hq⟩ := hD a ha hS
  have hn5 := hp.2.1
  have hpl := path_lt hp
  obtain ⟨y0, -, y2, -⟩ := hJ
  intro m
  induction m with
  | zero => intro k h1 h2 h3; omega
  | succ m ih =>
    intro k h1 h2 h3 hk
    show m_X12_canFinish_b49 (Int32.ofNat a) (m_X12_canFinish_l49 (Int32.ofNat a) m) X (Int32.ofNat k) y = _
    unfold m_X12_canFinish_b49
    rw [e2, tn (show n < 2 ^ 31 by omega)] at h2 h3
    rw [gd_n ha (by decide), tn (show a < 2 ^ 31 by omega), (y2 a ha hS).1, gd_n h30 (by decide), tn (show jj a < 2 ^ 31 by omega), y0 124 _ (by decide) (by decide), e2]
    by_cases hkn : k = n
    · subst hkn
      rw [if_pos ((le_n (by omega) (by omega)).mpr (Nat.le_refl _)), if_pos]
      rw [hC X, e2, tn (show k < 2 ^ 31 by omega)]
      exact hk
    have hkl : k < n := by omega
    have hd := (dgt_ok hp hkl).1
    have ez : znA A (jj a) k = dgt p n k := by
      unfold znA
      rw [e1, e2, tn (show n < 2 ^ 31 by omega), tn (show p < 2 ^ 31 by omega)]
    have ec : con (V y) (dgt p n k) = con A (znA A (jj a) k) := by
      rw [ez]
      unfold con
      rw [show V y 101 (dgt p n k) = A 101 (dgt p n k) from y0 101 _ (by decide) (by decide)]
    rw [if_neg (le_f (by omega) (by omega) hkl), zone_y h30 ((y0 123 _ (by decide) (by decide)).trans e1) ((y0 124 _ (by decide) (by decide)).trans e2) hp hkl, e_bd, con_y hd, e_bd, ec]
    by_cases hc : con A (znA A (jj a) k) &&& X = 0
    · rw [if_pos hc, e_lt, n1]
      refine ih (k + 1) (by omega) ?_ ?_ (fun i i1 i2 => ?_)
      · rw [e2, tn (show n < 2 ^ 31 by omega)]; omega
      · rw [e2, tn (show n < 2 ^ 31 by omega)]; omega
      · by_cases e : i = k
        · subst e
          exact hc
        · exact hk i i1 (by omega)
    · rw [if_neg hc, if_neg]
      rw [hC X]
      intro q
      refine hc (q k h1 ?_)
      rw [e2, tn (show n < 2 ^ 31 by omega)]
      exact hkl
theorem cf_out {y : Mem} {A : St} {S : Nat → Bool} {hh : Nat → Int32} {jj qq : Nat → Nat} (hJ : JY y A S hh jj qq) (hD : JD A S jj qq) {a : Nat} (ha : a < 3) (hS : S a = true) {cwa : Int32} (hC : CW A (jj a) (qq a) cwa) : ∀ (m t : Nat), t ≤ 3 → 3 < t + m → m_X12_canFinish_l4 (Int32.ofNat a) m (othT hh S a t) (Int32.ofNat t) y = some (if cwa &&& othT hh S a 3 = 0 then 1 else 0) := by
  intro m
  induction m with
  | zero => intro t h1 h2; omega
  | succ m ih =>
    intro t h1 h2
    show m_X12_canFinish_b4 (Int32.ofNat a) (m_X12_canFinish_l4 (Int32.ofNat a) m) _ (Int32.ofNat t) y = _
    unfold m_X12_canFinish_b4 m_X12_canFinish_j33 m_X12_canFinish_j34
    by_cases ht : t = 3
    · subst ht
      obtain ⟨h30, p, n, e1, e2, hp, hq⟩ := hD a ha hS
      have hn5 := hp.2.1
      rw [if_pos (by decide), gd_n ha (by decide), e_lt, tn (show a < 2 ^ 31 by omega), (hJ.2.2.1 a ha hS).2]
      refine cf_in hJ hD ha hS hC FU (qq a + 1) (by omega) ?_ ?_ (fun i i1 i2 => by omega)
      · rw [e2, tn (show n < 2 ^ 31 by omega)]; omega
      · rw [e2, tn (show n < 2 ^ 31 by omega)]; unfold FU; omega
    have h3 : t < 3 := by omega
    have hnext := ih (t + 1) (by omega) (by omega)
    rw [show othT hh S a (t + 1) = othT hh S a t ||| (if t ≠ a ∧ S t = true then hh t else 0) from rfl] at hnext
    rw [if_neg (le3 h3), e_lt, e_lt, n1]
    by_cases hta : t = a
    · rw [if_pos (by rw [hta])]
      rw [if_neg (fun q => q.1 hta)] at hnext
      exact hnext
    · rw [if_neg (fun q => hta ((eq_n (by omega) (by omega)).mp q)), gd_n h3 (by decide), tn (show t < 2 ^ 31 by omega)]
      cases hs : S t with
      | false =>
        rw [if_pos (hJ.2.2.2 t h3 hs)]
        rw [if_neg (fun q => by rw [hs] at q; exact absurd q.2 (by decide))] at hnext
        exact hnext
      | true =>
        have h30 := (hD t h3 hs).1
        rw [(hJ.2.2.1 t h3 hs).1, if_neg (ge0 (by omega)), hJ.2.1 t h3]
        rw [if_pos ⟨hta, hs⟩] at hnext
        exact hnext
theorem cf_y {y : Mem} {A : St} {S : Nat → Bool} {hh : Nat → Int32} {jj qq : Nat → Nat} (hJ : JY y A S hh jj qq) (hD : JD A S jj qq) {a : Nat} (ha : a < 3) (hS : S a = true) {cwa : Int32} (hC : CW A (jj a) (qq a) cwa) : m_X12_canFinish (Int32.ofNat a) y = some (if cwa &&& othT hh S a 3 = 0 then 1 else 0) := by
  unfold m_X12_canFinish
  rw [e_lt, e_lt, z0]
  exact cf_out hJ hD ha hS hC FU 0 (Nat.zero_le _) (by unfold FU; omega)
theorem JY.dr {y : Mem} {A : St} {S : Nat → Bool} {hh : Nat → Int32} {jj qq : Nat → Nat} (hJ : JY y A S hh jj qq) {a : Nat} : JY (up4 y 142 0 0 a (-1)) A (dl S a) hh jj qq := by
  obtain ⟨h0, h1, h2, h3⟩ := hJ
  refine ⟨fun k s q r => by rw [up4_ne (by omega)]; exact h0 k s q r, fun b q => by rw [up4_ne (by omega)]; exact h1 b q, fun b q r => ?_, fun b q r => ?_⟩
  · unfold dl at r
    by_cases e : b = a
    · rw [if_pos e] at r
      exact absurd r (by decide)
    · rw [if_neg e] at r
      rw [up4_ne (by omega), up4_ne (by omega)]
      exact h2 b q r
  · unfold dl at r
    by_cases e : b = a
    · subst e
      rw [up4_eq]
      exact lt0_neg
    · rw [if_neg e] at r
      rw [up4_ne (by omega)]
      exact h3 b q r
theorem JD.dr {A : St} {S : Nat → Bool} {jj qq : Nat → Nat} (hD : JD A S jj qq) {a : Nat} : JD A (dl S a) jj qq := fun b q r => hD b q (by
  unfold dl at r
  by_cases e : b = a
  · rw [if_pos e] at r
    exact absurd r (by decide)
  · rw [if_neg e] at r
    exact r)
def CC (A : St) (S : Nat → Bool) (jj qq : Nat → Nat) (cw : Nat → Int32) : Prop := ∀ a, a < 3 → S a = true → CW A (jj a) (qq a) (cw a)
theorem CC.dr {A : St} {S : Nat → Bool} {jj qq : Nat → Nat} {cw : Nat → Int32} (hC : CC A S jj qq cw) {a : Nat} : CC A (dl S a) jj qq cw := fun b q r => hC b q (by
  unfold dl at r
  by_cases e : b = a
  · rw [if_pos e] at r
    exact absurd r (by decide)
  · rw [if_neg e] at r
    exact r)
def stT (hh cw : Nat → Int32) (t : Nat) (S : Nat → Bool) : Nat → Bool := if t = 0 then pas hh cw S else if t = 1 then stp1 hh cw 2 (stp1 hh cw 1 S) else if t = 2 then stp1 hh cw 2 S else S
theorem stT_s {hh cw : Nat → Int32} {t : Nat} (h : t < 3) (S : Nat → Bool) : stT hh cw (t + 1) (stp1 hh cw t S) = stT hh cw t S := by
  match t, h with
  | 0, _ => rfl
  | 1, _ => rfl
  | 2, _ => rfl
theorem rs_in {A : St} {hh cw : Nat → Int32} {jj qq : Nat → Nat} {y0 : Mem} (k2 : Int32 → Mem → Option (Int32 × Mem)) : ∀ (m t : Nat) (S : Nat → Bool) (y : Mem) (f : Int32), t ≤ 3 → 3 < t + m → JY y A S hh jj qq → JD A S jj qq → CC A S jj qq cw → (∀ k b i s, k ≠ 142 → y k b i s = y0 k b i s) → ∃ f' y', m_X12_findStuck_l10 k2 m f (Int32.ofNat t) y = k2 f' y' ∧ JY y' A (stT hh cw t S) hh jj qq ∧ JD A (stT hh cw t S) jj qq ∧ CC A (stT hh cw t S) jj qq cw ∧ (∀ k b i s, k ≠ 142 → y' k b i s = y0 k b i s) ∧ ((f' = f ∧ stT hh cw t S = S) ∨ (f' = 1 ∧ cnt (stT hh cw t S) < cnt S)) := by
  intro m
  induction m with
  | zero => intro t S y f h1 h2; omega
  | succ m ih =>
    intro t S y f h1 h2 hJ hD hC ho
    show ∃ f' y', m_X12_findStuck_b10 k2 (m_X12_findStuck_l10 k2 m) f (Int32.ofNat t) y = k2 f' y' ∧ _
    unfold m_X12_findStuck_b10 m_X12_findStuck_j44
    by_cases ht : t = 3
    · subst ht
      rw [if_pos (by decide)]
      exact ⟨f, y, rfl, hJ, hD, hC, ho, Or.inl ⟨rfl, rfl⟩⟩
    have h3 : t < 3 := by omega
    rw [if_neg (le3 h3), gd_n h3 (by decide), tn (show t < 2 ^ 31 by omega)]
    cases hs : S t with
    | false =>
      have e1 : stp1 hh cw t S = S := by
        unfold stp1
        rw [if_neg (fun q => by rw [hs] at q; exact absurd q.1 (by decide))]
      rw [if_pos (hJ.2.2.2 t h3 hs), e_lt, n1]
      obtain ⟨f', y', q1, q2, q3, q4, q5, q6⟩ := ih (t + 1) S y f (by omega) (by omega) hJ hD hC ho
      rw [← stT_s h3 S, e1]
      exact ⟨f', y', q1, q2, q3, q4, q5, q6⟩
    | true =>
      have h30 := (hD t h3 hs).1
      rw [(hJ.2.2.1 t h3 hs).1, if_neg (ge0 (by omega)), cf_y hJ hD h3 hs (hC t h3 hs), e_bd]
      by_cases hc : cw t &&& othT hh S t 3 = 0
      · have e1 : stp1 hh cw t S = dl S t := by
          unfold stp1
          rw [if_pos ⟨hs, hc⟩]
        rw [if_pos hc, if_neg no1, e_lt, e_lt, e_lt, n1]
        obtain ⟨f', y', q1, q2, q3, q4, q5, q6⟩ := ih (t + 1) (dl S t) (up4 y 142 0 0 t (-1)) 1 (by omega) (by omega) hJ.dr hD.dr hC.dr (fun k b i s q => by rw [up4_ne (by omega)]; exact ho k b i s q)
        rw [← stT_s h3 S, e1]
        refine ⟨f', y', q1, q2, q3, q4, q5, Or.inr ?_⟩
        have hcd := cnt_dl h3 hs
        rcases q6 with ⟨w1, w2⟩ | ⟨w1, w2⟩
        · rw [w2]
          exact ⟨w1, hcd⟩
        · exact ⟨w1, by omega⟩
      · have e1 : stp1 hh cw t S = S := by
          unfold stp1
          rw [if_neg (fun q => hc q.2)]
        rw [if_neg hc, if_pos rfl, e_lt, n1]
        obtain ⟨f', y', q1, q2, q3, q4, q5, q6⟩ := ih (t + 1) S y f (by omega) (by omega) hJ hD hC ho
        rw [← stT_s h3 S, e1]
        exact ⟨f', y', q1, q2, q3, q4, q5, q6⟩
theorem rs_low {A : St} {S : Nat → Bool} {hh : Nat → Int32} {jj qq : Nat → Nat} {y : Mem} (hJ : JY y A S hh jj qq) (hD : JD A S jj qq) : m_X12_findStuck_l55 FU 0 y = some (low S, y) := by
  have hneg : ∀ a, a < 3 → S a = true → ¬ y 142 0 0 a < 0 := fun a ha hs => by
    have h30 := (hD a ha hs).1
    rw [(hJ.2.2.1 a ha hs).1]
    exact ge0 (by omega)
  obtain ⟨m, hm⟩ := FUs
  unfold low
  rw [hm]
  show m_X12_findStuck_b55 (m_X12_findStuck_l55 (m + 7)) (Int32.ofNat 0) y = _
  unfold m_X12_findStuck_b55
  rw [if_neg (le3 (by decide)), gd_n (n := 3) (by decide) (by decide), tn (k := 0) (by decide)]
  cases h0 : S 0 with
  | true => rw [if_neg (hneg 0 (by decide) h0), if_pos rfl]; rfl
  | false =>
    rw [if_pos (hJ.2.2.2 0 (by decide) h0), if_neg (by decide), e_lt, n1]
    show m_X12_findStuck_b55 (m_X12_findStuck_l55 (m + 6)) (Int32.ofNat 1) y = _
    unfold m_X12_findStuck_b55
    rw [if_neg (le3 (by decide)), gd_n (n := 3) (by decide) (by decide), tn (k := 1) (by decide)]
    cases h1 : S 1 with
    | true => rw [if_neg (hneg 1 (by decide) h1), if_pos rfl]; rfl
    | false =>
      rw [if_pos (hJ.2.2.2 1 (by decide) h1), if_neg (by decide), e_lt, n1]
      show m_X12_findStuck_b55 (m_X12_findStuck_l55 (m + 5)) (Int32.ofNat 2) y = _
      unfold m_X12_findStuck_b55
      rw [if_neg (le3 (by decide)), gd_n (n := 3) (by decide) (by decide), tn (k := 2) (by decide)]
      cases h2 : S 2 with
      | true => rw [if_neg (hneg 2 (by decide) h2), if_pos rfl]; rfl
      | false =>
        rw [if_pos (hJ.2.2.2 2 (by decide) h2), if_neg (by decide), e_lt, n1]
        show m_X12_findStuck_b55 (m_X12_findStuck_l55 (m + 4)) (Int32.ofNat 3) y = _
        unfold m_X12_findStuck_b55
        rw [if_pos (by decide)]
theorem rs_out {A : St} {hh cw : Nat → Int32} {jj qq : Nat → Nat} {y0 : Mem} : ∀ (n : Nat) (S : Nat → Bool) (y : Mem) (m : Nat), cnt S ≤ n → n + 2 ≤ m → JY y A S hh jj qq → JD A S jj qq → CC A S jj qq cw → (∀ k b i s, k ≠ 142 → y k b i s = y0 k b i s) → ∃ y', m_X12_findStuck_l2 m 1 y = some (low (itp hh cw 3 S), y') ∧ (∀ k b i s, k ≠ 142 → y' k b i s = y0 k b i s) := by
  intro n
  induction n with
  | zero =>
    intro S y m h1 h2 hJ hD hC ho
    obtain ⟨m', rfl⟩ : ∃ m', m = m' + 2 := ⟨m - 2, by omega⟩
    show ∃ y', m_X12_findStuck_b2 (m_X12_findStuck_l2 (m' + 1)) 1 y = _ ∧ _
    unfold m_X12_findStuck_b2
    rw [if_neg no1, e_lt, e_lt]
    obtain ⟨f', y', q1, q2, q3, q4, q5, q6⟩ := rs_in (cw := cw) (y0 := y0) (m_X12_findStuck_l2 (m' + 1)) FU 0 S y 0 (Nat.zero_le _) (by unfold FU; omega) hJ hD hC ho
    rcases q6 with ⟨w1, w2⟩ | ⟨w1, w2⟩
    · rw [← z0] at q1
      rw [q1, w1]
      rw [w2] at q2 q3
      have hfix : itp hh cw 3 S = S := itp_fix w2 3
      rw [hfix]
      refine ⟨y', ?_, q5⟩
      show m_X12_findStuck_b2 (m_X12_findStuck_l2 m') 0 y' = _
      unfold m_X12_findStuck_b2
      rw [if_pos rfl, e_lt]
      exact rs_low q2 q3
    · omega
  | succ n ih =>
    intro S y m h1 h2 hJ hD hC ho
    obtain ⟨m', rfl⟩ : ∃ m', m = m' + 2 := ⟨m - 2, by omega⟩
    show ∃ y', m_X12_findStuck_b2 (m_X12_findStuck_l2 (m' + 1)) 1 y = _ ∧ _
    unfold m_X12_findStuck_b2
    rw [if_neg no1, e_lt, e_lt]
    obtain ⟨f', y', q1, q2, q3, q4, q5, q6⟩ := rs_in (cw := cw) (y0 := y0) (m_X12_findStuck_l2 (m' + 1)) FU 0 S y 0 (Nat.zero_le _) (by unfold FU; omega) hJ hD hC ho
    rw [← z0] at q1
    rw [q1]
    rcases q6 with ⟨w1, w2⟩ | ⟨w1, w2⟩
    · rw [w1]
      rw [w2] at q2 q3
      have hfix : itp hh cw 3 S = S := itp_fix w2 3
      rw [hfix]
      refine ⟨y', ?_, q5⟩
      show m_X12_findStuck_b2 (m_X12_findStuck_l2 m') 0 y' = _
      unfold m_X12_findStuck_b2
      rw [if_pos rfl, e_lt]
      exact rs_low q2 q3
    · rw [w1]
      have w2' : cnt (pas hh cw S) < cnt S := w2
      obtain ⟨y2, r1, r2⟩ := ih (pas hh cw S) y' (m' + 1) (by omega) (by omega) q2 q3 q4 q5
      refine ⟨y2, ?_, r2⟩
      rw [r1]
      have e1 : itp hh cw 3 (pas hh cw S) = itp hh cw 4 S := rfl
      have h3 := itp_fixN (hh := hh) (cw := cw) 3 S (cnt_3 S)
      rw [e1, show (4 : Nat) = 3 + 1 from rfl, itp_add, itp_fix h3]
theorem rs_y {A : St} {hh cw : Nat → Int32} {jj qq : Nat → Nat} {S : Nat → Bool} {y : Mem} (hJ : JY y A S hh jj qq) (hD : JD A S jj qq) (hC : CC A S jj qq cw) : ∃ y', m_X12_findStuck y = some (low (itp hh cw 3 S), y') ∧ (∀ k b i s, k ≠ 142 → y' k b i s = y k b i s) := by
  unfold m_X12_findStuck
  rw [e_lt]
  exact rs_out 3 S y FU (cnt_3 S) (by unfold FU; omega) hJ hD hC (fun _ _ _ _ _ => rfl)
/-! what it looks at -/
theorem InvW.cg {A B : St} (h : ∀ k s, mn k s → RdK k s → k ≠ 116 → A k s = B k s) (hI : InvW A) : InvW B := by
  have h3 : ∀ k a, (k = 103 ∨ k = 104 ∨ k = 106 ∨ k = 107 ∨ k = 111 ∨ (113 ≤ k ∧ k ≤ 115)) → a < 3 → B k a = A k a := fun k a q r => (h k a (mn3 (by omega) r) (rdk (by omega)) (by omega)).symm
  have h30 : ∀ k j, 123 ≤ k → k ≤ 128 → j < 30 → B k j = A k j := fun k j q r t => (h k j (mn30 (by omega) (by omega) t) (rdk (by omega)) (by omega)).symm
  have h8 : ∀ z, z < 8 → B 101 z = A 101 z := fun z q => (h 101 z (mn8 (by decide) q) (rdk (by decide)) (by decide)).symm
  obtain ⟨J, hJ, e1, hj, ha, hb, hz, hd⟩ := hI
  have hjb : ∀ a, a < 3 → ajob A a < 30 := fun a q => by
    unfold ajob
    rcases (ha a q).1 with ⟨-, w, -⟩ | ⟨j, q, n, w1, w2, -⟩
    · rw [w]; decide
    · rw [w2, tn (by omega)]; omega
  have hh : ∀ a, a < 3 → hold B a = hold A a := fun a q => hold_kp (h3 _ _ (by decide) q) (h3 _ _ (by decide) q) (h3 _ _ (by decide) q) (h30 _ _ (by decide) (by decide) (hjb a q)) (h30 _ _ (by decide) (by decide) (hjb a q))
  have e2 : ∀ a, a < 3 → ajob B a = ajob A a := fun a q => by unfold ajob; rw [h3 113 a (by decide) q]
  have hcnt : ∀ f d, f = 127 ∨ f = 128 → cntB B f d = cntB A f d := fun f d hf => by
    unfold cntB
    rw [e2 0 (by decide), e2 1 (by decide), e2 2 (by decide), h3 114 0 (by decide) (by decide), h3 114 1 (by decide) (by decide), h3 114 2 (by decide) (by decide), h30 f _ (by omega) (by omega) (hjb 0 (by decide)), h30 f _ (by omega) (by omega) (hjb 1 (by decide)), h30 f _ (by omega) (by omega) (hjb 2 (by decide))]
  refine ⟨J, hJ, by rw [← h 40 34 (mnS (by decide) (by decide)) (Or.inl ⟨rfl, rfl⟩) (by decide)]; exact e1, fun j q => ?_, fun a q => ?_, fun b q => ?_, ⟨fun z q => ?_, fun z w q r => ?_⟩, fun a b q r t => ?_⟩
  · have g := hj j q
    have hq : j < 30 := by omega
    unfold JobOk at g ⊢
    rw [h30 123 j (by decide) (by decide) hq, h30 124 j (by decide) (by decide) hq, h30 125 j (by decide) (by decide) hq, h30 126 j (by decide) (by decide) hq, h30 127 j (by decide) (by decide) hq, h30 128 j (by decide) (by decide) hq]
    exact g
  · obtain ⟨g, r, g2, g3, g4⟩ := ha a q
    refine ⟨?_, r, by rw [h3 111 a (by decide) q]; exact g2, g3, fun k hk => ?_⟩
    · rw [h3 113 a (by decide) q, h3 114 a (by decide) q, h3 115 a (by decide) q]
      refine g.imp id fun ⟨j, p, n, w1, w2, w3, w4, w5⟩ => ⟨j, p, n, w1, ?_, ?_, ?_, ?_⟩
      · rw [h3 113 a (by decide) q]; exact w2
      · rw [h3 115 a (by decide) q]; exact w3
      · rw [h30 124 j (by decide) (by decide) (by omega)]; exact w4
      · rw [h3 114 a (by decide) q]; exact w5
    · rw [← h 112 _ (mnR (by omega)) (rdk (by decide)) (by decide)]
      exact g4 k hk
  · obtain ⟨cap, n, pp, pr, g1, g2, g3, g4, g5, g6, g7, g8, g9, g10⟩ := hb b q
    refine ⟨cap, n, pp, pr, ?_, ?_, ?_, ?_, g5, g6, g7, by rw [hcnt _ _ (by decide)]; exact g8, by rw [hcnt _ _ (by decide)]; exact g9, fun k hk => ?_⟩
    · rw [h3 103 b (by decide) q]; exact g1
    · rw [h3 104 b (by decide) q]; exact g2
    · rw [h3 106 b (by decide) q]; exact g3
    · rw [h3 107 b (by decide) q]; exact g4
    · rw [← h 105 _ (mnP (by omega)) (rdk (by decide)) (by decide)]
      exact g10 k hk
  · rw [h8 z q]
    exact hz.1 z q
  · rw [h8 z q, h8 w r]
    exact hz.2 z w q r
  · rw [hh a q, hh b r]
    exact hd a b q r t
theorem InvW.oth {y y' : Mem} (hI : InvW (V y)) (h : ∀ k s, mn k s → y' k 0 0 s = y k 0 0 s) : InvW (V y') := hI.cg (fun k s q _ _ => (h k s q).symm)
theorem Inv.oth {y y' : Mem} (hI : Inv (V y)) (h : ∀ k s, mn k s → y' k 0 0 s = y k 0 0 s) : Inv (V y') := hI.cg (fun k s q _ => (h k s q).symm)
theorem hold_oth {y y' : Mem} (h : ∀ k s, 101 ≤ k → k ≤ 132 → y' k 0 0 s = y k 0 0 s) (a : Nat) : hold (V y') a = hold (V y) a := hold_kp (h _ _ (by decide) (by decide)) (h _ _ (by decide) (by decide)) (h _ _ (by decide) (by decide)) (h _ _ (by decide) (by decide)) (h _ _ (by decide) (by decide))
theorem fn_loop {y0 : Mem} (hI : InvW (V y0)) : ∀ (m t : Nat) (y : Mem), t ≤ 3 → 3 < t + m → (∀ k b i s, ¬ (141 ≤ k ∧ k ≤ 143) → y k b i s = y0 k b i s) → (∀ a, a < t → y 141 0 0 a = hold (V y0) a ∧ y 142 0 0 a = y0 113 0 0 a ∧ y 143 0 0 a = y0 115 0 0 a + (if y0 114 0 0 a = 2 then 2 else 1)) → ∃ y', m_X12_findNow_l2 m (Int32.ofNat t) y = some y' ∧ (∀ k b i s, ¬ (141 ≤ k ∧ k ≤ 143) → y' k b i s = y0 k b i s) ∧ (∀ a, a < 3 → y' 141 0 0 a = hold (V y0) a ∧ y' 142 0 0 a = y0 113 0 0 a ∧ y' 143 0 0 a = y0 115 0 0 a + (if y0 114 0 0 a = 2 then 2 else 1)) := by
  intro m
  induction m with
  | zero => intro t y h1 h2; omega
  | succ m ih =>
    intro t y h1 h2 ho hL
    show ∃ y', m_X12_findNow_b2 (m_X12_findNow_l2 m) (Int32.ofNat t) y = some y' ∧ _
    unfold m_X12_findNow_b2 m_X12_findNow_j56
    by_cases ht : t = 3
    · subst ht
      rw [if_pos (by decide)]
      exact ⟨y, rfl, ho, hL⟩
    have h3 : t < 3 := by omega
    have hIy : InvW (V y) := hI.oth (fun k s q => ho _ _ _ _ (by have := mn_K q; omega))
    rw [if_neg (le3 h3), holds_n hIy h3, e_bd, gd_n h3 (by decide), e_lt, e_lt, tn (show t < 2 ^ 31 by omega), hold_oth (fun k s q r => ho _ _ _ _ (by omega)) t, up4_ne (k' := 113) (by omega), ho 113 _ _ _ (by omega)]
    generalize hy7 : up4 (up4 y 141 0 0 t (hold (V y0) t)) 142 0 0 t (y0 113 0 0 t) = y7
    have o7 : ∀ k b i s, ¬ ((k = 141 ∨ k = 142) ∧ s = t) → y7 k b i s = y k b i s := fun k b i s q => by rw [← hy7, up4_ne (by omega), up4_ne (by omega)]
    have e141 : y7 141 0 0 t = hold (V y0) t := by rw [← hy7, up4_ne (by omega), up4_eq]
    have e142 : y7 142 0 0 t = y0 113 0 0 t := by rw [← hy7, up4_eq]
    have fin : ∀ v : Int32, v = (if y0 114 0 0 t = 2 then 2 else 1) → ∃ y', m_X12_findNow_l2 m (Int32.ofNat (t + 1)) (up4 y7 143 0 0 t (y0 115 0 0 t + v)) = some y' ∧ (∀ k b i s, ¬ (141 ≤ k ∧ k ≤ 143) → y' k b i s = y0 k b i s) ∧ (∀ a, a < 3 → y' 141 0 0 a = hold (V y0) a ∧ y' 142 0 0 a = y0 113 0 0 a ∧ y' 143 0 0 a = y0 115 0 0 a + (if y0 114 0 0 a = 2 then 2 else 1)) := by
      intro v hv
      subst hv
      refine ih (t + 1) _ (by omega) (by omega) (fun k b i s q => ?_) (fun a q => ?_)
      · rw [up4_ne (by omega), o7 _ _ _ _ (by omega)]
        exact ho _ _ _ _ q
      · by_cases e : a = t
        · subst e
          rw [up4_ne (k' := 141) (by omega), up4_ne (k' := 142) (by omega), up4_eq]
          exact ⟨e141, e142, rfl⟩
        · rw [up4_ne (k' := 141) (by omega), up4_ne (k' := 142) (by omega), up4_ne (k' := 143) (by omega), o7 141 _ _ _ (by omega), o7 142 _ _ _ (by omega), o7 143 _ _ _ (by omega)]
          exact hL a (by omega)
    rw [o7 114 _ _ _ (by omega), o7 115 _ _ _ (by omega), ho 114 _ _ _ (by omega), ho 115 _ _ _ (by omega)]
    by_cases h2 : y0 114 0 0 t = 2
    · rw [if_pos h2, gd_n h3 (by decide), e_lt, e_lt, n1]
      exact fin 2 (by rw [if_pos h2])
    · rw [if_neg h2, gd_n h3 (by decide), e_lt, e_lt, n1]
      exact fin 1 (by rw [if_neg h2])
theorem fn_y {y : Mem} (hI : InvW (V y)) : ∃ y', m_X12_findNow y = some y' ∧ (∀ k b i s, ¬ (141 ≤ k ∧ k ≤ 143) → y' k b i s = y k b i s) ∧ (∀ a, a < 3 → y' 141 0 0 a = hold (V y) a ∧ y' 142 0 0 a = y 113 0 0 a ∧ y' 143 0 0 a = y 115 0 0 a + (if y 114 0 0 a = 2 then 2 else 1)) := by
  unfold m_X12_findNow
  rw [e_lt, z0]
  exact fn_loop hI FU 0 y (Nat.zero_le _) (by unfold FU; omega) (fun _ _ _ _ _ => rfl) (fun a q => by omega)
def Sa (A : St) : Nat → Bool := fun a => decide (A 114 a ≠ 0)
theorem InvW.jd {A : St} (hI : InvW A) : JD A (Sa A) (ajob A) (lh A) := by
  intro a ha hs
  have h0 : A 114 a ≠ 0 := of_decide_eq_true hs
  obtain ⟨j, q, p, n, h30, -, a113, a115, a123, a124, hp, hq, hst⟩ := hI.act ha h0
  have ej : ajob A a = j := by unfold ajob; rw [a113, tn (by omega)]
  have eq' : apos A a = q := by unfold apos; rw [a115, tn (by have := hp.2.1; omega)]
  rw [ej]
  refine ⟨h30, p, n, a123, a124, hp, ?_⟩
  unfold lh
  rw [eq']
  rcases hst with w | ⟨w, w2⟩ | ⟨w, w2⟩
  · rw [if_neg (by rw [w]; decide)]; exact hq
  · rw [if_pos w]; exact w2
  · rw [if_neg (by rw [w]; decide)]; exact hq
theorem fn_jy {y y' : Mem} (hI : InvW (V y)) (ho : ∀ k b i s, ¬ (141 ≤ k ∧ k ≤ 143) → y' k b i s = y k b i s) (hL : ∀ a, a < 3 → y' 141 0 0 a = hold (V y) a ∧ y' 142 0 0 a = y 113 0 0 a ∧ y' 143 0 0 a = y 115 0 0 a + (if y 114 0 0 a = 2 then 2 else 1)) : JY y' (V y) (Sa (V y)) (hold (V y)) (ajob (V y)) (lh (V y)) := by
  refine ⟨fun k s q r => ho _ _ _ _ (by omega), fun a ha => (hL a ha).1, fun a ha hs => ?_, fun a ha hs => ?_⟩
  · have h0 : V y 114 a ≠ 0 := of_decide_eq_true hs
    obtain ⟨j, q, p, n, h30, -, a113, a115, a123, a124, hp, hq, hst⟩ := hI.act ha h0
    have ej : ajob (V y) a = j := by unfold ajob; rw [a113, tn (by omega)]
    have eq' : apos (V y) a = q := by unfold apos; rw [a115, tn (by have := hp.2.1; omega)]
    obtain ⟨-, l2, l3⟩ := hL a ha
    rw [ej, l2, l3]
    refine ⟨a113, ?_⟩
    rw [show y 115 0 0 a = Int32.ofNat q from a115]
    unfold lh
    rw [eq']
    by_cases h2 : y 114 0 0 a = 2
    · rw [if_pos h2, if_pos (show V y 114 a = 2 from h2), Int32.ofNat_add, Int32.ofNat_add, Int32.add_assoc]
      rfl
    · rw [if_neg h2, if_neg (show ¬ V y 114 a = 2 from h2), n1]
  · have h0 : V y 114 a = 0 := Decidable.of_not_not (of_decide_eq_false hs)
    rw [(hL a ha).2.1]
    obtain ⟨J, hJ, -, -, hA, -⟩ := hI
    rcases (hA a ha).1 with ⟨-, h, -⟩ | h
    · rw [show y 113 0 0 a = -1 from h]
      exact lt0_neg
    · exfalso
      obtain ⟨j, q, n, h1, h2, h3, h4, h5, h6, h7⟩ := h
      rw [h0] at h7
      rcases h7 with ⟨w, -⟩ | ⟨w, -⟩ | ⟨w, -⟩ <;> exact absurd w (by decide)
