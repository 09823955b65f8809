/-! THE JUDGE: which arms can't finish -/
def con (A : St) (z : Nat) : Int32 := A 101 z ||| bit z
def othT (hh : Nat → Int32) (S : Nat → Bool) (i : Nat) : Nat → Int32
  | 0 => 0
  | t + 1 => othT hh S i t ||| (if t ≠ i ∧ S t = true then hh t else 0)
theorem tb_oth {hh : Nat → Int32} {S : Nat → Bool} {i w : Nat} : ∀ t, tb (othT hh S i t) w = true ↔ ∃ b, b < t ∧ b ≠ i ∧ S b = true ∧ tb (hh b) w = true
  | 0 => by
    constructor
    · intro h
      rw [show othT hh S i 0 = 0 from rfl, tb_0] at h
      exact absurd h (by decide)
    · rintro ⟨b, h, -⟩
      omega
  | t + 1 => by
    rw [show othT hh S i (t + 1) = othT hh S i t ||| (if t ≠ i ∧ S t = true then hh t else 0) from rfl, tb_or, Bool.or_eq_true, tb_oth t]
    constructor
    · rintro (⟨b, h1, h2⟩ | h)
      · exact ⟨b, by omega, h2⟩
      · by_cases e : t ≠ i ∧ S t = true
        · rw [if_pos e] at h
          exact ⟨t, by omega, e.1, e.2, h⟩
        · rw [if_neg e, tb_0] at h
          exact absurd h (by decide)
    · rintro ⟨b, h1, h2, h3, h4⟩
      by_cases e : b = t
      · subst e
        right
        rw [if_pos ⟨h2, h3⟩]
        exact h4
      · exact Or.inl ⟨b, by omega, h2, h3, h4⟩
def dl (S : Nat → Bool) (i : Nat) : Nat → Bool := fun b => if b = i then false else S b
def stp1 (hh cw : Nat → Int32) (i : Nat) (S : Nat → Bool) : Nat → Bool := if S i = true ∧ cw i &&& othT hh S i 3 = 0 then dl S i else S
def pas (hh cw : Nat → Int32) (S : Nat → Bool) : Nat → Bool := stp1 hh cw 2 (stp1 hh cw 1 (stp1 hh cw 0 S))
def itp (hh cw : Nat → Int32) : Nat → (Nat → Bool) → Nat → Bool
  | 0, S => S
  | n + 1, S => itp hh cw n (pas hh cw S)
def b2n (b : Bool) : Nat := if b = true then 1 else 0
def cnt (S : Nat → Bool) : Nat := b2n (S 0) + b2n (S 1) + b2n (S 2)
theorem cnt_dl {S : Nat → Bool} {i : Nat} (hi : i < 3) (h : S i = true) : cnt (dl S i) < cnt S := by
  unfold cnt dl
  match i, hi with
  | 0, _ => simp [h, b2n]
  | 1, _ => simp [h, b2n]
  | 2, _ => simp [h, b2n]
theorem stp1_or {hh cw : Nat → Int32} {i : Nat} (hi : i < 3) (S : Nat → Bool) : stp1 hh cw i S = S ∨ cnt (stp1 hh cw i S) < cnt S := by
  unfold stp1
  by_cases h : S i = true ∧ cw i &&& othT hh S i 3 = 0
  · rw [if_pos h]
    exact Or.inr (cnt_dl hi h.1)
  · rw [if_neg h]
    exact Or.inl rfl
theorem pas_or {hh cw : Nat → Int32} (S : Nat → Bool) : pas hh cw S = S ∨ cnt (pas hh cw S) < cnt S := by
  unfold pas
  rcases stp1_or (hh := hh) (cw := cw) (i := 0) (by decide) S with h0 | h0 <;> rcases stp1_or (hh := hh) (cw := cw) (i := 1) (by decide) (stp1 hh cw 0 S) with h1 | h1 <;> rcases stp1_or (hh := hh) (cw := cw) (i := 2) (by decide) (stp1 hh cw 1 (stp1 hh cw 0 S)) with h2 | h2
  · left; rw [h2, h1, h0]
  · right; rw [h1, h0] at h2 ⊢; exact h2
  · right; rw [h2]; rw [h0] at h1 ⊢; exact h1
  · right; rw [h0] at h1 h2 ⊢; omega
  · right; rw [h2, h1]; exact h0
  · right; rw [h1] at h2 ⊢; omega
  · right; rw [h2]; omega
  · right; omega
theorem pas_0 {hh cw : Nat → Int32} {S : Nat → Bool} (h : cnt S = 0) : pas hh cw S = S := by
  rcases pas_or (hh := hh) (cw := cw) S with e | e
  · exact e
  · omega
theorem itp_fix {hh cw : Nat → Int32} {S : Nat → Bool} (h : pas hh cw S = S) : ∀ n, itp hh cw n S = S
  | 0 => rfl
  | n + 1 => by
    show itp hh cw n (pas hh cw S) = S
    rw [h]
    exact itp_fix h n
theorem itp_fixN {hh cw : Nat → Int32} : ∀ n (S : Nat → Bool), cnt S ≤ n → pas hh cw (itp hh cw n S) = itp hh cw n S
  | 0, S, h => pas_0 (S := itp hh cw 0 S) (by show cnt S = 0; omega)
  | n + 1, S, h => by
    rcases pas_or (hh := hh) (cw := cw) S with e | e
    · rw [itp_fix e]
      exact e
    · exact itp_fixN n (pas hh cw S) (by omega)
theorem itp_add {hh cw : Nat → Int32} : ∀ n m (S : Nat → Bool), itp hh cw (n + m) S = itp hh cw m (itp hh cw n S)
  | 0, m, S => by rw [Nat.zero_add]; rfl
  | n + 1, m, S => by
    rw [show n + 1 + m = n + m + 1 by omega]
    exact itp_add n m (pas hh cw S)
theorem cnt_3 (S : Nat → Bool) : cnt S ≤ 3 := by
  unfold cnt b2n
  split <;> split <;> split <;> decide
theorem itp_same {hh cw : Nat → Int32} {S : Nat → Bool} {n : Nat} (h : pas hh cw (itp hh cw n S) = itp hh cw n S) : itp hh cw n S = itp hh cw 3 S := by
  have h3 := itp_fixN (hh := hh) (cw := cw) 3 S (cnt_3 S)
  by_cases e : n ≤ 3
  · obtain ⟨m, hm⟩ : ∃ m, 3 = n + m := ⟨3 - n, by omega⟩
    rw [hm, itp_add, itp_fix h]
  · obtain ⟨m, hm⟩ : ∃ m, n = 3 + m := ⟨n - 3, by omega⟩
    rw [hm, itp_add, itp_fix h3]
/-- the class's sets: who is stuck, what those hold -/
def StP (v : Int32) (S : Nat → Bool) : Prop := ∀ w, w < 32 → (tb v w = true ↔ w < 3 ∧ S w = true)
def HeP (v : Int32) (hh : Nat → Int32) (S : Nat → Bool) : Prop := ∀ w, w < 32 → (tb v w = true ↔ ∃ b, b < 3 ∧ S b = true ∧ tb (hh b) w = true)
def DJ (hh : Nat → Int32) : Prop := ∀ a b, a < 3 → b < 3 → a ≠ b → hh a &&& hh b = 0
theorem DJ.tb {hh : Nat → Int32} (h : DJ hh) {a b w : Nat} (ha : a < 3) (hb : b < 3) (hab : a ≠ b) (hw : w < 32) (h1 : tb (hh a) w = true) : tb (hh b) w = false := and0_iff.mp (h a b ha hb hab) w hw h1
theorem StP.bt {v : Int32} {S : Nat → Bool} (h : StP v S) {i : Nat} (hi : i < 3) : v &&& bit i = 0 ↔ S i = false := by
  rw [and_bit (by omega)]
  have := h i (by omega)
  cases hs : S i <;> cases hv : tb v i <;> simp_all
theorem StP.dr {v : Int32} {S : Nat → Bool} (h : StP v S) {i : Nat} (hi : i < 3) : StP (v &&& (bit i ^^^ (-1))) (dl S i) := by
  intro w hw
  rw [tb_and, tb_not hw, tb_bit (by omega) hw, Bool.and_eq_true, h w hw]
  unfold dl
  by_cases e : w = i
  · simp [e]
  · simp [e]
theorem HeP.dr {v : Int32} {hh : Nat → Int32} {S : Nat → Bool} (h : HeP v hh S) (hd : DJ hh) {i : Nat} (hi : i < 3) : HeP (v &&& (hh i ^^^ (-1))) hh (dl S i) := by
  intro w hw
  rw [tb_and, tb_not hw, Bool.and_eq_true, h w hw]
  unfold dl
  constructor
  · rintro ⟨⟨b, h1, h2, h3⟩, h4⟩
    have hb : b ≠ i := by
      rintro rfl
      rw [h3] at h4
      exact absurd h4 (by decide)
    exact ⟨b, h1, by rw [if_neg hb]; exact h2, h3⟩
  · rintro ⟨b, h1, h2, h3⟩
    have hb : b ≠ i := by
      rintro rfl
      rw [if_pos rfl] at h2
      exact absurd h2 (by decide)
    rw [if_neg hb] at h2
    exact ⟨⟨b, h1, h2, h3⟩, by rw [hd.tb h1 hi hb hw h3]; rfl⟩
theorem HeP.can {v cwi : Int32} {hh : Nat → Int32} {S : Nat → Bool} (h : HeP v hh S) (hd : DJ hh) {i : Nat} (hi : i < 3) : (cwi &&& v) &&& (hh i ^^^ (-1)) = 0 ↔ cwi &&& othT hh S i 3 = 0 := by
  rw [and0_iff, and0_iff]
  constructor
  · intro q w hw hc
    cases ho : tb (othT hh S i 3) w with
    | false => rfl
    | true =>
      obtain ⟨b, h1, h2, h3, h4⟩ := (tb_oth 3).mp ho
      have := q w hw (by rw [tb_and, hc, (h w hw).mpr ⟨b, h1, h3, h4⟩]; rfl)
      rw [tb_not hw, hd.tb h1 hi h2 hw h4] at this
      exact absurd this (by decide)
  · intro q w hw hc
    rw [tb_and, Bool.and_eq_true, h w hw] at hc
    obtain ⟨h0, b, h1, h2, h3⟩ := hc
    rw [tb_not hw]
    by_cases e : b = i
    · subst e
      rw [h3]
      rfl
    · have := q w hw h0
      rw [(tb_oth 3).mpr ⟨b, h1, e, h2, h3⟩] at this
      exact absurd this (by decide)
def low (S : Nat → Bool) : Int32 := if S 0 = true then 0 else if S 1 = true then 1 else if S 2 = true then 2 else -1
theorem FUs : ∃ m, FU = m + 8 := ⟨3992, rfl⟩
theorem one_bit (t : Nat) : shl32 1 (Int32.ofNat t) = bit t := rfl
/-- the lowest of a set -/
theorem low_x {v : Int32} {S : Nat → Bool} (h : StP v S) : m_X6_lowest v = some (low S) := by
  obtain ⟨m, hm⟩ := FUs
  unfold m_X6_lowest low
  rw [e_lt, hm]
  show m_X6_lowest_b2 v (m_X6_lowest_l2 v (m + 7)) (Int32.ofNat 0) = _
  unfold m_X6_lowest_b2
  rw [if_neg (le3 (by decide)), one_bit]
  cases h0 : S 0 with
  | true => rw [if_neg (fun q => by have := (h.bt (by decide)).mp q; rw [h0] at this; exact absurd this (by decide)), if_pos rfl]; rfl
  | false =>
    rw [if_pos ((h.bt (by decide)).mpr h0), if_neg (by decide), e_lt, n1]
    show m_X6_lowest_b2 v (m_X6_lowest_l2 v (m + 6)) (Int32.ofNat 1) = _
    unfold m_X6_lowest_b2
    rw [if_neg (le3 (by decide)), one_bit]
    cases h1 : S 1 with
    | true => rw [if_neg (fun q => by have := (h.bt (by decide)).mp q; rw [h1] at this; exact absurd this (by decide)), if_pos rfl]; rfl
    | false =>
      rw [if_pos ((h.bt (by decide)).mpr h1), if_neg (by decide), e_lt, n1]
      show m_X6_lowest_b2 v (m_X6_lowest_l2 v (m + 5)) (Int32.ofNat 2) = _
      unfold m_X6_lowest_b2
      rw [if_neg (le3 (by decide)), one_bit]
      cases h2 : S 2 with
      | true => rw [if_neg (fun q => by have := (h.bt (by decide)).mp q; rw [h2] at this; exact absurd this (by decide)), if_pos rfl]; rfl
      | false =>
        rw [if_pos ((h.bt (by decide)).mpr h2), if_neg (by decide), e_lt, n1]
        show m_X6_lowest_b2 v (m_X6_lowest_l2 v (m + 4)) (Int32.ofNat 3) = _
        unfold m_X6_lowest_b2
        rw [if_pos (by decide)]
theorem low_0 {v : Int32} {S : Nat → Bool} (h : StP v S) : v = 0 ↔ low S = -1 := by
  constructor
  · rintro rfl
    have e : ∀ i, i < 3 → S i = false := fun i hi => (h.bt hi).mp Int32.zero_and
    unfold low
    rw [e 0 (by decide), e 1 (by decide), e 2 (by decide)]
    rfl
  · intro q
    apply tb_ext
    intro w hw
    rw [tb_0]
    cases hv : tb v w with
    | false => rfl
    | true =>
      exfalso
      obtain ⟨h1, h2⟩ := (h w hw).mp hv
      unfold low at q
      cases h0 : S 0 with
      | true => rw [h0, if_pos rfl] at q; exact absurd q (by decide)
      | false =>
        cases h3 : S 1 with
        | true => rw [h0, h3, if_neg (by decide), if_pos rfl] at q; exact absurd q (by decide)
        | false =>
          cases h4 : S 2 with
          | true => rw [h0, h3, h4, if_neg (by decide), if_neg (by decide), if_pos rfl] at q; exact absurd q (by decide)
          | false =>
            match w, h1 with
            | 0, _ => rw [h0] at h2; exact absurd h2 (by decide)
            | 1, _ => rw [h3] at h2; exact absurd h2 (by decide)
            | 2, _ => rw [h4] at h2; exact absurd h2 (by decide)
theorem low_cases (S : Nat → Bool) : low S = -1 ∨ ∃ a : Nat, a < 3 ∧ low S = Int32.ofNat a ∧ S a = true := by
  unfold low
  cases h0 : S 0 with
  | true => exact Or.inr ⟨0, by decide, rfl, h0⟩
  | false =>
    cases h1 : S 1 with
    | true => exact Or.inr ⟨1, by decide, rfl, h1⟩
    | false =>
      cases h2 : S 2 with
      | true => exact Or.inr ⟨2, by decide, rfl, h2⟩
      | false => exact Or.inl rfl
/-! the class's search -/
def JX (x : Mem) (hh cw : Nat → Int32) : Prop := (∀ a, a < 3 → x 20 0 0 a = hh a) ∧ ∀ a, a < 3 → x 21 0 0 a = cw a
theorem fs_in {x : Mem} {hh cw : Nat → Int32} (hJ : JX x hh cw) (hd : DJ hh) (k35 : Int32 → Int32 → Int32 → Mem → Option Int32) {r : Int32} : ∀ (m t : Nat), t ≤ 3 → 3 < t + m → ∀ (S : Nat → Bool) (v u : Int32), StP v S → HeP u hh S → ∃ v' u', m_X6_findStuck_l43 k35 m v u r (Int32.ofNat t) x = m_X6_findStuck_j121 k35 v' u' r x ∧ StP v' (if t = 0 then pas hh cw S else if t = 1 then stp1 hh cw 2 (stp1 hh cw 1 S) else if t = 2 then stp1 hh cw 2 S else S) ∧ HeP u' hh (if t = 0 then pas hh cw S else if t = 1 then stp1 hh cw 2 (stp1 hh cw 1 S) else if t = 2 then stp1 hh cw 2 S else S) := by
  intro m
  induction m with
  | zero => intro t h1 h2; omega
  | succ m ih =>
    intro t h1 h2 S v u hv hu
    show ∃ v' u', m_X6_findStuck_b43 k35 (m_X6_findStuck_l43 k35 m) v u r (Int32.ofNat t) x = _ ∧ _
    unfold m_X6_findStuck_b43
    by_cases ht : t = 3
    · subst ht
      rw [if_pos (by decide)]
      exact ⟨v, u, rfl, hv, hu⟩
    have h3 : t < 3 := by omega
    rw [if_neg (le3 h3), if_neg (le3 h3), one_bit, gd_n h3 (by decide), tn (show t < 2 ^ 31 by omega), hJ.1 t h3, hJ.2 t h3]
    have key : ∀ S1 : Nat → Bool, S1 = stp1 hh cw t S → (if t + 1 = 0 then pas hh cw S1 else if t + 1 = 1 then stp1 hh cw 2 (stp1 hh cw 1 S1) else if t + 1 = 2 then stp1 hh cw 2 S1 else S1) = (if t = 0 then pas hh cw S else if t = 1 then stp1 hh cw 2 (stp1 hh cw 1 S) else if t = 2 then stp1 hh cw 2 S else S) := by
      intro S1 e
      subst e
      match t, h3 with
      | 0, _ => rfl
      | 1, _ => rfl
      | 2, _ => rfl
    by_cases hs : v &&& bit t = 0
    · have hS : S t = false := (hv.bt h3).mp hs
      rw [if_pos hs]
      unfold m_X6_findStuck_j115
      rw [e_lt, n1]
      have e1 : S = stp1 hh cw t S := by
        unfold stp1
        rw [if_neg (fun q => by rw [hS] at q; exact absurd q.1 (by decide))]
      rw [← key S e1]
      exact ih (t + 1) (by omega) (by omega) S v u hv hu
    · have hS : S t = true := by
        cases q : S t with
        | true => rfl
        | false => exact absurd ((hv.bt h3).mpr q) hs
      rw [if_neg hs]
      by_cases hc : (cw t &&& u) &&& (hh t ^^^ (-1)) = 0
      · rw [if_pos hc, e_lt, e_lt]
        unfold m_X6_findStuck_j115
        rw [e_lt, n1]
        have e1 : dl S t = stp1 hh cw t S := by
          unfold stp1
          rw [if_pos ⟨hS, (hu.can hd h3).mp hc⟩]
        rw [← key (dl S t) e1]
        exact ih (t + 1) (by omega) (by omega) (dl S t) _ _ (hv.dr h3) (hu.dr hd h3)
      · rw [if_neg hc]
        unfold m_X6_findStuck_j115
        rw [e_lt, n1]
        have e1 : S = stp1 hh cw t S := by
          unfold stp1
          rw [if_neg (fun q => hc ((hu.can hd h3).mpr q.2))]
        rw [← key S e1]
        exact ih (t + 1) (by omega) (by omega) S v u hv hu
theorem fs_out {x : Mem} {hh cw : Nat → Int32} (hJ : JX x hh cw) (hd : DJ hh) : ∀ (m t : Nat), t ≤ 3 → 3 < t + m → ∀ (S : Nat → Bool) (v u : Int32), StP v S → HeP u hh S → ∃ v', m_X6_findStuck_l35 m v u (Int32.ofNat t) x = some v' ∧ StP v' (itp hh cw (3 - t) S) := by
  intro m
  induction m with
  | zero => intro t h1 h2; omega
  | succ m ih =>
    intro t h1 h2 S v u hv hu
    show ∃ v', m_X6_findStuck_b35 (m_X6_findStuck_l35 m) v u (Int32.ofNat t) x = _ ∧ _
    unfold m_X6_findStuck_b35
    by_cases ht : t = 3
    · subst ht
      rw [if_pos (by decide)]
      exact ⟨v, rfl, hv⟩
    have h3 : t < 3 := by omega
    rw [if_neg (le3 h3), e_lt]
    obtain ⟨v', u', e, hv', hu'⟩ := fs_in hJ hd (m_X6_findStuck_l35 m) (r := Int32.ofNat t) FU 0 (Nat.zero_le _) (by unfold FU; omega) S v u hv hu
    rw [← z0] at e
    rw [e]
    unfold m_X6_findStuck_j121
    rw [e_lt, n1, show 3 - t = (3 - (t + 1)) + 1 by omega]
    exact ih (t + 1) (by omega) (by omega) (pas hh cw S) v' u' hv' hu'
theorem fs_un {x : Mem} {hh cw : Nat → Int32} (hJ : JX x hh cw) {S : Nat → Bool} {v : Int32} (h0 : ∀ a, a < 3 → S a = false → hh a = 0) : ∀ (m t : Nat) (u : Int32), t ≤ 3 → 3 < t + m → (∀ w, w < 32 → (tb u w = true ↔ ∃ b, b < t ∧ S b = true ∧ tb (hh b) w = true)) → ∃ u', m_X6_findStuck_l9 m v u (Int32.ofNat t) x = m_X6_findStuck_l35 FU v u' (Int32.ofNat 0) x ∧ HeP u' hh S := by
  intro m
  induction m with
  | zero => intro t u h1 h2; omega
  | succ m ih =>
    intro t u h1 h2 hu
    show ∃ u', m_X6_findStuck_b9 (m_X6_findStuck_l9 m) v u (Int32.ofNat t) x = m_X6_findStuck_l35 FU v u' (Int32.ofNat 0) x ∧ _
    unfold m_X6_findStuck_b9
    by_cases ht : t = 3
    · subst ht
      rw [if_pos (by decide), e_lt, z0]
      exact ⟨u, rfl, hu⟩
    have h3 : t < 3 := by omega
    rw [if_neg (le3 h3), gd_n h3 (by decide), e_lt, e_lt, n1, tn (show t < 2 ^ 31 by omega), hJ.1 t h3]
    refine ih (t + 1) _ (by omega) (by omega) (fun w hw => ?_)
    rw [tb_or, Bool.or_eq_true, hu w hw]
    constructor
    · rintro (⟨b, q1, q2⟩ | q)
      · exact ⟨b, by omega, q2⟩
      · refine ⟨t, by omega, ?_, q⟩
        cases hs : S t with
        | true => rfl
        | false =>
          rw [h0 t h3 hs, tb_0] at q
          exact absurd q (by decide)
    · rintro ⟨b, q1, q2, q3⟩
      by_cases e : b = t
      · subst e
        exact Or.inr q3
      · exact Or.inl ⟨b, by omega, q2, q3⟩
theorem fs_x {x : Mem} {hh cw : Nat → Int32} {S : Nat → Bool} (hJ : JX x hh cw) (hd : DJ hh) (h0 : ∀ a, a < 3 → S a = false → hh a = 0) (hS : StP (x 19 0 0 1) S) : ∃ v, m_X6_findStuck x = some v ∧ StP v (itp hh cw 3 S) := by
  unfold m_X6_findStuck
  rw [e_lt, e_lt, e_lt]
  obtain ⟨u', e, hu⟩ := fs_un (v := x 19 0 0 1) hJ h0 FU 0 0 (Nat.zero_le _) (by unfold FU; omega) (fun w hw => ⟨fun q => by rw [tb_0] at q; exact absurd q (by decide), fun ⟨b, q, _⟩ => by omega⟩)
  rw [← z0] at e
  rw [e]
  exact fs_out hJ hd FU 0 (Nat.zero_le _) (by unfold FU; omega) S _ u' hS hu
