/-! THE SIMULATION. The state of the reference (kinds 101 .. 132, slots 33 .. 40 of kind 40) is a St; a cell c of the class represents it (Rep); what holds of every state that is reached: Inv. -/
abbrev St : Type := Nat → Nat → Int32
def V (y : Mem) : St := fun k s => y k 0 0 s
def dgt (p n i : Nat) : Nat := p / 10 ^ (n - 1 - i) % 10 - 1
def bit (z : Nat) : Int32 := shl32 1 (Int32.ofNat z)
def znA (A : St) (j i : Nat) : Nat := dgt (A 123 j).toNatClampNeg (A 124 j).toNatClampNeg i
def ajob (A : St) (a : Nat) : Nat := (A 113 a).toNatClampNeg
def apos (A : St) (a : Nat) : Nat := (A 115 a).toNatClampNeg
def hold (A : St) (a : Nat) : Int32 := if A 114 a = 0 then 0 else if A 114 a = 2 then bit (znA A (ajob A a) (apos A a)) ||| bit (znA A (ajob A a) (apos A a + 1)) else bit (znA A (ajob A a) (apos A a))
def PathOk (p n : Nat) : Prop := 1 ≤ n ∧ n ≤ 5 ∧ p < 10 ^ n ∧ ∀ i, i < n → 1 ≤ p / 10 ^ i % 10 ∧ p / 10 ^ i % 10 ≤ 8
def BufOk (v : Int32) : Prop := v = -1 ∨ ∃ b : Nat, b < 3 ∧ v = Int32.ofNat b
def JobOk (A : St) (j : Nat) : Prop := (∃ p n : Nat, A 123 j = Int32.ofNat p ∧ A 124 j = Int32.ofNat n ∧ PathOk p n) ∧ (∃ w : Nat, 1 ≤ w ∧ w ≤ 9 ∧ A 125 j = Int32.ofNat w) ∧ (∃ w : Nat, w ≤ 9 ∧ A 126 j = Int32.ofNat w) ∧ BufOk (A 127 j) ∧ BufOk (A 128 j)
def ActOk (A : St) (J a : Nat) : Prop := ∃ j q n : Nat, j < J ∧ A 113 a = Int32.ofNat j ∧ A 115 a = Int32.ofNat q ∧ A 124 j = Int32.ofNat n ∧ n ≤ 5 ∧ q < n ∧ ((A 114 a = 1 ∧ ∃ t : Nat, 1 ≤ t ∧ t ≤ 9 ∧ A 116 a = Int32.ofNat t) ∨ (A 114 a = 2 ∧ q + 1 < n ∧ ∃ t : Nat, 1 ≤ t ∧ t ≤ 9 ∧ A 116 a = Int32.ofNat t) ∨ (A 114 a = 3 ∧ q + 1 < n ∧ A 116 a = 0))
def ArmOk (A : St) (J a : Nat) : Prop := ((A 114 a = 0 ∧ A 113 a = -1 ∧ A 115 a = 0 ∧ A 116 a = 0) ∨ ActOk A J a) ∧ ∃ r : Nat, A 111 a = Int32.ofNat r ∧ r ≤ J ∧ ∀ k, k < r → ∃ j : Nat, j < J ∧ A 112 (30 * a + k) = Int32.ofNat j
def one (p : Prop) [Decidable p] : Nat := if p then 1 else 0
def cntB (A : St) (f b : Nat) : Nat := one (A 114 0 ≠ 0 ∧ A f (ajob A 0) = Int32.ofNat b) + one (A 114 1 ≠ 0 ∧ A f (ajob A 1) = Int32.ofNat b) + one (A 114 2 ≠ 0 ∧ A f (ajob A 2) = Int32.ofNat b)
def StoreOk (A : St) (b : Nat) : Prop := ∃ cap n pp pr : Nat, A 103 b = Int32.ofNat cap ∧ A 104 b = Int32.ofNat n ∧ A 106 b = Int32.ofNat pp ∧ A 107 b = Int32.ofNat pr ∧ cap ≤ 4 ∧ n + pp ≤ cap ∧ pr ≤ n ∧ pp = cntB A 128 b ∧ pr = cntB A 127 b ∧ ∀ k, k < n → ∃ m : Nat, m < 2 ^ 31 ∧ A 105 (4 * b + k) = Int32.ofNat m
def ZonesOk (A : St) : Prop := (∀ z, z < 8 → A 101 z &&& bit z = 0 ∧ ∃ m : Nat, m < 256 ∧ A 101 z = Int32.ofNat m) ∧ ∀ z w, z < 8 → w < 8 → (A 101 z &&& bit w = 0 ↔ A 101 w &&& bit z = 0)
def Disj (A : St) : Prop := ∀ a b, a < 3 → b < 3 → a ≠ b → hold A a &&& hold A b = 0
def Inv (A : St) : Prop := ∃ J : Nat, J ≤ 30 ∧ A 40 34 = Int32.ofNat J ∧ (∀ j, j < J → JobOk A j) ∧ (∀ a, a < 3 → ArmOk A J a) ∧ (∀ b, b < 3 → StoreOk A b) ∧ ZonesOk A ∧ Disj A
/-- the interlocks that there are -/
def sumT : Nat → (Nat → Int32) → Int32
  | 0, _ => 0
  | n + 1, f => sumT n f + f n
theorem sumT_congr {f g : Nat → Int32} : ∀ n, (∀ k, k < n → f k = g k) → sumT n f = sumT n g
  | 0, _ => rfl
  | n + 1, h => by
    show sumT n f + f n = sumT n g + g n
    rw [sumT_congr n (fun k hk => h k (by omega)), h n (by omega)]
def icnt (A : St) : Int32 := sumT 8 fun z => sumT z fun k => sar32 (A 101 z) (Int32.ofNat k) &&& 1
def RArm (x : Mem) (c : Nat) (A : St) (a : Nat) : Prop := x 0 c a 1 = A 110 a ∧ x 0 c a 2 = A 114 a ∧ x 0 c a 3 = A 113 a ∧ x 0 c a 4 = A 115 a ∧ x 0 c a 5 = A 116 a ∧ x 0 c a 6 = hold A a ∧ x 0 c a 7 = A 117 a ∧ x 0 c a 8 = A 118 a ∧ x 0 c a 9 = A 119 a ∧ x 0 c a 10 = A 120 a ∧ x 0 c a 11 = A 121 a ∧ x 0 c a 12 = A 111 a ∧ ∀ k, k < (A 111 a).toNatClampNeg → x 1 c a k = A 112 (30 * a + k)
def RSto (x : Mem) (c : Nat) (A : St) (b : Nat) : Prop := x 9 c b 0 = A 103 b ∧ x 9 c b 1 = A 104 b ∧ x 9 c b 2 = A 106 b ∧ x 9 c b 3 = A 107 b ∧ x 9 c b 4 = A 108 b ∧ x 9 c b 5 = A 109 b ∧ ∀ k, k < (A 104 b).toNatClampNeg → x 10 c b k = A 105 (4 * b + k)
def RJob (x : Mem) (c : Nat) (A : St) (j : Nat) : Prop := x 12 c j 0 = A 122 j ∧ x 12 c j 1 = A 123 j ∧ x 12 c j 2 = A 124 j ∧ x 12 c j 3 = A 125 j ∧ x 12 c j 4 = A 126 j ∧ x 12 c j 5 = A 127 j ∧ x 12 c j 6 = A 128 j ∧ x 12 c j 7 = A 129 j ∧ x 12 c j 8 = A 130 j ∧ x 12 c j 9 = A 131 j
def RSca (x : Mem) (c : Nat) (A : St) : Prop := x 2 c 0 0 = A 40 33 ∧ x 2 c 0 1 = A 40 34 ∧ x 2 c 0 2 = A 40 37 ∧ x 2 c 0 3 = A 40 38 ∧ x 2 c 0 4 = A 40 35 ∧ x 2 c 0 5 = A 40 36 ∧ x 2 c 0 6 = A 40 39
def RZon (x : Mem) (c : Nat) (A : St) : Prop := x 3 c 0 0 = icnt A ∧ ∀ z, z < 8 → x 4 c 0 z = A 101 z ||| bit z ∧ x 5 c 0 z = A 102 z
def RLog (x : Mem) (c : Nat) (A : St) (N : Nat) : Prop := (∃ P : Nat, P ≤ N ∧ A 40 35 = Int32.ofNat P) ∧ ∃ M : Nat, M ≤ N ∧ x 6 c 0 0 = Int32.ofNat M ∧ A 40 40 = Int32.ofNat (min M 24) ∧ ∀ i w, i < min M 24 → w < 4 → A 132 (4 * i + w) = x 7 c 0 (4 * ((M - min M 24 + i) % 24) + w)
def Rep (x : Mem) (c : Nat) (A : St) (N : Nat) : Prop := RSca x c A ∧ RZon x c A ∧ RLog x c A N ∧ (∀ a, a < 3 → RArm x c A a) ∧ (∀ b, b < 3 → RSto x c A b) ∧ ∀ j, j < (A 40 34).toNatClampNeg → RJob x c A j
def Con (x : Mem) : Prop := ∀ c, c < 10 → x 12 c 30 2 = 0 ∧ ∀ a, a < 3 → x 0 c a 0 = Int32.ofNat a
/-- where the state's parts stand in a copy -/
def offS (k : Nat) : Nat := if k = 40 then 532 else if k = 101 then 0 else if k = 102 then 8 else if k = 105 then 22 else if k ≤ 104 then 16 + 3 * (k - 103) else if k ≤ 109 then 34 + 3 * (k - 106) else if k = 110 then 46 else if k = 111 then 49 else if k = 112 then 52 else if k ≤ 121 then 142 + 3 * (k - 113) else if k ≤ 131 then 169 + 30 * (k - 122) else 469
def Sl (y : Mem) (K w : Nat) : St := fun k s => y K 0 0 (w + offS k + s)
def SAT : Nat := 9000
def Rel (i : Nat) (x y : Mem) : Prop := Con x ∧ (Rep x 0 (V y) (SAT * i) ∧ Inv (V y)) ∧
  (∃ ch f : Nat, ch ≤ 6 ∧ f < 6 ∧ x 15 0 0 0 = Int32.ofNat ch ∧ y 40 0 0 59 = Int32.ofNat ch ∧ x 15 0 0 1 = Int32.ofNat f ∧ ∀ j, j < ch → Rep x (4 + (f + j) % 6) (Sl y 155 (573 * j)) (SAT * i) ∧ Inv (Sl y 155 (573 * j))) ∧
  (x 14 0 0 3 = y 40 0 0 61 ∧ ((y 40 0 0 61 = 0) ∨ (y 40 0 0 61 = 1 ∧ Rep x 2 (Sl y 156 0) (SAT * i) ∧ Inv (Sl y 156 0)))) ∧
  ∃ n : Nat, n ≤ 80 ∧ x 22 0 0 2 = Int32.ofNat n ∧ y 40 0 0 51 = Int32.ofNat n ∧ ∀ k, k < n → x 23 0 0 k = y 148 0 0 k
/-! evaluation -/
theorem e_lt {α β : Type} (a : α) (k : α → β) : lt_ a k = k a := rfl
theorem e_bd {α β : Type} (a : α) (k : α → Option β) : bd_ (some a) k = k a := rfl
theorem e_bd2 {α β : Type} (a : α) (z : Mem) (k : α → Mem → Option β) : bd2_ (some (a, z)) k = k a z := rfl
theorem e_bx0 (v : Int32) (z : Mem) (k : Int32 → Mem → Option (Nat × Int32 × Mem)) : bx_ (some (0, v, z)) k = k v z := rfl
theorem e_bx1 (v : Int32) (z : Mem) (n : Nat) (k : Int32 → Mem → Option (Nat × Int32 × Mem)) : bx_ (some (n + 1, v, z)) k = some (n + 1, 0, z) := rfl
theorem e_gb0 {β : Type} (a : Option β) : gb_ 0 a = a := rfl
theorem e_gb1 {β : Type} (a : Option β) : gb_ 1 a = a := rfl
theorem tn {k : Nat} (h : k < 2 ^ 31) : (Int32.ofNat k).toNatClampNeg = k := Int32.toNatClampNeg_ofNat_of_lt h
theorem le_n {a b : Nat} (ha : a < 2 ^ 31) (hb : b < 2 ^ 31) : Int32.ofNat a ≤ Int32.ofNat b ↔ a ≤ b := Int32.ofNat_le_ofNat ha hb
theorem lt_n {a b : Nat} (ha : a < 2 ^ 31) (hb : b < 2 ^ 31) : Int32.ofNat a < Int32.ofNat b ↔ a < b := Int32.ofNat_lt_ofNat ha hb
theorem eq_n {a b : Nat} (ha : a < 2 ^ 31) (hb : b < 2 ^ 31) : Int32.ofNat a = Int32.ofNat b ↔ a = b := ⟨fun h => by rw [← tn ha, h, tn hb], fun h => by rw [h]⟩
theorem ge0 {a : Nat} (ha : a < 2 ^ 31) : ¬ Int32.ofNat a < 0 := by
  rw [show (0 : Int32) = Int32.ofNat 0 from rfl, lt_n ha (by decide)]
  omega
theorem gd_n {β : Type} {k n : Nat} {a : Option β} (h : k < n) (hn : n < 2 ^ 31) : gd_ (Int32.ofNat k) n a = a := by
  have h1 : inR (Int32.ofNat k) n = true := by
    unfold inR
    rw [tn (by omega)]
    simp [h, ge0 (show k < 2 ^ 31 by omega)]
  unfold gd_
  rw [h1]
theorem ex_n {v : Int32} {n : Nat} (h1 : ¬ v < 0) (h2 : ¬ Int32.ofNat n < v) (hn : n < 2 ^ 31) : ∃ k : Nat, k ≤ n ∧ v = Int32.ofNat k := by
  have e : Int32.ofNat v.toNatClampNeg = v := Int32.ofNat_toNatClampNeg v (Int32.not_lt.mp h1)
  refine ⟨v.toNatClampNeg, ?_, e.symm⟩
  have h3 : v ≤ Int32.ofNat n := Int32.not_lt.mp h2
  rw [← e, le_n (Int32.toNatClampNeg_lt v) hn] at h3
  exact h3
theorem in3 {v : Int32} (h1 : ¬ v < 0) (h2 : ¬ (2 : Int32) < v) : v = 0 ∨ v = 1 ∨ v = 2 := by
  obtain ⟨k, hk, rfl⟩ := ex_n (n := 2) h1 h2 (by decide)
  match k, hk with
  | 0, _ => exact Or.inl rfl
  | 1, _ => exact Or.inr (Or.inl rfl)
  | 2, _ => exact Or.inr (Or.inr rfl)
  | k + 3, hk => omega
theorem iw_out {v lo hi : Int32} (h : v < lo ∨ hi < v) : m_X11_isWithin v lo hi = some 0 := by
  unfold m_X11_isWithin
  by_cases h1 : v < lo
  · rw [if_pos h1]
  · rw [if_neg h1, if_pos (h.resolve_left h1)]
theorem iw_in {v lo hi : Int32} (h : ¬ (v < lo ∨ hi < v)) : m_X11_isWithin v lo hi = some 1 := by
  unfold m_X11_isWithin
  rw [if_neg (fun q => h (Or.inl q)), if_neg (fun q => h (Or.inr q))]
theorem ib_out {v lo hi : Int32} (h : v < lo ∨ hi < v) : m_X12_isBetween v lo hi = some 0 := iw_out h
theorem ib_in {v lo hi : Int32} (h : ¬ (v < lo ∨ hi < v)) : m_X12_isBetween v lo hi = some 1 := iw_in h
/-! what is read of a state -/
def szS (k : Nat) : Nat := if k ≤ 102 then 8 else if k = 105 then 12 else if k = 112 then 90 else if k ≤ 121 then 3 else if k ≤ 131 then 30 else 96
def mn (k s : Nat) : Prop := (k = 40 ∧ 33 ≤ s ∧ s ≤ 40) ∨ (101 ≤ k ∧ k ≤ 132 ∧ s < szS k)
def Agr (A B : St) : Prop := ∀ k s, mn k s → A k s = B k s
theorem mn3 {k a : Nat} (h1 : k = 103 ∨ k = 104 ∨ (106 ≤ k ∧ k ≤ 111) ∨ (113 ≤ k ∧ k ≤ 121)) (ha : a < 3) : mn k a := by
  refine Or.inr ⟨by omega, by omega, ?_⟩
  have : szS k = 3 := by
    unfold szS
    rw [if_neg (by omega), if_neg (by omega), if_neg (by omega), if_pos (by omega)]
  omega
theorem mn30 {k j : Nat} (h1 : 122 ≤ k) (h2 : k ≤ 131) (hj : j < 30) : mn k j := by
  refine Or.inr ⟨by omega, by omega, ?_⟩
  have : szS k = 30 := by
    unfold szS
    rw [if_neg (by omega), if_neg (by omega), if_neg (by omega), if_neg (by omega), if_pos (by omega)]
  omega
theorem mn8 {k z : Nat} (h1 : k = 101 ∨ k = 102) (hz : z < 8) : mn k z := by
  refine Or.inr ⟨by omega, by omega, ?_⟩
  have : szS k = 8 := by
    unfold szS
    rw [if_pos (by omega)]
  omega
theorem mnR {s : Nat} (h : s < 90) : mn 112 s := Or.inr ⟨by decide, by decide, h⟩
theorem mnP {s : Nat} (h : s < 12) : mn 105 s := Or.inr ⟨by decide, by decide, h⟩
theorem mnL {s : Nat} (h : s < 96) : mn 132 s := Or.inr ⟨by decide, by decide, h⟩
theorem mnS {s : Nat} (h1 : 33 ≤ s) (h2 : s ≤ 40) : mn 40 s := Or.inl ⟨rfl, h1, h2⟩
theorem Agr.symm {A B : St} (h : Agr A B) : Agr B A := fun k s q => (h k s q).symm
theorem ArmOk.job {A : St} {J a : Nat} (hJ : J ≤ 30) (h : ArmOk A J a) : ajob A a < 30 := by
  unfold ajob
  rcases h.1 with ⟨-, h2, -⟩ | ⟨j, q, n, h1, h2, -⟩
  · rw [h2]
    decide
  · rw [h2, tn (by omega)]
    omega
theorem Inv.job {A : St} (h : Inv A) {a : Nat} (ha : a < 3) : ajob A a < 30 := by
  obtain ⟨J, hJ, -, -, h4, -⟩ := h
  exact (h4 a ha).job hJ
/-- what Inv reads -/
def RdK (k s : Nat) : Prop := (k = 40 ∧ s = 34) ∨ k = 101 ∨ (103 ≤ k ∧ k ≤ 107) ∨ (111 ≤ k ∧ k ≤ 116) ∨ (123 ≤ k ∧ k ≤ 128)
def Agq (A B : St) : Prop := ∀ k s, mn k s → RdK k s → A k s = B k s
theorem Agr.q {A B : St} (h : Agr A B) : Agq A B := fun k s q _ => h k s q
theorem rdk {k s : Nat} (h : k = 101 ∨ (103 ≤ k ∧ k ≤ 107) ∨ (111 ≤ k ∧ k ≤ 116) ∨ (123 ≤ k ∧ k ≤ 128)) : RdK k s := Or.inr h
theorem hold_cq {A B : St} (h : Agq A B) {a : Nat} (ha : a < 3) (hj : ajob A a < 30) : hold A a = hold B a := by
  have e1 : ajob B a = ajob A a := by unfold ajob; rw [h 113 a (mn3 (by decide) ha) (rdk (by decide))]
  have e2 : apos B a = apos A a := by unfold apos; rw [h 115 a (mn3 (by decide) ha) (rdk (by decide))]
  unfold hold znA
  rw [e1, e2, h 114 a (mn3 (by decide) ha) (rdk (by decide)), h 123 _ (mn30 (by decide) (by decide) hj) (rdk (by decide)), h 124 _ (mn30 (by decide) (by decide) hj) (rdk (by decide))]
theorem hold_congr {A B : St} (h : Agr A B) {a : Nat} (ha : a < 3) (hj : ajob A a < 30) : hold A a = hold B a := hold_cq h.q ha hj
theorem cntB_congr {A B : St} (h : Agq A B) {f b : Nat} (hf : f = 127 ∨ f = 128) (hj : ∀ a, a < 3 → ajob A a < 30) : cntB A f b = cntB B f b := by
  have e1 : ∀ a, a < 3 → ajob B a = ajob A a := fun a ha => by unfold ajob; rw [h 113 a (mn3 (by decide) ha) (rdk (by decide))]
  have e2 : ∀ a, a < 3 → A f (ajob A a) = B f (ajob A a) := fun a ha => h f _ (mn30 (by omega) (by omega) (hj a ha)) (rdk (by omega))
  unfold cntB
  rw [e1 0 (by decide), e1 1 (by decide), e1 2 (by decide), e2 0 (by decide), e2 1 (by decide), e2 2 (by decide), h 114 0 (mn3 (by decide) (by decide)) (rdk (by decide)), h 114 1 (mn3 (by decide) (by decide)) (rdk (by decide)), h 114 2 (mn3 (by decide) (by decide)) (rdk (by decide))]
theorem Inv.cg {A B : St} (h : Agq A B) (hI : Inv A) : Inv B := by
  have hjb : ∀ a, a < 3 → ajob A a < 30 := fun a ha => hI.job ha
  have h3 : ∀ k a, (k = 103 ∨ k = 104 ∨ k = 106 ∨ k = 107 ∨ k = 111 ∨ (113 ≤ k ∧ k ≤ 116)) → a < 3 → B k a = A k a := fun k a q r => (h k a (mn3 (by omega) r) (rdk (by omega))).symm
  have h30 : ∀ k j, 123 ≤ k → k ≤ 128 → j < 30 → B k j = A k j := fun k j q r t => (h k j (mn30 (by omega) (by omega) t) (rdk (by omega))).symm
  have h8 : ∀ z, z < 8 → B 101 z = A 101 z := fun z q => (h 101 z (mn8 (by decide) q) (rdk (by decide))).symm
  obtain ⟨J, hJ, e1, hj, ha, hb, hz, hd⟩ := hI
  refine ⟨J, hJ, by rw [← h 40 34 (mnS (by decide) (by decide)) (Or.inl ⟨rfl, rfl⟩)]; exact e1, fun j q => ?_, fun a q => ?_, fun b q => ?_, ⟨fun z q => ?_, fun z w q r => ?_⟩, fun a b q r t => ?_⟩
  · have g := hj j q
    have hq : j < 30 := by omega
    unfold JobOk at g ⊢
    rw [h30 123 j (by decide) (by decide) hq, h30 124 j (by decide) (by decide) hq, h30 125 j (by decide) (by decide) hq, h30 126 j (by decide) (by decide) hq, h30 127 j (by decide) (by decide) hq, h30 128 j (by decide) (by decide) hq]
    exact g
  · obtain ⟨g, r, g2, g3, g4⟩ := ha a q
    refine ⟨?_, r, by rw [h3 111 a (by decide) q]; exact g2, g3, fun k hk => ?_⟩
    · rw [h3 113 a (by decide) q, h3 114 a (by decide) q, h3 115 a (by decide) q, h3 116 a (by decide) q]
      refine g.imp id fun ⟨j, p, n, w1, w2, w3, w4, w5⟩ => ⟨j, p, n, w1, ?_, ?_, ?_, ?_⟩
      · rw [h3 113 a (by decide) q]; exact w2
      · rw [h3 115 a (by decide) q]; exact w3
      · rw [h30 124 j (by decide) (by decide) (by omega)]; exact w4
      · rw [h3 114 a (by decide) q, h3 116 a (by decide) q]; exact w5
    · rw [← h 112 _ (mnR (by omega)) (rdk (by decide))]
      exact g4 k hk
  · obtain ⟨cap, n, pp, pr, g1, g2, g3, g4, g5, g6, g7, g8, g9, g10⟩ := hb b q
    refine ⟨cap, n, pp, pr, ?_, ?_, ?_, ?_, g5, g6, g7, ?_, ?_, fun k hk => ?_⟩
    · rw [h3 103 b (by decide) q]; exact g1
    · rw [h3 104 b (by decide) q]; exact g2
    · rw [h3 106 b (by decide) q]; exact g3
    · rw [h3 107 b (by decide) q]; exact g4
    · rw [← cntB_congr h (Or.inr rfl) hjb]; exact g8
    · rw [← cntB_congr h (Or.inl rfl) hjb]; exact g9
    · rw [← h 105 _ (mnP (by omega)) (rdk (by decide))]
      exact g10 k hk
  · rw [h8 z q]
    exact hz.1 z q
  · rw [h8 z q, h8 w r]
    exact hz.2 z w q r
  · rw [← hold_cq h q (hjb a q), ← hold_cq h r (hjb b r)]
    exact hd a b q r t
theorem Inv.congr {A B : St} (h : Agr A B) (hI : Inv A) : Inv B := hI.cg h.q
