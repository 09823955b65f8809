/-! ADDRESSES at the heap's size B, and what the constructors leave there -/
def cellB (B c : Nat) : Nat := if c = 0 then B + 1 else if c = 1 then B + 57 else if c = 2 then B + 113 else if c = 3 then B + 169 + 1 else B + 169 + (58 + 56 * (c - 4))
def refA (k : Nat) : Nat := if k ≤ 132 then k - 100 else if k ≤ 143 then k - 108 else if k ≤ 150 then k - 111 else k - 115
def addr (B k c i : Nat) : Nat :=
  if k = 0 then cellB B c + (if i = 3 then 6 else 12 + 2 * i) else
  if k = 1 then cellB B c + (if i = 3 then 6 else 12 + 2 * i) + 1 else
  if k = 2 then cellB B c else
  if k = 3 then cellB B c + 1 else
  if k = 4 then cellB B c + 1 + 1 else
  if k = 5 then cellB B c + 1 + 2 else
  if k = 6 then cellB B c + 4 else
  if k = 7 then cellB B c + 4 + 1 else
  if k = 8 then cellB B c + 11 else
  if k = 9 then cellB B c + (if i = 3 then 8 else 19 + 2 * i) else
  if k = 10 then cellB B c + (if i = 3 then 8 else 19 + 2 * i) + 1 else
  if k = 11 then cellB B c + 18 else
  if k = 12 then cellB B c + (if i = 30 then 10 else 26 + i) else
  if k = 13 then cellB B c + 25 else
  if k = 14 then B else
  if k = 15 then B + 169 else
  if k = 16 then B + 169 + 57 else
  if k = 17 then B + 563 else
  if k = 18 then B + 563 + 4 else
  if k = 19 then B + 563 + 1 else
  if k = 20 then B + 563 + 1 + 1 else
  if k = 21 then B + 563 + 1 + 2 else
  if k = 22 then B + 568 else
  if k = 23 then B + 568 + 1 else
  if k = 24 then B + 568 + 3 else
  if k = 25 then B + 568 + (if i = 27 then 2 else 4 + i) else
  if k = 40 then B + 599 else B + 599 + refA k
theorem cellB_off (B c : Nat) : cellB B c = B + cellB 0 c := by
  unfold cellB
  repeat' split
  all_goals omega
theorem ite_off {p : Prop} [Decidable p] {a b a' b' B : Nat} (h1 : a = B + a') (h2 : b = B + b') : (if p then a else b) = B + (if p then a' else b') := by
  split
  · exact h1
  · exact h2
theorem addr_off (B k c i : Nat) : addr B k c i = B + addr 0 k c i := by
  unfold addr
  rw [cellB_off B c]
  generalize cellB 0 c = cb
  generalize (if i = 3 then 6 else 12 + 2 * i) = e1
  generalize (if i = 3 then 8 else 19 + 2 * i) = e2
  generalize (if i = 30 then 10 else 26 + i) = e3
  generalize (if i = 27 then 2 else 4 + i) = e4
  repeat' refine ite_off ?_ ?_
  all_goals omega
def decC (r c : Nat) : Nat × Nat × Nat :=
  if r = 0 then (2, c, 0) else if r = 1 then (3, c, 0) else if r = 2 then (4, c, 0) else if r = 3 then (5, c, 0) else if r = 4 then (6, c, 0) else if r = 5 then (7, c, 0) else if r = 6 then (0, c, 3) else if r = 7 then (1, c, 3) else if r = 8 then (9, c, 3) else if r = 9 then (10, c, 3) else if r = 10 then (12, c, 30) else if r = 11 then (8, c, 0) else
  if r < 18 then ((r - 12) % 2, c, (r - 12) / 2) else if r = 18 then (11, c, 0) else if r < 25 then (9 + (r - 19) % 2, c, (r - 19) / 2) else if r = 25 then (13, c, 0) else (12, c, r - 26)
def decA (o : Nat) : Nat × Nat × Nat :=
  if o = 0 then (14, 0, 0) else if o < 169 then decC ((o - 1) % 56) ((o - 1) / 56) else if o = 169 then (15, 0, 0) else if o < 226 then decC (o - 170) 3 else if o = 226 then (16, 0, 0) else if o < 563 then decC ((o - 227) % 56) (4 + (o - 227) / 56) else
  if o = 563 then (17, 0, 0) else if o = 564 then (19, 0, 0) else if o = 565 then (20, 0, 0) else if o = 566 then (21, 0, 0) else if o = 567 then (18, 0, 0) else if o = 568 then (22, 0, 0) else if o = 569 then (23, 0, 0) else if o = 570 then (25, 0, 27) else if o = 571 then (24, 0, 0) else if o < 599 then (25, 0, o - 572) else if o = 599 then (40, 0, 0) else
  if o ≤ 631 then (o - 499, 0, 0) else if o ≤ 634 then (o - 491, 0, 0) else if o ≤ 638 then (o - 488, 0, 0) else (o - 484, 0, 0)
set_option maxRecDepth 100000 in
theorem decA_ok : ∀ t ∈ ids, decA (addr 0 t.1 t.2.1 t.2.2) = t ∧ addr 0 t.1 t.2.1 t.2.2 < 643 := by decide +kernel
set_option maxRecDepth 100000 in
def ixD (k : Nat) : Nat × Nat := if k = 0 then (0, 4) else if k = 1 then (40, 4) else if k = 2 then (80, 1) else if k = 3 then (90, 1) else if k = 4 then (100, 1) else if k = 5 then (110, 1) else if k = 6 then (120, 1) else if k = 7 then (130, 1) else if k = 8 then (140, 1) else if k = 9 then (150, 4) else if k = 10 then (190, 4) else if k = 11 then (230, 1) else if k = 12 then (240, 31) else if k = 13 then (550, 1) else if k = 14 then (560, 1) else if k = 15 then (561, 1) else if k = 16 then (562, 1) else if k = 17 then (563, 1) else if k = 18 then (564, 1) else if k = 19 then (565, 1) else if k = 20 then (566, 1) else if k = 21 then (567, 1) else if k = 22 then (568, 1) else if k = 23 then (569, 1) else if k = 24 then (570, 1) else if k = 25 then (571, 28) else if k = 40 then (599, 1) else if k ≤ 132 then (600 + (k - 101), 1) else if k ≤ 143 then (632 + (k - 141), 1) else if k ≤ 150 then (635 + (k - 147), 1) else (639 + (k - 155), 1)
def ixT (t : Nat × Nat × Nat) : Nat := (ixD t.1).1 + t.2.1 * (ixD t.1).2 + t.2.2
def ixC : List (Nat × Nat × Nat) → Nat → Bool
  | [], _ => true
  | t :: r, n => (ixT t == n) && ixC r (n + 1)
theorem ixC_ok : ∀ (l : List (Nat × Nat × Nat)) (n i : Nat) (t : Nat × Nat × Nat), ixC l n = true → l[i]? = some t → ixT t = n + i
  | [], n, i, t, _, h2 => by simp at h2
  | u :: r, n, 0, t, h1, h2 => by
    simp only [ixC, Bool.and_eq_true, beq_iff_eq] at h1
    cases h2
    exact h1.1
  | u :: r, n, i + 1, t, h1, h2 => by
    simp only [ixC, Bool.and_eq_true] at h1
    have h3 := ixC_ok r (n + 1) i t h1.2 (by simpa using h2)
    omega
set_option maxRecDepth 100000 in
theorem ids_ix : ixC ids 0 = true := by decide +kernel
def sg0 : Mem := fun k _ i =>
  if k = 0 then (fun s => if s = 0 then (if i = 0 then (0 : Int32) else if i = 1 then (1 : Int32) else if i = 2 then (2 : Int32) else (-1 : Int32)) else if s = 1 then (255 : Int32) else if s = 3 then (-1 : Int32) else 0) else
  if k = 4 then upd (upd (upd (upd (upd (upd (upd (upd (fun _ => (0 : Int32)) 0 (1 : Int32)) 1 (2 : Int32)) 2 (4 : Int32)) 3 (8 : Int32)) 4 (16 : Int32)) 5 (32 : Int32)) 6 (64 : Int32)) 7 (128 : Int32) else
  if k = 9 then (fun s => if s = 0 then (2 : Int32) else 0) else
  if k = 12 then (fun s => if s = 5 then (-1 : Int32) else if s = 6 then (-1 : Int32) else if s = 8 then (-1 : Int32) else if s = 9 then (-1 : Int32) else 0) else fun _ => 0
def rg0 : Mem := fun k _ _ => if k = 103 then upd (upd (upd (fun _ => (0 : Int32)) 0 (2 : Int32)) 1 (2 : Int32)) 2 (2 : Int32) else if k = 110 then upd (upd (upd (fun _ => (0 : Int32)) 0 (255 : Int32)) 1 (255 : Int32)) 2 (255 : Int32) else if k = 113 then upd (upd (upd (fun _ => (0 : Int32)) 0 (-1 : Int32)) 1 (-1 : Int32)) 2 (-1 : Int32) else fun _ => 0
abbrev mkG (D : va_G) (gt : Nat → ClassId) (B : Nat) : Geo := (D, gt, addr B, fun q => B ≤ q ∧ q ≠ B + 643 ∧ q ≠ B + 644)
def fX (D : va_G) (gt : Nat → ClassId) (B k c i : Nat) : va_E :=
  if k = 8 then .inl (gt 2, 3, .inr (.inr (.inr (.inr (va_up (va_up (va_up (fun _ => none) 0 (some ((cellB B c + 12)))) 1 (some ((cellB B c + 14)))) 2 (some ((cellB B c + 16)))))))) else
  if k = 11 then .inl (gt 3, 3, .inr (.inr (.inr (.inr (va_up (va_up (va_up (fun _ => none) 0 (some ((cellB B c + 19)))) 1 (some ((cellB B c + 21)))) 2 (some ((cellB B c + 23)))))))) else
  if k = 13 then .inl (gt 4, 30, .inr (.inr (.inr (.inr (va_up (va_up (va_up (va_up (va_up (va_up (va_up (va_up (va_up (va_up (va_up (va_up (va_up (va_up (va_up (va_up (va_up (va_up (va_up (va_up (va_up (va_up (va_up (va_up (va_up (va_up (va_up (va_up (va_up (va_up (fun _ => none) 0 (some ((cellB B c + 26)))) 1 (some ((cellB B c + 27)))) 2 (some ((cellB B c + 28)))) 3 (some ((cellB B c + 29)))) 4 (some ((cellB B c + 30)))) 5 (some ((cellB B c + 31)))) 6 (some ((cellB B c + 32)))) 7 (some ((cellB B c + 33)))) 8 (some ((cellB B c + 34)))) 9 (some ((cellB B c + 35)))) 10 (some ((cellB B c + 36)))) 11 (some ((cellB B c + 37)))) 12 (some ((cellB B c + 38)))) 13 (some ((cellB B c + 39)))) 14 (some ((cellB B c + 40)))) 15 (some ((cellB B c + 41)))) 16 (some ((cellB B c + 42)))) 17 (some ((cellB B c + 43)))) 18 (some ((cellB B c + 44)))) 19 (some ((cellB B c + 45)))) 20 (some ((cellB B c + 46)))) 21 (some ((cellB B c + 47)))) 22 (some ((cellB B c + 48)))) 23 (some ((cellB B c + 49)))) 24 (some ((cellB B c + 50)))) 25 (some ((cellB B c + 51)))) 26 (some ((cellB B c + 52)))) 27 (some ((cellB B c + 53)))) 28 (some ((cellB B c + 54)))) 29 (some ((cellB B c + 55)))))))) else
  if k = 16 then .inl (gt 5, 6, .inr (.inr (.inr (.inr (va_up (va_up (va_up (va_up (va_up (va_up (fun _ => none) 0 (some (B + 169 + 58))) 1 (some (B + 169 + 114))) 2 (some (B + 169 + 170))) 3 (some (B + 169 + 226))) 4 (some (B + 169 + 282))) 5 (some (B + 169 + 338))))))) else
  if k = 24 then .inl (gt 6, 27, .inr (.inr (.inr (.inr (va_up (va_up (va_up (va_up (va_up (va_up (va_up (va_up (va_up (va_up (va_up (va_up (va_up (va_up (va_up (va_up (va_up (va_up (va_up (va_up (va_up (va_up (va_up (va_up (va_up (va_up (va_up (fun _ => none) 0 (some (B + 568 + 4))) 1 (some (B + 568 + 5))) 2 (some (B + 568 + 6))) 3 (some (B + 568 + 7))) 4 (some (B + 568 + 8))) 5 (some (B + 568 + 9))) 6 (some (B + 568 + 10))) 7 (some (B + 568 + 11))) 8 (some (B + 568 + 12))) 9 (some (B + 568 + 13))) 10 (some (B + 568 + 14))) 11 (some (B + 568 + 15))) 12 (some (B + 568 + 16))) 13 (some (B + 568 + 17))) 14 (some (B + 568 + 18))) 15 (some (B + 568 + 19))) 16 (some (B + 568 + 20))) 17 (some (B + 568 + 21))) 18 (some (B + 568 + 22))) 19 (some (B + 568 + 23))) 20 (some (B + 568 + 24))) 21 (some (B + 568 + 25))) 22 (some (B + 568 + 26))) 23 (some (B + 568 + 27))) 24 (some (B + 568 + 28))) 25 (some (B + 568 + 29))) 26 (some (B + 568 + 30))))))) else shp (mkG D gt B) k c i (mm sg0 rg0 k c i)
def fi0 (D : va_G) (gt : Nat → ClassId) (B a : Nat) : va_E := fX D gt B (decA (a - B)).1 (decA (a - B)).2.1 (decA (a - B)).2.2
theorem fi_at (D : va_G) (gt : Nat → ClassId) (B : Nat) {k c i : Nat} (h : (k, c, i) ∈ ids) : fi0 D gt B (addr B k c i) = fX D gt B k c i := by
  unfold fi0
  rw [addr_off B, Nat.add_sub_cancel_left, (decA_ok _ h).1]
theorem fx0_0 (D : va_G) (gt : Nat → ClassId) (B : Nat) {c : Nat} (hc : c < 10) : FX_0 (mkG D gt B) (fi0 D gt B) (cellB B c + 12) (0 : Int32) := ⟨(fi_at D gt B (k := 0) (c := c) (i := 0) (mem_ids (C := 10) (I := 4) (by decide) hc (by decide))), (fi_at D gt B (k := 1) (c := c) (i := 0) (mem_ids (C := 10) (I := 4) (by decide) hc (by decide)))⟩
theorem fx9_0 (D : va_G) (gt : Nat → ClassId) (B : Nat) {c : Nat} (hc : c < 10) : FX_9 (mkG D gt B) (fi0 D gt B) (cellB B c + 19) := ⟨(fi_at D gt B (k := 9) (c := c) (i := 0) (mem_ids (C := 10) (I := 4) (by decide) hc (by decide))), (fi_at D gt B (k := 10) (c := c) (i := 0) (mem_ids (C := 10) (I := 4) (by decide) hc (by decide)))⟩
theorem fx0_1 (D : va_G) (gt : Nat → ClassId) (B : Nat) {c : Nat} (hc : c < 10) : FX_0 (mkG D gt B) (fi0 D gt B) (cellB B c + 14) (1 : Int32) := ⟨(fi_at D gt B (k := 0) (c := c) (i := 1) (mem_ids (C := 10) (I := 4) (by decide) hc (by decide))), (fi_at D gt B (k := 1) (c := c) (i := 1) (mem_ids (C := 10) (I := 4) (by decide) hc (by decide)))⟩
theorem fx9_1 (D : va_G) (gt : Nat → ClassId) (B : Nat) {c : Nat} (hc : c < 10) : FX_9 (mkG D gt B) (fi0 D gt B) (cellB B c + 21) := ⟨(fi_at D gt B (k := 9) (c := c) (i := 1) (mem_ids (C := 10) (I := 4) (by decide) hc (by decide))), (fi_at D gt B (k := 10) (c := c) (i := 1) (mem_ids (C := 10) (I := 4) (by decide) hc (by decide)))⟩
theorem fx0_2 (D : va_G) (gt : Nat → ClassId) (B : Nat) {c : Nat} (hc : c < 10) : FX_0 (mkG D gt B) (fi0 D gt B) (cellB B c + 16) (2 : Int32) := ⟨(fi_at D gt B (k := 0) (c := c) (i := 2) (mem_ids (C := 10) (I := 4) (by decide) hc (by decide))), (fi_at D gt B (k := 1) (c := c) (i := 2) (mem_ids (C := 10) (I := 4) (by decide) hc (by decide)))⟩
theorem fx9_2 (D : va_G) (gt : Nat → ClassId) (B : Nat) {c : Nat} (hc : c < 10) : FX_9 (mkG D gt B) (fi0 D gt B) (cellB B c + 23) := ⟨(fi_at D gt B (k := 9) (c := c) (i := 2) (mem_ids (C := 10) (I := 4) (by decide) hc (by decide))), (fi_at D gt B (k := 10) (c := c) (i := 2) (mem_ids (C := 10) (I := 4) (by decide) hc (by decide)))⟩
theorem fx0_3 (D : va_G) (gt : Nat → ClassId) (B : Nat) {c : Nat} (hc : c < 10) : FX_0 (mkG D gt B) (fi0 D gt B) (cellB B c + 6) (-1 : Int32) := ⟨(fi_at D gt B (k := 0) (c := c) (i := 3) (mem_ids (C := 10) (I := 4) (by decide) hc (by decide))), (fi_at D gt B (k := 1) (c := c) (i := 3) (mem_ids (C := 10) (I := 4) (by decide) hc (by decide)))⟩
theorem fx9_3 (D : va_G) (gt : Nat → ClassId) (B : Nat) {c : Nat} (hc : c < 10) : FX_9 (mkG D gt B) (fi0 D gt B) (cellB B c + 8) := ⟨(fi_at D gt B (k := 9) (c := c) (i := 3) (mem_ids (C := 10) (I := 4) (by decide) hc (by decide))), (fi_at D gt B (k := 10) (c := c) (i := 3) (mem_ids (C := 10) (I := 4) (by decide) hc (by decide)))⟩
theorem fx5_0 (D : va_G) (gt : Nat → ClassId) (B : Nat) {c : Nat} (hc : c < 10) : FX_5 (mkG D gt B) (fi0 D gt B) (cellB B c + 26) := (fi_at D gt B (k := 12) (c := c) (i := 0) (mem_ids (C := 10) (I := 31) (by decide) hc (by decide)))
theorem fx5_1 (D : va_G) (gt : Nat → ClassId) (B : Nat) {c : Nat} (hc : c < 10) : FX_5 (mkG D gt B) (fi0 D gt B) (cellB B c + 27) := (fi_at D gt B (k := 12) (c := c) (i := 1) (mem_ids (C := 10) (I := 31) (by decide) hc (by decide)))
theorem fx5_2 (D : va_G) (gt : Nat → ClassId) (B : Nat) {c : Nat} (hc : c < 10) : FX_5 (mkG D gt B) (fi0 D gt B) (cellB B c + 28) := (fi_at D gt B (k := 12) (c := c) (i := 2) (mem_ids (C := 10) (I := 31) (by decide) hc (by decide)))
theorem fx5_3 (D : va_G) (gt : Nat → ClassId) (B : Nat) {c : Nat} (hc : c < 10) : FX_5 (mkG D gt B) (fi0 D gt B) (cellB B c + 29) := (fi_at D gt B (k := 12) (c := c) (i := 3) (mem_ids (C := 10) (I := 31) (by decide) hc (by decide)))
theorem fx5_4 (D : va_G) (gt : Nat → ClassId) (B : Nat) {c : Nat} (hc : c < 10) : FX_5 (mkG D gt B) (fi0 D gt B) (cellB B c + 30) := (fi_at D gt B (k := 12) (c := c) (i := 4) (mem_ids (C := 10) (I := 31) (by decide) hc (by decide)))
theorem fx5_5 (D : va_G) (gt : Nat → ClassId) (B : Nat) {c : Nat} (hc : c < 10) : FX_5 (mkG D gt B) (fi0 D gt B) (cellB B c + 31) := (fi_at D gt B (k := 12) (c := c) (i := 5) (mem_ids (C := 10) (I := 31) (by decide) hc (by decide)))
theorem fx5_6 (D : va_G) (gt : Nat → ClassId) (B : Nat) {c : Nat} (hc : c < 10) : FX_5 (mkG D gt B) (fi0 D gt B) (cellB B c + 32) := (fi_at D gt B (k := 12) (c := c) (i := 6) (mem_ids (C := 10) (I := 31) (by decide) hc (by decide)))
theorem fx5_7 (D : va_G) (gt : Nat → ClassId) (B : Nat) {c : Nat} (hc : c < 10) : FX_5 (mkG D gt B) (fi0 D gt B) (cellB B c + 33) := (fi_at D gt B (k := 12) (c := c) (i := 7) (mem_ids (C := 10) (I := 31) (by decide) hc (by decide)))
theorem fx5_8 (D : va_G) (gt : Nat → ClassId) (B : Nat) {c : Nat} (hc : c < 10) : FX_5 (mkG D gt B) (fi0 D gt B) (cellB B c + 34) := (fi_at D gt B (k := 12) (c := c) (i := 8) (mem_ids (C := 10) (I := 31) (by decide) hc (by decide)))
theorem fx5_9 (D : va_G) (gt : Nat → ClassId) (B : Nat) {c : Nat} (hc : c < 10) : FX_5 (mkG D gt B) (fi0 D gt B) (cellB B c + 35) := (fi_at D gt B (k := 12) (c := c) (i := 9) (mem_ids (C := 10) (I := 31) (by decide) hc (by decide)))
theorem fx5_10 (D : va_G) (gt : Nat → ClassId) (B : Nat) {c : Nat} (hc : c < 10) : FX_5 (mkG D gt B) (fi0 D gt B) (cellB B c + 36) := (fi_at D gt B (k := 12) (c := c) (i := 10) (mem_ids (C := 10) (I := 31) (by decide) hc (by decide)))
theorem fx5_11 (D : va_G) (gt : Nat → ClassId) (B : Nat) {c : Nat} (hc : c < 10) : FX_5 (mkG D gt B) (fi0 D gt B) (cellB B c + 37) := (fi_at D gt B (k := 12) (c := c) (i := 11) (mem_ids (C := 10) (I := 31) (by decide) hc (by decide)))
theorem fx5_12 (D : va_G) (gt : Nat → ClassId) (B : Nat) {c : Nat} (hc : c < 10) : FX_5 (mkG D gt B) (fi0 D gt B) (cellB B c + 38) := (fi_at D gt B (k := 12) (c := c) (i := 12) (mem_ids (C := 10) (I := 31) (by decide) hc (by decide)))
theorem fx5_13 (D : va_G) (gt : Nat → ClassId) (B : Nat) {c : Nat} (hc : c < 10) : FX_5 (mkG D gt B) (fi0 D gt B) (cellB B c + 39) := (fi_at D gt B (k := 12) (c := c) (i := 13) (mem_ids (C := 10) (I := 31) (by decide) hc (by decide)))
theorem fx5_14 (D : va_G) (gt : Nat → ClassId) (B : Nat) {c : Nat} (hc : c < 10) : FX_5 (mkG D gt B) (fi0 D gt B) (cellB B c + 40) := (fi_at D gt B (k := 12) (c := c) (i := 14) (mem_ids (C := 10) (I := 31) (by decide) hc (by decide)))
theorem fx5_15 (D : va_G) (gt : Nat → ClassId) (B : Nat) {c : Nat} (hc : c < 10) : FX_5 (mkG D gt B) (fi0 D gt B) (cellB B c + 41) := (fi_at D gt B (k := 12) (c := c) (i := 15) (mem_ids (C := 10) (I := 31) (by decide) hc (by decide)))
theorem fx5_16 (D : va_G) (gt : Nat → ClassId) (B : Nat) {c : Nat} (hc : c < 10) : FX_5 (mkG D gt B) (fi0 D gt B) (cellB B c + 42) := (fi_at D gt B (k := 12) (c := c) (i := 16) (mem_ids (C := 10) (I := 31) (by decide) hc (by decide)))
theorem fx5_17 (D : va_G) (gt : Nat → ClassId) (B : Nat) {c : Nat} (hc : c < 10) : FX_5 (mkG D gt B) (fi0 D gt B) (cellB B c + 43) := (fi_at D gt B (k := 12) (c := c) (i := 17) (mem_ids (C := 10) (I := 31) (by decide) hc (by decide)))
theorem fx5_18 (D : va_G) (gt : Nat → ClassId) (B : Nat) {c : Nat} (hc : c < 10) : FX_5 (mkG D gt B) (fi0 D gt B) (cellB B c + 44) := (fi_at D gt B (k := 12) (c := c) (i := 18) (mem_ids (C := 10) (I := 31) (by decide) hc (by decide)))
theorem fx5_19 (D : va_G) (gt : Nat → ClassId) (B : Nat) {c : Nat} (hc : c < 10) : FX_5 (mkG D gt B) (fi0 D gt B) (cellB B c + 45) := (fi_at D gt B (k := 12) (c := c) (i := 19) (mem_ids (C := 10) (I := 31) (by decide) hc (by decide)))
theorem fx5_20 (D : va_G) (gt : Nat → ClassId) (B : Nat) {c : Nat} (hc : c < 10) : FX_5 (mkG D gt B) (fi0 D gt B) (cellB B c + 46) := (fi_at D gt B (k := 12) (c := c) (i := 20) (mem_ids (C := 10) (I := 31) (by decide) hc (by decide)))
theorem fx5_21 (D : va_G) (gt : Nat → ClassId) (B : Nat) {c : Nat} (hc : c < 10) : FX_5 (mkG D gt B) (fi0 D gt B) (cellB B c + 47) := (fi_at D gt B (k := 12) (c := c) (i := 21) (mem_ids (C := 10) (I := 31) (by decide) hc (by decide)))
theorem fx5_22 (D : va_G) (gt : Nat → ClassId) (B : Nat) {c : Nat} (hc : c < 10) : FX_5 (mkG D gt B) (fi0 D gt B) (cellB B c + 48) := (fi_at D gt B (k := 12) (c := c) (i := 22) (mem_ids (C := 10) (I := 31) (by decide) hc (by decide)))
theorem fx5_23 (D : va_G) (gt : Nat → ClassId) (B : Nat) {c : Nat} (hc : c < 10) : FX_5 (mkG D gt B) (fi0 D gt B) (cellB B c + 49) := (fi_at D gt B (k := 12) (c := c) (i := 23) (mem_ids (C := 10) (I := 31) (by decide) hc (by decide)))
theorem fx5_24 (D : va_G) (gt : Nat → ClassId) (B : Nat) {c : Nat} (hc : c < 10) : FX_5 (mkG D gt B) (fi0 D gt B) (cellB B c + 50) := (fi_at D gt B (k := 12) (c := c) (i := 24) (mem_ids (C := 10) (I := 31) (by decide) hc (by decide)))
theorem fx5_25 (D : va_G) (gt : Nat → ClassId) (B : Nat) {c : Nat} (hc : c < 10) : FX_5 (mkG D gt B) (fi0 D gt B) (cellB B c + 51) := (fi_at D gt B (k := 12) (c := c) (i := 25) (mem_ids (C := 10) (I := 31) (by decide) hc (by decide)))
theorem fx5_26 (D : va_G) (gt : Nat → ClassId) (B : Nat) {c : Nat} (hc : c < 10) : FX_5 (mkG D gt B) (fi0 D gt B) (cellB B c + 52) := (fi_at D gt B (k := 12) (c := c) (i := 26) (mem_ids (C := 10) (I := 31) (by decide) hc (by decide)))
theorem fx5_27 (D : va_G) (gt : Nat → ClassId) (B : Nat) {c : Nat} (hc : c < 10) : FX_5 (mkG D gt B) (fi0 D gt B) (cellB B c + 53) := (fi_at D gt B (k := 12) (c := c) (i := 27) (mem_ids (C := 10) (I := 31) (by decide) hc (by decide)))
theorem fx5_28 (D : va_G) (gt : Nat → ClassId) (B : Nat) {c : Nat} (hc : c < 10) : FX_5 (mkG D gt B) (fi0 D gt B) (cellB B c + 54) := (fi_at D gt B (k := 12) (c := c) (i := 28) (mem_ids (C := 10) (I := 31) (by decide) hc (by decide)))
theorem fx5_29 (D : va_G) (gt : Nat → ClassId) (B : Nat) {c : Nat} (hc : c < 10) : FX_5 (mkG D gt B) (fi0 D gt B) (cellB B c + 55) := (fi_at D gt B (k := 12) (c := c) (i := 29) (mem_ids (C := 10) (I := 31) (by decide) hc (by decide)))
theorem fx5_30 (D : va_G) (gt : Nat → ClassId) (B : Nat) {c : Nat} (hc : c < 10) : FX_5 (mkG D gt B) (fi0 D gt B) (cellB B c + 10) := (fi_at D gt B (k := 12) (c := c) (i := 30) (mem_ids (C := 10) (I := 31) (by decide) hc (by decide)))
theorem fx10 (D : va_G) (gt : Nat → ClassId) (B : Nat) {c : Nat} (hc : c < 10) : FX_10 (mkG D gt B) (fi0 D gt B) (cellB B c + 1) := ⟨(fi_at D gt B (k := 3) (c := c) (i := 0) (mem_ids (C := 10) (I := 1) (by decide) hc (by decide))), (fi_at D gt B (k := 4) (c := c) (i := 0) (mem_ids (C := 10) (I := 1) (by decide) hc (by decide))), (fi_at D gt B (k := 5) (c := c) (i := 0) (mem_ids (C := 10) (I := 1) (by decide) hc (by decide)))⟩
theorem fx7 (D : va_G) (gt : Nat → ClassId) (B : Nat) {c : Nat} (hc : c < 10) : FX_7 (mkG D gt B) (fi0 D gt B) (cellB B c + 4) := ⟨(fi_at D gt B (k := 6) (c := c) (i := 0) (mem_ids (C := 10) (I := 1) (by decide) hc (by decide))), (fi_at D gt B (k := 7) (c := c) (i := 0) (mem_ids (C := 10) (I := 1) (by decide) hc (by decide)))⟩
set_option maxRecDepth 20000 in
theorem fx1 (D : va_G) (gt : Nat → ClassId) (B : Nat) {c : Nat} (hc : c < 10) : FX_1 (mkG D gt B) (fi0 D gt B) (cellB B c) := ⟨(fi_at D gt B (k := 2) (c := c) (i := 0) (mem_ids (C := 10) (I := 1) (by decide) hc (by decide))), (fi_at D gt B (k := 8) (c := c) (i := 0) (mem_ids (C := 10) (I := 1) (by decide) hc (by decide))), (fi_at D gt B (k := 11) (c := c) (i := 0) (mem_ids (C := 10) (I := 1) (by decide) hc (by decide))), (fi_at D gt B (k := 13) (c := c) (i := 0) (mem_ids (C := 10) (I := 1) (by decide) hc (by decide))), fx10 D gt B hc, fx7 D gt B hc, fx0_3 D gt B hc, fx9_3 D gt B hc, fx5_30 D gt B hc, fx0_0 D gt B hc, fx0_1 D gt B hc, fx0_2 D gt B hc, fx9_0 D gt B hc, fx9_1 D gt B hc, fx9_2 D gt B hc, fx5_0 D gt B hc, fx5_1 D gt B hc, fx5_2 D gt B hc, fx5_3 D gt B hc, fx5_4 D gt B hc, fx5_5 D gt B hc, fx5_6 D gt B hc, fx5_7 D gt B hc, fx5_8 D gt B hc, fx5_9 D gt B hc, fx5_10 D gt B hc, fx5_11 D gt B hc, fx5_12 D gt B hc, fx5_13 D gt B hc, fx5_14 D gt B hc, fx5_15 D gt B hc, fx5_16 D gt B hc, fx5_17 D gt B hc, fx5_18 D gt B hc, fx5_19 D gt B hc, fx5_20 D gt B hc, fx5_21 D gt B hc, fx5_22 D gt B hc, fx5_23 D gt B hc, fx5_24 D gt B hc, fx5_25 D gt B hc, fx5_26 D gt B hc, fx5_27 D gt B hc, fx5_28 D gt B hc, fx5_29 D gt B hc⟩
theorem fx2_0 (D : va_G) (gt : Nat → ClassId) (B : Nat) : FX_2 (mkG D gt B) (fi0 D gt B) (B + 568 + 4) := (fi_at D gt B (k := 25) (c := 0) (i := 0) (mem_ids (C := 1) (I := 28) (by decide) (by decide) (by decide)))
theorem fx2_1 (D : va_G) (gt : Nat → ClassId) (B : Nat) : FX_2 (mkG D gt B) (fi0 D gt B) (B + 568 + 5) := (fi_at D gt B (k := 25) (c := 0) (i := 1) (mem_ids (C := 1) (I := 28) (by decide) (by decide) (by decide)))
theorem fx2_2 (D : va_G) (gt : Nat → ClassId) (B : Nat) : FX_2 (mkG D gt B) (fi0 D gt B) (B + 568 + 6) := (fi_at D gt B (k := 25) (c := 0) (i := 2) (mem_ids (C := 1) (I := 28) (by decide) (by decide) (by decide)))
theorem fx2_3 (D : va_G) (gt : Nat → ClassId) (B : Nat) : FX_2 (mkG D gt B) (fi0 D gt B) (B + 568 + 7) := (fi_at D gt B (k := 25) (c := 0) (i := 3) (mem_ids (C := 1) (I := 28) (by decide) (by decide) (by decide)))
theorem fx2_4 (D : va_G) (gt : Nat → ClassId) (B : Nat) : FX_2 (mkG D gt B) (fi0 D gt B) (B + 568 + 8) := (fi_at D gt B (k := 25) (c := 0) (i := 4) (mem_ids (C := 1) (I := 28) (by decide) (by decide) (by decide)))
theorem fx2_5 (D : va_G) (gt : Nat → ClassId) (B : Nat) : FX_2 (mkG D gt B) (fi0 D gt B) (B + 568 + 9) := (fi_at D gt B (k := 25) (c := 0) (i := 5) (mem_ids (C := 1) (I := 28) (by decide) (by decide) (by decide)))
theorem fx2_6 (D : va_G) (gt : Nat → ClassId) (B : Nat) : FX_2 (mkG D gt B) (fi0 D gt B) (B + 568 + 10) := (fi_at D gt B (k := 25) (c := 0) (i := 6) (mem_ids (C := 1) (I := 28) (by decide) (by decide) (by decide)))
theorem fx2_7 (D : va_G) (gt : Nat → ClassId) (B : Nat) : FX_2 (mkG D gt B) (fi0 D gt B) (B + 568 + 11) := (fi_at D gt B (k := 25) (c := 0) (i := 7) (mem_ids (C := 1) (I := 28) (by decide) (by decide) (by decide)))
theorem fx2_8 (D : va_G) (gt : Nat → ClassId) (B : Nat) : FX_2 (mkG D gt B) (fi0 D gt B) (B + 568 + 12) := (fi_at D gt B (k := 25) (c := 0) (i := 8) (mem_ids (C := 1) (I := 28) (by decide) (by decide) (by decide)))
theorem fx2_9 (D : va_G) (gt : Nat → ClassId) (B : Nat) : FX_2 (mkG D gt B) (fi0 D gt B) (B + 568 + 13) := (fi_at D gt B (k := 25) (c := 0) (i := 9) (mem_ids (C := 1) (I := 28) (by decide) (by decide) (by decide)))
theorem fx2_10 (D : va_G) (gt : Nat → ClassId) (B : Nat) : FX_2 (mkG D gt B) (fi0 D gt B) (B + 568 + 14) := (fi_at D gt B (k := 25) (c := 0) (i := 10) (mem_ids (C := 1) (I := 28) (by decide) (by decide) (by decide)))
theorem fx2_11 (D : va_G) (gt : Nat → ClassId) (B : Nat) : FX_2 (mkG D gt B) (fi0 D gt B) (B + 568 + 15) := (fi_at D gt B (k := 25) (c := 0) (i := 11) (mem_ids (C := 1) (I := 28) (by decide) (by decide) (by decide)))
theorem fx2_12 (D : va_G) (gt : Nat → ClassId) (B : Nat) : FX_2 (mkG D gt B) (fi0 D gt B) (B + 568 + 16) := (fi_at D gt B (k := 25) (c := 0) (i := 12) (mem_ids (C := 1) (I := 28) (by decide) (by decide) (by decide)))
theorem fx2_13 (D : va_G) (gt : Nat → ClassId) (B : Nat) : FX_2 (mkG D gt B) (fi0 D gt B) (B + 568 + 17) := (fi_at D gt B (k := 25) (c := 0) (i := 13) (mem_ids (C := 1) (I := 28) (by decide) (by decide) (by decide)))
theorem fx2_14 (D : va_G) (gt : Nat → ClassId) (B : Nat) : FX_2 (mkG D gt B) (fi0 D gt B) (B + 568 + 18) := (fi_at D gt B (k := 25) (c := 0) (i := 14) (mem_ids (C := 1) (I := 28) (by decide) (by decide) (by decide)))
theorem fx2_15 (D : va_G) (gt : Nat → ClassId) (B : Nat) : FX_2 (mkG D gt B) (fi0 D gt B) (B + 568 + 19) := (fi_at D gt B (k := 25) (c := 0) (i := 15) (mem_ids (C := 1) (I := 28) (by decide) (by decide) (by decide)))
theorem fx2_16 (D : va_G) (gt : Nat → ClassId) (B : Nat) : FX_2 (mkG D gt B) (fi0 D gt B) (B + 568 + 20) := (fi_at D gt B (k := 25) (c := 0) (i := 16) (mem_ids (C := 1) (I := 28) (by decide) (by decide) (by decide)))
theorem fx2_17 (D : va_G) (gt : Nat → ClassId) (B : Nat) : FX_2 (mkG D gt B) (fi0 D gt B) (B + 568 + 21) := (fi_at D gt B (k := 25) (c := 0) (i := 17) (mem_ids (C := 1) (I := 28) (by decide) (by decide) (by decide)))
theorem fx2_18 (D : va_G) (gt : Nat → ClassId) (B : Nat) : FX_2 (mkG D gt B) (fi0 D gt B) (B + 568 + 22) := (fi_at D gt B (k := 25) (c := 0) (i := 18) (mem_ids (C := 1) (I := 28) (by decide) (by decide) (by decide)))
theorem fx2_19 (D : va_G) (gt : Nat → ClassId) (B : Nat) : FX_2 (mkG D gt B) (fi0 D gt B) (B + 568 + 23) := (fi_at D gt B (k := 25) (c := 0) (i := 19) (mem_ids (C := 1) (I := 28) (by decide) (by decide) (by decide)))
theorem fx2_20 (D : va_G) (gt : Nat → ClassId) (B : Nat) : FX_2 (mkG D gt B) (fi0 D gt B) (B + 568 + 24) := (fi_at D gt B (k := 25) (c := 0) (i := 20) (mem_ids (C := 1) (I := 28) (by decide) (by decide) (by decide)))
theorem fx2_21 (D : va_G) (gt : Nat → ClassId) (B : Nat) : FX_2 (mkG D gt B) (fi0 D gt B) (B + 568 + 25) := (fi_at D gt B (k := 25) (c := 0) (i := 21) (mem_ids (C := 1) (I := 28) (by decide) (by decide) (by decide)))
theorem fx2_22 (D : va_G) (gt : Nat → ClassId) (B : Nat) : FX_2 (mkG D gt B) (fi0 D gt B) (B + 568 + 26) := (fi_at D gt B (k := 25) (c := 0) (i := 22) (mem_ids (C := 1) (I := 28) (by decide) (by decide) (by decide)))
theorem fx2_23 (D : va_G) (gt : Nat → ClassId) (B : Nat) : FX_2 (mkG D gt B) (fi0 D gt B) (B + 568 + 27) := (fi_at D gt B (k := 25) (c := 0) (i := 23) (mem_ids (C := 1) (I := 28) (by decide) (by decide) (by decide)))
theorem fx2_24 (D : va_G) (gt : Nat → ClassId) (B : Nat) : FX_2 (mkG D gt B) (fi0 D gt B) (B + 568 + 28) := (fi_at D gt B (k := 25) (c := 0) (i := 24) (mem_ids (C := 1) (I := 28) (by decide) (by decide) (by decide)))
theorem fx2_25 (D : va_G) (gt : Nat → ClassId) (B : Nat) : FX_2 (mkG D gt B) (fi0 D gt B) (B + 568 + 29) := (fi_at D gt B (k := 25) (c := 0) (i := 25) (mem_ids (C := 1) (I := 28) (by decide) (by decide) (by decide)))
theorem fx2_26 (D : va_G) (gt : Nat → ClassId) (B : Nat) : FX_2 (mkG D gt B) (fi0 D gt B) (B + 568 + 30) := (fi_at D gt B (k := 25) (c := 0) (i := 26) (mem_ids (C := 1) (I := 28) (by decide) (by decide) (by decide)))
theorem fx2_27 (D : va_G) (gt : Nat → ClassId) (B : Nat) : FX_2 (mkG D gt B) (fi0 D gt B) (B + 568 + 2) := (fi_at D gt B (k := 25) (c := 0) (i := 27) (mem_ids (C := 1) (I := 28) (by decide) (by decide) (by decide)))
theorem fx3 (D : va_G) (gt : Nat → ClassId) (B : Nat) : FX_3 (mkG D gt B) (fi0 D gt B) (B + 568) := ⟨(fi_at D gt B (k := 22) (c := 0) (i := 0) (mem_ids (C := 1) (I := 1) (by decide) (by decide) (by decide))), (fi_at D gt B (k := 23) (c := 0) (i := 0) (mem_ids (C := 1) (I := 1) (by decide) (by decide) (by decide))), (fi_at D gt B (k := 24) (c := 0) (i := 0) (mem_ids (C := 1) (I := 1) (by decide) (by decide) (by decide))), fx2_27 D gt B, fx2_0 D gt B, fx2_1 D gt B, fx2_2 D gt B, fx2_3 D gt B, fx2_4 D gt B, fx2_5 D gt B, fx2_6 D gt B, fx2_7 D gt B, fx2_8 D gt B, fx2_9 D gt B, fx2_10 D gt B, fx2_11 D gt B, fx2_12 D gt B, fx2_13 D gt B, fx2_14 D gt B, fx2_15 D gt B, fx2_16 D gt B, fx2_17 D gt B, fx2_18 D gt B, fx2_19 D gt B, fx2_20 D gt B, fx2_21 D gt B, fx2_22 D gt B, fx2_23 D gt B, fx2_24 D gt B, fx2_25 D gt B, fx2_26 D gt B⟩
theorem fx6 (D : va_G) (gt : Nat → ClassId) (B : Nat) : FX_6 (mkG D gt B) (fi0 D gt B) (B + 563 + 1) := ⟨(fi_at D gt B (k := 19) (c := 0) (i := 0) (mem_ids (C := 1) (I := 1) (by decide) (by decide) (by decide))), (fi_at D gt B (k := 20) (c := 0) (i := 0) (mem_ids (C := 1) (I := 1) (by decide) (by decide) (by decide))), (fi_at D gt B (k := 21) (c := 0) (i := 0) (mem_ids (C := 1) (I := 1) (by decide) (by decide) (by decide)))⟩
theorem fx8 (D : va_G) (gt : Nat → ClassId) (B : Nat) : FX_8 (mkG D gt B) (fi0 D gt B) (B + 563) := ⟨(fi_at D gt B (k := 17) (c := 0) (i := 0) (mem_ids (C := 1) (I := 1) (by decide) (by decide) (by decide))), (fi_at D gt B (k := 18) (c := 0) (i := 0) (mem_ids (C := 1) (I := 1) (by decide) (by decide) (by decide))), fx6 D gt B⟩
theorem fx4 (D : va_G) (gt : Nat → ClassId) (B : Nat) : FX_4 (mkG D gt B) (fi0 D gt B) (B + 169) := ⟨(fi_at D gt B (k := 15) (c := 0) (i := 0) (mem_ids (C := 1) (I := 1) (by decide) (by decide) (by decide))), (fi_at D gt B (k := 16) (c := 0) (i := 0) (mem_ids (C := 1) (I := 1) (by decide) (by decide) (by decide))), fx1 D gt B (c := 3) (by decide), fx1 D gt B (c := 4) (by decide), fx1 D gt B (c := 5) (by decide), fx1 D gt B (c := 6) (by decide), fx1 D gt B (c := 7) (by decide), fx1 D gt B (c := 8) (by decide), fx1 D gt B (c := 9) (by decide)⟩
theorem fx11 (D : va_G) (gt : Nat → ClassId) (B : Nat) : FX_11 (mkG D gt B) (fi0 D gt B) B := ⟨(fi_at D gt B (k := 14) (c := 0) (i := 0) (mem_ids (C := 1) (I := 1) (by decide) (by decide) (by decide))), fx1 D gt B (c := 0) (by decide), fx1 D gt B (c := 1) (by decide), fx1 D gt B (c := 2) (by decide), fx4 D gt B, fx8 D gt B, fx3 D gt B⟩
set_option maxRecDepth 20000 in
theorem fx12 (D : va_G) (gt : Nat → ClassId) (B : Nat) : FX_12 (mkG D gt B) (fi0 D gt B) (B + 599) := ⟨(fi_at D gt B (k := 40) (c := 0) (i := 0) (mem_ids (C := 1) (I := 1) (by decide) (by decide) (by decide))), (fi_at D gt B (k := 101) (c := 0) (i := 0) (mem_ids (C := 1) (I := 1) (by decide) (by decide) (by decide))), (fi_at D gt B (k := 102) (c := 0) (i := 0) (mem_ids (C := 1) (I := 1) (by decide) (by decide) (by decide))), (fi_at D gt B (k := 103) (c := 0) (i := 0) (mem_ids (C := 1) (I := 1) (by decide) (by decide) (by decide))), (fi_at D gt B (k := 104) (c := 0) (i := 0) (mem_ids (C := 1) (I := 1) (by decide) (by decide) (by decide))), (fi_at D gt B (k := 105) (c := 0) (i := 0) (mem_ids (C := 1) (I := 1) (by decide) (by decide) (by decide))), (fi_at D gt B (k := 106) (c := 0) (i := 0) (mem_ids (C := 1) (I := 1) (by decide) (by decide) (by decide))), (fi_at D gt B (k := 107) (c := 0) (i := 0) (mem_ids (C := 1) (I := 1) (by decide) (by decide) (by decide))), (fi_at D gt B (k := 108) (c := 0) (i := 0) (mem_ids (C := 1) (I := 1) (by decide) (by decide) (by decide))), (fi_at D gt B (k := 109) (c := 0) (i := 0) (mem_ids (C := 1) (I := 1) (by decide) (by decide) (by decide))), (fi_at D gt B (k := 110) (c := 0) (i := 0) (mem_ids (C := 1) (I := 1) (by decide) (by decide) (by decide))), (fi_at D gt B (k := 111) (c := 0) (i := 0) (mem_ids (C := 1) (I := 1) (by decide) (by decide) (by decide))), (fi_at D gt B (k := 112) (c := 0) (i := 0) (mem_ids (C := 1) (I := 1) (by decide) (by decide) (by decide))), (fi_at D gt B (k := 113) (c := 0) (i := 0) (mem_ids (C := 1) (I := 1) (by decide) (by decide) (by decide))), (fi_at D gt B (k := 114) (c := 0) (i := 0) (mem_ids (C := 1) (I := 1) (by decide) (by decide) (by decide))), (fi_at D gt B (k := 115) (c := 0) (i := 0) (mem_ids (C := 1) (I := 1) (by decide) (by decide) (by decide))), (fi_at D gt B (k := 116) (c := 0) (i := 0) (mem_ids (C := 1) (I := 1) (by decide) (by decide) (by decide))), (fi_at D gt B (k := 117) (c := 0) (i := 0) (mem_ids (C := 1) (I := 1) (by decide) (by decide) (by decide))), (fi_at D gt B (k := 118) (c := 0) (i := 0) (mem_ids (C := 1) (I := 1) (by decide) (by decide) (by decide))), (fi_at D gt B (k := 119) (c := 0) (i := 0) (mem_ids (C := 1) (I := 1) (by decide) (by decide) (by decide))), (fi_at D gt B (k := 120) (c := 0) (i := 0) (mem_ids (C := 1) (I := 1) (by decide) (by decide) (by decide))), (fi_at D gt B (k := 121) (c := 0) (i := 0) (mem_ids (C := 1) (I := 1) (by decide) (by decide) (by decide))), (fi_at D gt B (k := 122) (c := 0) (i := 0) (mem_ids (C := 1) (I := 1) (by decide) (by decide) (by decide))), (fi_at D gt B (k := 123) (c := 0) (i := 0) (mem_ids (C := 1) (I := 1) (by decide) (by decide) (by decide))), (fi_at D gt B (k := 124) (c := 0) (i := 0) (mem_ids (C := 1) (I := 1) (by decide) (by decide) (by decide))), (fi_at D gt B (k := 125) (c := 0) (i := 0) (mem_ids (C := 1) (I := 1) (by decide) (by decide) (by decide))), (fi_at D gt B (k := 126) (c := 0) (i := 0) (mem_ids (C := 1) (I := 1) (by decide) (by decide) (by decide))), (fi_at D gt B (k := 127) (c := 0) (i := 0) (mem_ids (C := 1) (I := 1) (by decide) (by decide) (by decide))), (fi_at D gt B (k := 128) (c := 0) (i := 0) (mem_ids (C := 1) (I := 1) (by decide) (by decide) (by decide))), (fi_at D gt B (k := 129) (c := 0) (i := 0) (mem_ids (C := 1) (I := 1) (by decide) (by decide) (by decide))), (fi_at D gt B (k := 130) (c := 0) (i := 0) (mem_ids (C := 1) (I := 1) (by decide) (by decide) (by decide))), (fi_at D gt B (k := 131) (c := 0) (i := 0) (mem_ids (C := 1) (I := 1) (by decide) (by decide) (by decide))), (fi_at D gt B (k := 132) (c := 0) (i := 0) (mem_ids (C := 1) (I := 1) (by decide) (by decide) (by decide))), (fi_at D gt B (k := 141) (c := 0) (i := 0) (mem_ids (C := 1) (I := 1) (by decide) (by decide) (by decide))), (fi_at D gt B (k := 142) (c := 0) (i := 0) (mem_ids (C := 1) (I := 1) (by decide) (by decide) (by decide))), (fi_at D gt B (k := 143) (c := 0) (i := 0) (mem_ids (C := 1) (I := 1) (by decide) (by decide) (by decide))), (fi_at D gt B (k := 147) (c := 0) (i := 0) (mem_ids (C := 1) (I := 1) (by decide) (by decide) (by decide))), (fi_at D gt B (k := 148) (c := 0) (i := 0) (mem_ids (C := 1) (I := 1) (by decide) (by decide) (by decide))), (fi_at D gt B (k := 149) (c := 0) (i := 0) (mem_ids (C := 1) (I := 1) (by decide) (by decide) (by decide))), (fi_at D gt B (k := 150) (c := 0) (i := 0) (mem_ids (C := 1) (I := 1) (by decide) (by decide) (by decide))), (fi_at D gt B (k := 155) (c := 0) (i := 0) (mem_ids (C := 1) (I := 1) (by decide) (by decide) (by decide))), (fi_at D gt B (k := 156) (c := 0) (i := 0) (mem_ids (C := 1) (I := 1) (by decide) (by decide) (by decide))), (fi_at D gt B (k := 157) (c := 0) (i := 0) (mem_ids (C := 1) (I := 1) (by decide) (by decide) (by decide))), (fi_at D gt B (k := 158) (c := 0) (i := 0) (mem_ids (C := 1) (I := 1) (by decide) (by decide) (by decide)))⟩
theorem fX_shp {D : va_G} {gt : Nat → ClassId} {B k c i : Nat} {H : Heap} {a : Nat} (h : va_at D vwCl (a, fX D gt B k c i) H) : va_at D vwCl (a, shp (mkG D gt B) k c i (mm sg0 rg0 k c i)) H := by
  by_cases h8 : k = 8
  · subst h8
    have h2 : H[a]? = some (vp_cell _ _) := h
    show H[a]? = some (vp_cell _ _)
    rw [h2]
    refine congrArg some (vp_cell_cq (fun j hj => ?_))
    match j, hj with
    | 0, _ => rfl | 1, _ => rfl | 2, _ => rfl
    | j + 3, hj => omega
  by_cases h11 : k = 11
  · subst h11
    have h2 : H[a]? = some (vp_cell _ _) := h
    show H[a]? = some (vp_cell _ _)
    rw [h2]
    refine congrArg some (vp_cell_cq (fun j hj => ?_))
    match j, hj with
    | 0, _ => rfl | 1, _ => rfl | 2, _ => rfl
    | j + 3, hj => omega
  by_cases h13 : k = 13
  · subst h13
    have h2 : H[a]? = some (vp_cell _ _) := h
    show H[a]? = some (vp_cell _ _)
    rw [h2]
    refine congrArg some (vp_cell_cq (fun j hj => ?_))
    match j, hj with
    | 0, _ => rfl | 1, _ => rfl | 2, _ => rfl | 3, _ => rfl | 4, _ => rfl | 5, _ => rfl | 6, _ => rfl | 7, _ => rfl | 8, _ => rfl | 9, _ => rfl | 10, _ => rfl | 11, _ => rfl | 12, _ => rfl | 13, _ => rfl | 14, _ => rfl | 15, _ => rfl | 16, _ => rfl | 17, _ => rfl | 18, _ => rfl | 19, _ => rfl | 20, _ => rfl | 21, _ => rfl | 22, _ => rfl | 23, _ => rfl | 24, _ => rfl | 25, _ => rfl | 26, _ => rfl | 27, _ => rfl | 28, _ => rfl | 29, _ => rfl
    | j + 30, hj => omega
  by_cases h16 : k = 16
  · subst h16
    have h2 : H[a]? = some (vp_cell _ _) := h
    show H[a]? = some (vp_cell _ _)
    rw [h2]
    refine congrArg some (vp_cell_cq (fun j hj => ?_))
    match j, hj with
    | 0, _ => rfl | 1, _ => rfl | 2, _ => rfl | 3, _ => rfl | 4, _ => rfl | 5, _ => rfl
    | j + 6, hj => omega
  by_cases h24 : k = 24
  · subst h24
    have h2 : H[a]? = some (vp_cell _ _) := h
    show H[a]? = some (vp_cell _ _)
    rw [h2]
    refine congrArg some (vp_cell_cq (fun j hj => ?_))
    match j, hj with
    | 0, _ => rfl | 1, _ => rfl | 2, _ => rfl | 3, _ => rfl | 4, _ => rfl | 5, _ => rfl | 6, _ => rfl | 7, _ => rfl | 8, _ => rfl | 9, _ => rfl | 10, _ => rfl | 11, _ => rfl | 12, _ => rfl | 13, _ => rfl | 14, _ => rfl | 15, _ => rfl | 16, _ => rfl | 17, _ => rfl | 18, _ => rfl | 19, _ => rfl | 20, _ => rfl | 21, _ => rfl | 22, _ => rfl | 23, _ => rfl | 24, _ => rfl | 25, _ => rfl | 26, _ => rfl
    | j + 27, hj => omega
  have e : fX D gt B k c i = shp (mkG D gt B) k c i (mm sg0 rg0 k c i) := by
    unfold fX
    rw [if_neg h8, if_neg h11, if_neg h13, if_neg h16, if_neg h24]
  rw [e] at h
  exact h
theorem Wh0 {D : va_G} {gt : Nat → ClassId} {B : Nat} {H : Heap} (h : ∀ a, B ≤ a → a < B + 643 → va_at D vwCl (a, fi0 D gt B a) H) : Wh (mkG D gt B) sg0 rg0 H := by
  have hw : ∀ (j : Nat) (q : Nat × va_E), (wl (mkG D gt B) sg0 rg0)[j]? = some q → ∃ t : Nat × Nat × Nat, ids[j]? = some t ∧ q = (addr B t.1 t.2.1 t.2.2, shp (mkG D gt B) t.1 t.2.1 t.2.2 (mm sg0 rg0 t.1 t.2.1 t.2.2)) := by
    intro j q hj
    unfold wl at hj
    rw [List.getElem?_map] at hj
    cases ht : ids[j]? with
    | none => rw [ht] at hj; cases hj
    | some t => rw [ht] at hj; exact ⟨t, rfl, (Option.some.inj hj).symm⟩
  refine ⟨fun j q hj => ?_, fun i j p q hi hj hpq => ?_, fun j q hj => ?_⟩
  · obtain ⟨t, ht, rfl⟩ := hw j q hj
    have hm : (t.1, t.2.1, t.2.2) ∈ ids := List.mem_of_getElem? ht
    have ho := (decA_ok _ hm).2
    have he := addr_off B t.1 t.2.1 t.2.2
    have h1 := h (addr B t.1 t.2.1 t.2.2) (by omega) (by rw [he]; exact Nat.add_lt_add_left ho B)
    rw [fi_at D gt B hm] at h1
    exact fX_shp h1
  · obtain ⟨t, ht, rfl⟩ := hw i p hi
    obtain ⟨u, hu, rfl⟩ := hw j q hj
    have e : addr B t.1 t.2.1 t.2.2 = addr B u.1 u.2.1 u.2.2 := hpq
    rw [addr_off B t.1, addr_off B u.1] at e
    have e2 : addr 0 t.1 t.2.1 t.2.2 = addr 0 u.1 u.2.1 u.2.2 := Nat.add_left_cancel e
    have e3 : t = u := (decA_ok _ (List.mem_of_getElem? ht)).1.symm.trans ((congrArg decA e2).trans (decA_ok _ (List.mem_of_getElem? hu)).1)
    subst e3
    have e4 := ixC_ok ids 0 i t ids_ix ht
    have e5 := ixC_ok ids 0 j t ids_ix hu
    omega
  · obtain ⟨t, ht, rfl⟩ := hw j q hj
    have ho := (decA_ok _ (List.mem_of_getElem? ht)).2
    have he := addr_off B t.1 t.2.1 t.2.2
    show B ≤ addr B t.1 t.2.1 t.2.2 ∧ addr B t.1 t.2.1 t.2.2 ≠ B + 643 ∧ addr B t.1 t.2.1 t.2.2 ≠ B + 644
    rw [he]
    exact ⟨Nat.le_add_right _ _, fun h9 => by omega, fun h9 => by omega⟩
