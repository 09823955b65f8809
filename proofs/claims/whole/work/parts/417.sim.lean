/-! BITS -/
def tb (v : Int32) (z : Nat) : Bool := v.toBitVec.getLsbD z
theorem tb_and {a b : Int32} {z : Nat} : tb (a &&& b) z = (tb a z && tb b z) := by
  unfold tb
  rw [Int32.toBitVec_and, BitVec.getLsbD_and]
theorem tb_or {a b : Int32} {z : Nat} : tb (a ||| b) z = (tb a z || tb b z) := by
  unfold tb
  rw [Int32.toBitVec_or, BitVec.getLsbD_or]
theorem tb_not {a : Int32} {z : Nat} (h : z < 32) : tb (a ^^^ (-1)) z = !tb a z := by
  unfold tb
  rw [Int32.xor_neg_one, Int32.toBitVec_not, BitVec.getLsbD_not]
  simp [h]
theorem tb_0 {z : Nat} : tb 0 z = false := by
  unfold tb
  simp
theorem tb_ext {a b : Int32} (h : ∀ z, z < 32 → tb a z = tb b z) : a = b := by
  apply Int32.toBitVec_inj.mp
  apply BitVec.eq_of_getLsbD_eq
  intro i hi
  exact h i hi
theorem tb_bits : ∀ z, z < 32 → ∀ w, w < 32 → tb (bit z) w = decide (w = z) := by decide +kernel
theorem tb_bit {z w : Nat} (hz : z < 32) (hw : w < 32) : tb (bit z) w = decide (w = z) := tb_bits z hz w hw
theorem and0_iff {a b : Int32} : a &&& b = 0 ↔ ∀ z, z < 32 → tb a z = true → tb b z = false := by
  constructor
  · intro h z hz ha
    have e : tb (a &&& b) z = false := by rw [h, tb_0]
    rw [tb_and, ha] at e
    simpa using e
  · intro h
    apply tb_ext
    intro z hz
    rw [tb_and, tb_0]
    cases ha : tb a z with
    | false => rfl
    | true => rw [h z hz ha]; rfl
theorem and_bit {a : Int32} {z : Nat} (hz : z < 32) : a &&& bit z = 0 ↔ tb a z = false := by
  rw [and0_iff]
  constructor
  · intro h
    cases ha : tb a z with
    | false => rfl
    | true =>
      have := h z hz ha
      rw [tb_bit hz hz] at this
      simp at this
  · intro h w hw ha
    rw [tb_bit hz hw]
    simp only [decide_eq_false_iff_not]
    rintro rfl
    rw [h] at ha
    exact absurd ha (by decide)
theorem shz_dec : ∀ z, z < 32 → ((Int32.ofNat z &&& 31).toBitVec.smod 32).toNat = z := by decide +kernel
theorem tb_1 : ∀ w, w < 32 → tb 1 w = decide (w = 0) := by decide +kernel
theorem sar_bit {a : Int32} {z : Nat} (hz : z < 32) : sar32 a (Int32.ofNat z) &&& 1 = if tb a z = true then 1 else 0 := by
  have e : tb (sar32 a (Int32.ofNat z)) 0 = tb a z := by
    unfold tb sar32
    rw [Int32.toBitVec_shiftRight, BitVec.sshiftRight_eq', shz_dec z hz, BitVec.getLsbD_sshiftRight]
    simp [hz]
  apply tb_ext
  intro w hw
  rw [tb_and, tb_1 w hw]
  by_cases h0 : w = 0
  · subst h0
    rw [e]
    cases tb a z with
    | false => simp [tb_0]
    | true => simp [tb_1]
  · rw [decide_eq_false h0, Bool.and_false]
    cases tb a z with
    | false => simp [tb_0]
    | true => simp [tb_1 w hw, h0]
theorem or_and0 {a b c : Int32} : (a ||| b) &&& c = 0 ↔ a &&& c = 0 ∧ b &&& c = 0 := by
  rw [and0_iff, and0_iff, and0_iff]
  constructor
  · intro h
    exact ⟨fun z hz q => h z hz (by rw [tb_or, q]; rfl), fun z hz q => h z hz (by rw [tb_or, q, Bool.or_true])⟩
  · intro h z hz q
    rw [tb_or, Bool.or_eq_true] at q
    exact q.elim (h.1 z hz) (h.2 z hz)
theorem and_or0 {a b c : Int32} : c &&& (a ||| b) = 0 ↔ c &&& a = 0 ∧ c &&& b = 0 := by
  rw [Int32.and_comm, or_and0, Int32.and_comm a, Int32.and_comm b]
/-! STEPS: writes to a cell of the class and to the state of the reference -/
def S4 (A : St) (k s : Nat) (v : Int32) : St := fun k' s' => if k' = k ∧ s' = s then v else A k' s'
theorem S4_eq {A : St} {k s : Nat} {v : Int32} : S4 A k s v k s = v := if_pos ⟨rfl, rfl⟩
theorem S4_ne {A : St} {k s k' s' : Nat} {v : Int32} (h : ¬ (k' = k ∧ s' = s)) : S4 A k s v k' s' = A k' s' := if_neg h
theorem V_up {y : Mem} {k s : Nat} {v : Int32} : V (up4 y k 0 0 s v) = S4 (V y) k s v := by
  funext k' s'
  show up4 y k 0 0 s v k' 0 0 s' = _
  unfold S4
  rw [up4_at]
  by_cases h : k' = k ∧ s' = s
  · rw [if_pos ⟨h.1, rfl, rfl, h.2⟩, if_pos h]
  · rw [if_neg (fun q => h ⟨q.1, q.2.2.2⟩), if_neg h]
    rfl
def ov (A : St) (p : Nat → Int32) : St := fun k s => if k = 117 then p s else A k s
theorem ov_ne {A : St} {p : Nat → Int32} {k s : Nat} (h : k ≠ 117) : ov A p k s = A k s := if_neg h
theorem ov_S4 {A : St} {p : Nat → Int32} {k s : Nat} {v : Int32} (h : k ≠ 117) : ov (S4 A k s v) p = S4 (ov A p) k s v := by
  funext k' s'
  by_cases e : k' = 117
  · rw [S4_ne (fun q => h (q.1.symm.trans e))]
    unfold ov
    rw [if_pos e, if_pos e]
  · rw [ov_ne e]
    unfold S4
    rw [ov_ne e]
theorem ov_self {A : St} : ov A (A 117) = A := by
  funext k s
  unfold ov
  by_cases e : k = 117
  · subst e
    rw [if_pos rfl]
  · rw [if_neg e]
theorem hold_kp {A A' : St} {a : Nat} (h3 : A' 113 a = A 113 a) (h4 : A' 114 a = A 114 a) (h5 : A' 115 a = A 115 a) (h6 : A' 123 (ajob A a) = A 123 (ajob A a)) (h7 : A' 124 (ajob A a) = A 124 (ajob A a)) : hold A' a = hold A a := by
  have e1 : ajob A' a = ajob A a := by unfold ajob; rw [h3]
  have e2 : apos A' a = apos A a := by unfold apos; rw [h5]
  unfold hold znA
  rw [e1, e2, h4, h6, h7]
theorem hold_ov {A : St} {p : Nat → Int32} {a : Nat} : hold (ov A p) a = hold A a := hold_kp (ov_ne (by decide)) (ov_ne (by decide)) (ov_ne (by decide)) (ov_ne (by decide)) (ov_ne (by decide))
theorem RSca.kp {x x' : Mem} {c : Nat} {A A' : St} (h : RSca x c A) (hx : ∀ s, x' 2 c 0 s = x 2 c 0 s) (hA : ∀ s, 33 ≤ s → s ≤ 39 → A' 40 s = A 40 s) : RSca x' c A' := by
  unfold RSca at h ⊢
  rw [hx 0, hx 1, hx 2, hx 3, hx 4, hx 5, hx 6, hA 33 (by decide) (by decide), hA 34 (by decide) (by decide), hA 35 (by decide) (by decide), hA 36 (by decide) (by decide), hA 37 (by decide) (by decide), hA 38 (by decide) (by decide), hA 39 (by decide) (by decide)]
  exact h
theorem RZon.kp {x x' : Mem} {c : Nat} {A A' : St} (h : RZon x c A) (h3 : x' 3 c 0 0 = x 3 c 0 0) (h4 : ∀ s, x' 4 c 0 s = x 4 c 0 s) (h5 : ∀ s, x' 5 c 0 s = x 5 c 0 s) (a1 : ∀ s, A' 101 s = A 101 s) (a2 : ∀ s, A' 102 s = A 102 s) : RZon x' c A' :=
  ⟨by rw [h3, h.1]; exact icnt_congr (fun z _ => (a1 z).symm), fun z q => by rw [h4, h5, a1, a2]; exact h.2 z q⟩
theorem RLog.kp {x x' : Mem} {c N : Nat} {A A' : St} (h : RLog x c A N) (h6 : ∀ s, x' 6 c 0 s = x 6 c 0 s) (h7 : ∀ s, x' 7 c 0 s = x 7 c 0 s) (a0 : A' 40 40 = A 40 40) (a1 : A' 40 35 = A 40 35) (a2 : ∀ s, A' 132 s = A 132 s) : RLog x' c A' N := by
  obtain ⟨⟨P, q1, q2⟩, M, g1, g2, g3, g4⟩ := h
  exact ⟨⟨P, q1, a1.trans q2⟩, M, g1, (h6 0).trans g2, a0.trans g3, fun i w q r => by rw [a2, h7]; exact g4 i w q r⟩
theorem RArm.kp {x x' : Mem} {c a : Nat} {A A' : St} (h : RArm x c A a) (h0 : ∀ s, x' 0 c a s = x 0 c a s) (h1 : ∀ s, x' 1 c a s = x 1 c a s) (hA : ∀ k, 110 ≤ k → k ≤ 121 → k ≠ 112 → A' k a = A k a) (hr : ∀ k, k < (A 111 a).toNatClampNeg → A' 112 (30 * a + k) = A 112 (30 * a + k)) (hh : hold A' a = hold A a) : RArm x' c A' a := by
  unfold RArm at h ⊢
  rw [h0 1, h0 2, h0 3, h0 4, h0 5, h0 6, h0 7, h0 8, h0 9, h0 10, h0 11, h0 12, hA 110 (by decide) (by decide) (by decide), hA 111 (by decide) (by decide) (by decide), hA 113 (by decide) (by decide) (by decide), hA 114 (by decide) (by decide) (by decide), hA 115 (by decide) (by decide) (by decide), hA 116 (by decide) (by decide) (by decide), hA 117 (by decide) (by decide) (by decide), hA 118 (by decide) (by decide) (by decide), hA 119 (by decide) (by decide) (by decide), hA 120 (by decide) (by decide) (by decide), hA 121 (by decide) (by decide) (by decide), hh]
  obtain ⟨g1, g2, g3, g4, g5, g6, g7, g8, g9, g10, g11, g12, g13⟩ := h
  exact ⟨g1, g2, g3, g4, g5, g6, g7, g8, g9, g10, g11, g12, fun k hk => by rw [h1, hr k hk]; exact g13 k hk⟩
theorem RSto.kp {x x' : Mem} {c b : Nat} {A A' : St} (h : RSto x c A b) (h9 : ∀ s, x' 9 c b s = x 9 c b s) (h10 : ∀ s, x' 10 c b s = x 10 c b s) (hA : ∀ k, 103 ≤ k → k ≤ 109 → k ≠ 105 → A' k b = A k b) (hp : ∀ k, k < (A 104 b).toNatClampNeg → A' 105 (4 * b + k) = A 105 (4 * b + k)) : RSto x' c A' b := by
  unfold RSto at h ⊢
  rw [h9 0, h9 1, h9 2, h9 3, h9 4, h9 5, hA 103 (by decide) (by decide) (by decide), hA 104 (by decide) (by decide) (by decide), hA 106 (by decide) (by decide) (by decide), hA 107 (by decide) (by decide) (by decide), hA 108 (by decide) (by decide) (by decide), hA 109 (by decide) (by decide) (by decide)]
  obtain ⟨g1, g2, g3, g4, g5, g6, g7⟩ := h
  exact ⟨g1, g2, g3, g4, g5, g6, fun k hk => by rw [h10, hp k hk]; exact g7 k hk⟩
theorem RJob.kp {x x' : Mem} {c j : Nat} {A A' : St} (h : RJob x c A j) (hx : ∀ s, x' 12 c j s = x 12 c j s) (hA : ∀ k, 122 ≤ k → k ≤ 131 → A' k j = A k j) : RJob x' c A' j := by
  unfold RJob at h ⊢
  rw [hx 0, hx 1, hx 2, hx 3, hx 4, hx 5, hx 6, hx 7, hx 8, hx 9, hA 122 (by decide) (by decide), hA 123 (by decide) (by decide), hA 124 (by decide) (by decide), hA 125 (by decide) (by decide), hA 126 (by decide) (by decide), hA 127 (by decide) (by decide), hA 128 (by decide) (by decide), hA 129 (by decide) (by decide), hA 130 (by decide) (by decide), hA 131 (by decide) (by decide)]
  exact h
/-- a change of one arm -/
theorem Rep.of_arm {x x' : Mem} {c N a : Nat} {A A' : St} (hR : Rep x c A N) (hx : ∀ k i s, ¬ ((k = 0 ∨ k = 1) ∧ i = a) → x' k c i s = x k c i s) (h1 : ∀ k s, ¬ (110 ≤ k ∧ k ≤ 121) → A' k s = A k s) (h2 : ∀ k b, b < 3 → b ≠ a → 110 ≤ k → k ≤ 121 → k ≠ 112 → A' k b = A k b) (h3 : ∀ b k, b < 3 → b ≠ a → k < (A 111 b).toNatClampNeg → A' 112 (30 * b + k) = A 112 (30 * b + k)) (hn : a < 3 → RArm x' c A' a) : Rep x' c A' N := by
  obtain ⟨r1, r2, r3, r4, r5, r6⟩ := hR
  refine ⟨r1.kp (fun s => hx _ _ _ (by omega)) (fun s _ _ => h1 _ _ (by omega)), r2.kp (hx _ _ _ (by omega)) (fun s => hx _ _ _ (by omega)) (fun s => hx _ _ _ (by omega)) (fun s => h1 _ _ (by omega)) (fun s => h1 _ _ (by omega)), r3.kp (fun s => hx _ _ _ (by omega)) (fun s => hx _ _ _ (by omega)) (h1 _ _ (by omega)) (h1 _ _ (by omega)) (fun s => h1 _ _ (by omega)), fun b q => ?_, fun b q => (r5 b q).kp (fun s => hx _ _ _ (by omega)) (fun s => hx _ _ _ (by omega)) (fun k _ _ _ => h1 _ _ (by omega)) (fun k _ => h1 _ _ (by omega)), fun j q => ?_⟩
  · by_cases e : b = a
    · subst e
      exact hn q
    · exact (r4 b q).kp (fun s => hx _ _ _ (fun w => e w.2)) (fun s => hx _ _ _ (fun w => e w.2)) (fun k u v w => h2 k b q e u v w) (fun k w => h3 b k q e w) (hold_kp (h2 _ b q e (by decide) (by decide) (by decide)) (h2 _ b q e (by decide) (by decide) (by decide)) (h2 _ b q e (by decide) (by decide) (by decide)) (h1 _ _ (by omega)) (h1 _ _ (by omega)))
  · rw [h1 40 34 (by omega)] at q
    exact (r6 j q).kp (fun s => hx _ _ _ (by omega)) (fun k _ _ => h1 _ _ (by omega))
/-- a change of one buffer -/
theorem Rep.of_sto {x x' : Mem} {c N b : Nat} {A A' : St} (hR : Rep x c A N) (hx : ∀ k i s, ¬ ((k = 9 ∨ k = 10) ∧ i = b) → x' k c i s = x k c i s) (h1 : ∀ k s, ¬ (103 ≤ k ∧ k ≤ 109) → A' k s = A k s) (h2 : ∀ k d, d < 3 → d ≠ b → 103 ≤ k → k ≤ 109 → k ≠ 105 → A' k d = A k d) (h3 : ∀ d k, d < 3 → d ≠ b → k < (A 104 d).toNatClampNeg → A' 105 (4 * d + k) = A 105 (4 * d + k)) (hn : b < 3 → RSto x' c A' b) : Rep x' c A' N := by
  obtain ⟨r1, r2, r3, r4, r5, r6⟩ := hR
  refine ⟨r1.kp (fun s => hx _ _ _ (by omega)) (fun s _ _ => h1 _ _ (by omega)), r2.kp (hx _ _ _ (by omega)) (fun s => hx _ _ _ (by omega)) (fun s => hx _ _ _ (by omega)) (fun s => h1 _ _ (by omega)) (fun s => h1 _ _ (by omega)), r3.kp (fun s => hx _ _ _ (by omega)) (fun s => hx _ _ _ (by omega)) (h1 _ _ (by omega)) (h1 _ _ (by omega)) (fun s => h1 _ _ (by omega)), fun a q => (r4 a q).kp (fun s => hx _ _ _ (by omega)) (fun s => hx _ _ _ (by omega)) (fun k _ _ _ => h1 _ _ (by omega)) (fun k _ => h1 _ _ (by omega)) (hold_kp (h1 _ _ (by omega)) (h1 _ _ (by omega)) (h1 _ _ (by omega)) (h1 _ _ (by omega)) (h1 _ _ (by omega))), fun d q => ?_, fun j q => ?_⟩
  · by_cases e : d = b
    · subst e
      exact hn q
    · exact (r5 d q).kp (fun s => hx _ _ _ (fun w => e w.2)) (fun s => hx _ _ _ (fun w => e w.2)) (fun k u v w => h2 k d q e u v w) (fun k w => h3 d k q e w)
  · rw [h1 40 34 (by omega)] at q
    exact (r6 j q).kp (fun s => hx _ _ _ (by omega)) (fun k _ _ => h1 _ _ (by omega))
/-- a change of one job's state and times -/
theorem Rep.of_job {x x' : Mem} {c N j : Nat} {A A' : St} (hR : Rep x c A N) (hx : ∀ k i s, ¬ (k = 12 ∧ i = j) → x' k c i s = x k c i s) (h1 : ∀ k s, ¬ (129 ≤ k ∧ k ≤ 131 ∧ s = j) → A' k s = A k s) (hn : j < (A 40 34).toNatClampNeg → RJob x' c A' j) : Rep x' c A' N := by
  obtain ⟨r1, r2, r3, r4, r5, r6⟩ := hR
  refine ⟨r1.kp (fun s => hx _ _ _ (by omega)) (fun s _ _ => h1 _ _ (by omega)), r2.kp (hx _ _ _ (by omega)) (fun s => hx _ _ _ (by omega)) (fun s => hx _ _ _ (by omega)) (fun s => h1 _ _ (by omega)) (fun s => h1 _ _ (by omega)), r3.kp (fun s => hx _ _ _ (by omega)) (fun s => hx _ _ _ (by omega)) (h1 _ _ (by omega)) (h1 _ _ (by omega)) (fun s => h1 _ _ (by omega)), fun a q => (r4 a q).kp (fun s => hx _ _ _ (by omega)) (fun s => hx _ _ _ (by omega)) (fun k _ _ _ => h1 _ _ (by omega)) (fun k _ => h1 _ _ (by omega)) (hold_kp (h1 _ _ (by omega)) (h1 _ _ (by omega)) (h1 _ _ (by omega)) (h1 _ _ (by omega)) (h1 _ _ (by omega))), fun d q => (r5 d q).kp (fun s => hx _ _ _ (by omega)) (fun s => hx _ _ _ (by omega)) (fun k _ _ _ => h1 _ _ (by omega)) (fun k _ => h1 _ _ (by omega)), fun i q => ?_⟩
  rw [h1 40 34 (by omega)] at q
  by_cases e : i = j
  · subst e
    exact hn q
  · exact (r6 i q).kp (fun s => hx _ _ _ (by omega)) (fun k _ _ => h1 _ _ (by omega))
/-- a change of the log -/
theorem Rep.of_log {x x' : Mem} {c N N' : Nat} {A A' : St} (hR : Rep x c A N) (hx : ∀ k i s, ¬ (k = 6 ∨ k = 7) → x' k c i s = x k c i s) (h1 : ∀ k s, ¬ (k = 132 ∨ (k = 40 ∧ s = 40)) → A' k s = A k s) (hn : RLog x' c A' N') : Rep x' c A' N' := by
  obtain ⟨r1, r2, r3, r4, r5, r6⟩ := hR
  refine ⟨r1.kp (fun s => hx _ _ _ (by omega)) (fun s _ _ => h1 _ _ (by omega)), r2.kp (hx _ _ _ (by omega)) (fun s => hx _ _ _ (by omega)) (fun s => hx _ _ _ (by omega)) (fun s => h1 _ _ (by omega)) (fun s => h1 _ _ (by omega)), hn, fun a q => (r4 a q).kp (fun s => hx _ _ _ (by omega)) (fun s => hx _ _ _ (by omega)) (fun k _ _ _ => h1 _ _ (by omega)) (fun k _ => h1 _ _ (by omega)) (hold_kp (h1 _ _ (by omega)) (h1 _ _ (by omega)) (h1 _ _ (by omega)) (h1 _ _ (by omega)) (h1 _ _ (by omega))), fun d q => (r5 d q).kp (fun s => hx _ _ _ (by omega)) (fun s => hx _ _ _ (by omega)) (fun k _ _ _ => h1 _ _ (by omega)) (fun k _ => h1 _ _ (by omega)), fun j q => ?_⟩
  rw [h1 40 34 (by omega)] at q
  exact (r6 j q).kp (fun s => hx _ _ _ (by omega)) (fun k _ _ => h1 _ _ (by omega))
/-- a change of the numbers of the cell: time, ended, withdrawn, gone, durations, new parts -/
theorem Rep.of_sca {x x' : Mem} {c N N' : Nat} {A A' : St} (hR : Rep x c A N) (hx : ∀ k i s, k ≠ 2 → x' k c i s = x k c i s) (h1 : ∀ k s, ¬ (k = 40 ∧ s ≤ 39 ∧ s ≠ 34) → A' k s = A k s) (hn : RSca x' c A') (hN : N ≤ N') (hP : ∃ P : Nat, P ≤ N' ∧ A' 40 35 = Int32.ofNat P) : Rep x' c A' N' := by
  obtain ⟨r1, r2, ⟨-, M, g1, g2, g3, g4⟩, r4, r5, r6⟩ := hR
  refine ⟨hn, r2.kp (hx _ _ _ (by omega)) (fun s => hx _ _ _ (by omega)) (fun s => hx _ _ _ (by omega)) (fun s => h1 _ _ (by omega)) (fun s => h1 _ _ (by omega)), ⟨hP, M, by omega, (hx _ _ _ (by omega)).trans g2, (h1 _ _ (by omega)).trans g3, fun i w q r => by rw [h1 132 _ (by omega), hx 7 _ _ (by omega)]; exact g4 i w q r⟩, fun a q => (r4 a q).kp (fun s => hx _ _ _ (by omega)) (fun s => hx _ _ _ (by omega)) (fun k _ _ _ => h1 _ _ (by omega)) (fun k _ => h1 _ _ (by omega)) (hold_kp (h1 _ _ (by omega)) (h1 _ _ (by omega)) (h1 _ _ (by omega)) (h1 _ _ (by omega)) (h1 _ _ (by omega))), fun d q => (r5 d q).kp (fun s => hx _ _ _ (by omega)) (fun s => hx _ _ _ (by omega)) (fun k _ _ _ => h1 _ _ (by omega)) (fun k _ => h1 _ _ (by omega)), fun j q => ?_⟩
  rw [h1 40 34 (by omega)] at q
  exact (r6 j q).kp (fun s => hx _ _ _ (by omega)) (fun k _ _ => h1 _ _ (by omega))
/-- a change of the zones' row -/
theorem Rep.of_zon {x x' : Mem} {c N : Nat} {A A' : St} (hR : Rep x c A N) (hx : ∀ k i s, ¬ (3 ≤ k ∧ k ≤ 5) → x' k c i s = x k c i s) (h1 : ∀ k s, ¬ (k = 101 ∨ k = 102) → A' k s = A k s) (hn : RZon x' c A') : Rep x' c A' N := by
  obtain ⟨r1, r2, r3, r4, r5, r6⟩ := hR
  refine ⟨r1.kp (fun s => hx _ _ _ (by omega)) (fun s _ _ => h1 _ _ (by omega)), hn, r3.kp (fun s => hx _ _ _ (by omega)) (fun s => hx _ _ _ (by omega)) (h1 _ _ (by omega)) (h1 _ _ (by omega)) (fun s => h1 _ _ (by omega)), fun a q => (r4 a q).kp (fun s => hx _ _ _ (by omega)) (fun s => hx _ _ _ (by omega)) (fun k _ _ _ => h1 _ _ (by omega)) (fun k _ => h1 _ _ (by omega)) (hold_kp (h1 _ _ (by omega)) (h1 _ _ (by omega)) (h1 _ _ (by omega)) (h1 _ _ (by omega)) (h1 _ _ (by omega))), fun d q => (r5 d q).kp (fun s => hx _ _ _ (by omega)) (fun s => hx _ _ _ (by omega)) (fun k _ _ _ => h1 _ _ (by omega)) (fun k _ => h1 _ _ (by omega)), fun j q => ?_⟩
  rw [h1 40 34 (by omega)] at q
  exact (r6 j q).kp (fun s => hx _ _ _ (by omega)) (fun k _ _ => h1 _ _ (by omega))
