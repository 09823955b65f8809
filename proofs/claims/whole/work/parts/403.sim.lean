/-! the copies taken back -/
def mnB (k s : Nat) : Bool := decide ((k = 40 ∧ 33 ≤ s ∧ s ≤ 40) ∨ (101 ≤ k ∧ k ≤ 132 ∧ s < szS k))
theorem mnB_iff {k s : Nat} : mnB k s = true ↔ mn k s := decide_eq_true_iff
set_option maxRecDepth 100000 in
theorem kO_dec : (∀ k, k < 133 → 101 ≤ k → ∀ s, s < szS k → kO (offS k + s) = (k, s) ∧ offS k + s < 573) ∧ ∀ s, s < 41 → 33 ≤ s → kO (offS 40 + s) = (40, s) ∧ offS 40 + s < 573 := by decide +kernel
theorem kO_off {k s : Nat} (h : mn k s) : kO (offS k + s) = (k, s) ∧ offS k + s < 573 := by
  rcases h with ⟨rfl, h1, h2⟩ | ⟨h1, h2, h3⟩
  · exact kO_dec.2 s (by omega) h1
  · exact kO_dec.1 k (by omega) h1 s h3
theorem mn_K {k s : Nat} (h : mn k s) : k < 133 := by
  rcases h with ⟨rfl, _⟩ | ⟨_, h, _⟩ <;> omega
theorem mn_40 {s : Nat} (h : mn 40 s) : 33 ≤ s ∧ s ≤ 40 := by
  rcases h with ⟨_, h⟩ | ⟨h, _⟩
  · exact h
  · omega
def tkm (y : Mem) (K W L : Nat) : Mem := fun k c i s => if c = 0 ∧ i = 0 ∧ mnB k s = true ∧ offS k + s < L then y K 0 0 (W + (offS k + s)) else up4 y 40 0 0 62 0 k c i s
theorem tkm_in {y : Mem} {K W L k s : Nat} (h1 : mn k s) (h2 : offS k + s < L) : tkm y K W L k 0 0 s = y K 0 0 (W + (offS k + s)) := by
  unfold tkm
  rw [if_pos ⟨rfl, rfl, mnB_iff.mpr h1, h2⟩]
theorem tkm_out {y : Mem} {K W L k c i s : Nat} (h : ¬ (c = 0 ∧ i = 0 ∧ mn k s ∧ offS k + s < L)) : tkm y K W L k c i s = up4 y 40 0 0 62 0 k c i s := by
  unfold tkm
  rw [if_neg (fun q => h ⟨q.1, q.2.1, mnB_iff.mp q.2.2.1, q.2.2.2⟩)]
theorem tkm_0 {y : Mem} {K W : Nat} : tkm y K W 0 = up4 y 40 0 0 62 0 := by
  funext k c i s
  exact tkm_out (by omega)
theorem tkm_K {y : Mem} {K W L c i s : Nat} (hK : 155 ≤ K) : tkm y K W L K c i s = y K c i s := by
  rw [tkm_out (fun q => by have := mn_K q.2.2.1; omega), up4_ne (by omega)]
theorem tkm_step {y : Mem} {K W L k n : Nat} (hk : k ≠ 40) (hl : ∀ s, s < n → kO (L + s) = (k, s)) (hm : ∀ s, s < n → mnB k s = true) (ho : offS k = L) : blk (tkm y K W L) k 0 n (fun s => y K 0 0 (W + L + s)) = tkm y K W (L + n) := by
  funext k' c i s
  by_cases h : k' = k ∧ c = 0 ∧ i = 0 ∧ s < n
  · obtain ⟨rfl, rfl, rfl, h4⟩ := h
    rw [blk_in (Nat.zero_le _) (by omega), tkm_in (mnB_iff.mp (hm s h4)) (by omega)]
    show y K 0 0 (W + L + (s - 0)) = _
    rw [ho, Nat.sub_zero, Nat.add_assoc]
  · rw [blk_out (fun q => h ⟨q.1, q.2.1, q.2.2.1, by omega⟩)]
    by_cases h2 : c = 0 ∧ i = 0 ∧ mn k' s
    · obtain ⟨rfl, rfl, h3⟩ := h2
      by_cases h4 : offS k' + s < L
      · rw [tkm_in h3 h4, tkm_in h3 (by omega)]
      · rw [tkm_out (fun q => h4 q.2.2.2), tkm_out]
        intro q
        have e1 := (kO_off h3).1
        have e2 := hl (offS k' + s - L) (by omega)
        rw [show L + (offS k' + s - L) = offS k' + s by omega, e1] at e2
        have e3 : k' = k ∧ s = offS k' + s - L := ⟨congrArg Prod.fst e2, congrArg Prod.snd e2⟩
        exact h ⟨e3.1, rfl, rfl, by omega⟩
    · rw [tkm_out (fun q => h2 ⟨q.1, q.2.1, q.2.2.1⟩), tkm_out (fun q => h2 ⟨q.1, q.2.1, q.2.2.1⟩)]
def ZT (y : Mem) (K W L : Nat) : Mem := up4 (tkm y K W L) 40 0 0 60 (Int32.ofNat (W + L))
theorem ZT_62 {y : Mem} {K W L : Nat} : ZT y K W L 40 0 0 62 = 0 := by
  unfold ZT
  rw [up4_ne (by decide), tkm_out (fun q => by have := mn_40 q.2.2.1; omega), up4_eq]
theorem ZT_K {y : Mem} {K W L c i s : Nat} (hK : 155 ≤ K) : ZT y K W L K c i s = y K c i s := by
  unfold ZT
  rw [up4_ne (by omega), tkm_K hK]
theorem ZT_step {y : Mem} {K W L k n N : Nat} (hK2 : 155 ≤ K) (hkK : k ≠ K) (hk : k ≠ 40) (hN : N < 2 ^ 31) (hC : W + L + n ≤ N) (hn : n < 4000) (hl : ∀ s, s < n → kO (L + s) = (k, s)) (hm : ∀ s, s < n → mnB k s = true) (ho : offS k = L) : m_X12_passes (k, 0, 0) n (K, 0, 0) N (ZT y K W L) = some (ZT y K W (L + n)) := by
  have hK : K ≠ 40 := by omega
  rw [tp_ hkK hk hK hC hN hn (show ZT y K W L 40 0 0 60 = _ from up4_eq) ZT_62]
  have e : (fun s => ZT y K W L K 0 0 (W + L + s)) = fun s => y K 0 0 (W + L + s) := by funext s; exact ZT_K hK2
  rw [e]
  unfold ZT
  rw [blk_up (Ne.symm hk), up4_up, tkm_step hk hl hm ho, Nat.add_assoc]
theorem tkm_one {y : Mem} {K W L sl : Nat} (hl : kO L = (40, sl)) (hm : mn 40 sl) (ho : offS 40 + sl = L) : up4 (tkm y K W L) 40 0 0 sl (y K 0 0 (W + L)) = tkm y K W (L + 1) := by
  funext k' c i s
  rw [up4_at]
  by_cases h : k' = 40 ∧ c = 0 ∧ i = 0 ∧ s = sl
  · rw [if_pos h]
    obtain ⟨rfl, rfl, rfl, rfl⟩ := h
    rw [tkm_in hm (by omega), ho]
  · rw [if_neg h]
    by_cases h2 : c = 0 ∧ i = 0 ∧ mn k' s
    · obtain ⟨rfl, rfl, h3⟩ := h2
      by_cases h4 : offS k' + s < L
      · rw [tkm_in h3 h4, tkm_in h3 (by omega)]
      · rw [tkm_out (fun q => h4 q.2.2.2), tkm_out]
        intro q
        have e1 := (kO_off h3).1
        rw [show offS k' + s = L by omega, hl] at e1
        exact h ⟨(congrArg Prod.fst e1).symm, rfl, rfl, (congrArg Prod.snd e1).symm⟩
    · rw [tkm_out (fun q => h2 ⟨q.1, q.2.1, q.2.2.1⟩), tkm_out (fun q => h2 ⟨q.1, q.2.1, q.2.2.1⟩)]
theorem ZT_one {y : Mem} {K W L sl N : Nat} (hK2 : 155 ≤ K) (hN : N < 2 ^ 31) (hC : W + L + 1 ≤ N) (hs : sl ≠ 60 ∧ sl ≠ 62) (hl : kO L = (40, sl)) (hm : mnB 40 sl = true) (ho : offS 40 + sl = L) (v : Int32) {β : Type} (f : Mem → Option β) : (bd2_ (m_X12_pass v (K, 0, 0) N (ZT y K W L)) fun r z => lt_ (up4 z 40 0 0 sl r) fun z1 => f z1) = f (ZT y K W (L + 1)) := by
  have hK : K ≠ 40 := by omega
  have e60 : ZT y K W L 40 0 0 60 = Int32.ofNat (W + L) := up4_eq
  unfold m_X12_pass
  rw [if_pos ZT_62, e60, gd_n (show W + L < N by omega) hN]
  unfold m_X12_pass_j17
  rw [e_lt, e60, gd_n (show W + L < N by omega) hN, e_lt, e_lt, e_bd2, e_lt, tn (show W + L < 2 ^ 31 by omega)]
  congr 1
  show up4 (up4 (up4 (ZT y K W L) K 0 0 (W + L) (ZT y K W L K 0 0 (W + L))) 40 0 0 60 (up4 (ZT y K W L) K 0 0 (W + L) (ZT y K W L K 0 0 (W + L)) 40 0 0 60 + 1)) 40 0 0 sl (ZT y K W L K 0 0 (W + L)) = _
  rw [up4_self, e60, n1, ZT_K hK2]
  unfold ZT
  rw [up4_up, up4_comm (fun q => hs.1 q.2), tkm_one hl (mnB_iff.mp hm) ho, Nat.add_assoc]
theorem ZT_arms {y : Mem} {K W N : Nat} (hK2 : 155 ≤ K) (hN : N < 2 ^ 31) (hW : W + 573 ≤ N) : m_X12_passArms (K, 0, 0) N (ZT y K W 46) = some (ZT y K W 169) := by
  unfold m_X12_passArms
  rw [ZT_step (k := 110) (n := 3) (L := 46) hK2 (by omega) (by decide) hN (by omega) (by decide) (by decide) (by decide) (by decide), e_bd]
  rw [ZT_step (k := 111) (n := 3) (L := 49) hK2 (by omega) (by decide) hN (by omega) (by decide) (by decide) (by decide) (by decide), e_bd]
  rw [ZT_step (k := 112) (n := 90) (L := 52) hK2 (by omega) (by decide) hN (by omega) (by decide) (by decide) (by decide) (by decide), e_bd]
  rw [ZT_step (k := 113) (n := 3) (L := 142) hK2 (by omega) (by decide) hN (by omega) (by decide) (by decide) (by decide) (by decide), e_bd]
  rw [ZT_step (k := 114) (n := 3) (L := 145) hK2 (by omega) (by decide) hN (by omega) (by decide) (by decide) (by decide) (by decide), e_bd]
  rw [ZT_step (k := 115) (n := 3) (L := 148) hK2 (by omega) (by decide) hN (by omega) (by decide) (by decide) (by decide) (by decide), e_bd]
  rw [ZT_step (k := 116) (n := 3) (L := 151) hK2 (by omega) (by decide) hN (by omega) (by decide) (by decide) (by decide) (by decide), e_bd]
  rw [ZT_step (k := 117) (n := 3) (L := 154) hK2 (by omega) (by decide) hN (by omega) (by decide) (by decide) (by decide) (by decide), e_bd]
  rw [ZT_step (k := 118) (n := 3) (L := 157) hK2 (by omega) (by decide) hN (by omega) (by decide) (by decide) (by decide) (by decide), e_bd]
  rw [ZT_step (k := 119) (n := 3) (L := 160) hK2 (by omega) (by decide) hN (by omega) (by decide) (by decide) (by decide) (by decide), e_bd]
  rw [ZT_step (k := 120) (n := 3) (L := 163) hK2 (by omega) (by decide) hN (by omega) (by decide) (by decide) (by decide) (by decide), e_bd]
  rw [ZT_step (k := 121) (n := 3) (L := 166) hK2 (by omega) (by decide) hN (by omega) (by decide) (by decide) (by decide) (by decide), e_bd]
theorem ZT_jobs {y : Mem} {K W N : Nat} (hK2 : 155 ≤ K) (hN : N < 2 ^ 31) (hW : W + 573 ≤ N) : m_X12_passJobs (K, 0, 0) N (ZT y K W 169) = some (ZT y K W 469) := by
  unfold m_X12_passJobs
  rw [ZT_step (k := 122) (n := 30) (L := 169) hK2 (by omega) (by decide) hN (by omega) (by decide) (by decide) (by decide) (by decide), e_bd]
  rw [ZT_step (k := 123) (n := 30) (L := 199) hK2 (by omega) (by decide) hN (by omega) (by decide) (by decide) (by decide) (by decide), e_bd]
  rw [ZT_step (k := 124) (n := 30) (L := 229) hK2 (by omega) (by decide) hN (by omega) (by decide) (by decide) (by decide) (by decide), e_bd]
  rw [ZT_step (k := 125) (n := 30) (L := 259) hK2 (by omega) (by decide) hN (by omega) (by decide) (by decide) (by decide) (by decide), e_bd]
  rw [ZT_step (k := 126) (n := 30) (L := 289) hK2 (by omega) (by decide) hN (by omega) (by decide) (by decide) (by decide) (by decide), e_bd]
  rw [ZT_step (k := 127) (n := 30) (L := 319) hK2 (by omega) (by decide) hN (by omega) (by decide) (by decide) (by decide) (by decide), e_bd]
  rw [ZT_step (k := 128) (n := 30) (L := 349) hK2 (by omega) (by decide) hN (by omega) (by decide) (by decide) (by decide) (by decide), e_bd]
  rw [ZT_step (k := 129) (n := 30) (L := 379) hK2 (by omega) (by decide) hN (by omega) (by decide) (by decide) (by decide) (by decide), e_bd]
  rw [ZT_step (k := 130) (n := 30) (L := 409) hK2 (by omega) (by decide) hN (by omega) (by decide) (by decide) (by decide) (by decide), e_bd]
  rw [ZT_step (k := 131) (n := 30) (L := 439) hK2 (by omega) (by decide) hN (by omega) (by decide) (by decide) (by decide) (by decide), e_bd]
theorem take_all {y : Mem} {K W N : Nat} (hK2 : 155 ≤ K) (hN : N < 2 ^ 31) (hW : W + 573 ≤ N) : m_X12_passAll (K, 0, 0) N (Int32.ofNat W) 0 y = some (ZT y K W 573) := by
  unfold m_X12_passAll
  rw [e_gb0, e_lt, e_lt]
  have e0 : up4 (up4 y 40 0 0 62 0) 40 0 0 60 (Int32.ofNat W) = ZT y K W 0 := by unfold ZT; rw [tkm_0]; rfl
  rw [e0]
  rw [ZT_step (k := 101) (n := 8) (L := 0) hK2 (by omega) (by decide) hN (by omega) (by decide) (by decide) (by decide) (by decide), e_bd]
  rw [ZT_step (k := 102) (n := 8) (L := 8) hK2 (by omega) (by decide) hN (by omega) (by decide) (by decide) (by decide) (by decide), e_bd]
  rw [ZT_step (k := 103) (n := 3) (L := 16) hK2 (by omega) (by decide) hN (by omega) (by decide) (by decide) (by decide) (by decide), e_bd]
  rw [ZT_step (k := 104) (n := 3) (L := 19) hK2 (by omega) (by decide) hN (by omega) (by decide) (by decide) (by decide) (by decide), e_bd]
  rw [ZT_step (k := 105) (n := 12) (L := 22) hK2 (by omega) (by decide) hN (by omega) (by decide) (by decide) (by decide) (by decide), e_bd]
  rw [ZT_step (k := 106) (n := 3) (L := 34) hK2 (by omega) (by decide) hN (by omega) (by decide) (by decide) (by decide) (by decide), e_bd]
  rw [ZT_step (k := 107) (n := 3) (L := 37) hK2 (by omega) (by decide) hN (by omega) (by decide) (by decide) (by decide) (by decide), e_bd]
  rw [ZT_step (k := 108) (n := 3) (L := 40) hK2 (by omega) (by decide) hN (by omega) (by decide) (by decide) (by decide) (by decide), e_bd]
  rw [ZT_step (k := 109) (n := 3) (L := 43) hK2 (by omega) (by decide) hN (by omega) (by decide) (by decide) (by decide) (by decide), e_bd]
  rw [ZT_arms hK2 hN hW, e_bd, ZT_jobs hK2 hN hW, e_bd]
  rw [ZT_step (k := 132) (n := 96) (L := 469) hK2 (by omega) (by decide) hN (by omega) (by decide) (by decide) (by decide) (by decide), e_bd]
  rw [ZT_one (sl := 33) (L := 565) hK2 hN (by omega) (by decide) (by decide) (by decide) (by decide)]
  rw [ZT_one (sl := 34) (L := 566) hK2 hN (by omega) (by decide) (by decide) (by decide) (by decide)]
  rw [ZT_one (sl := 35) (L := 567) hK2 hN (by omega) (by decide) (by decide) (by decide) (by decide)]
  rw [ZT_one (sl := 36) (L := 568) hK2 hN (by omega) (by decide) (by decide) (by decide) (by decide)]
  rw [ZT_one (sl := 37) (L := 569) hK2 hN (by omega) (by decide) (by decide) (by decide) (by decide)]
  rw [ZT_one (sl := 38) (L := 570) hK2 hN (by omega) (by decide) (by decide) (by decide) (by decide)]
  rw [ZT_one (sl := 39) (L := 571) hK2 hN (by omega) (by decide) (by decide) (by decide) (by decide)]
  rw [ZT_one (sl := 40) (L := 572) hK2 hN (by omega) (by decide) (by decide) (by decide) (by decide)]
/-! what the copies hold -/
theorem ZK_V {y : Mem} {K W L : Nat} (hK : 155 ≤ K) : Agr (V y) (V (ZK y K W L)) := by
  intro k s h
  have h1 := mn_K h
  show y k 0 0 s = ZK y K W L k 0 0 s
  unfold ZK
  rw [up4_ne (fun q => by rw [q.1] at h; have := mn_40 h; omega), blk_out (by omega), up4_ne (fun q => by rw [q.1] at h; have := mn_40 h; omega)]
theorem ZK_Sl {y : Mem} {K W : Nat} (hK : 155 ≤ K) : Agr (V y) (Sl (ZK y K W 573) K W) := by
  intro k s h
  show y k 0 0 s = ZK y K W 573 K 0 0 (W + offS k + s)
  have h2 := kO_off h
  unfold ZK
  rw [up4_ne (by omega), blk_in (by omega) (by omega), show W + offS k + s - W = offS k + s by omega]
  unfold lin
  rw [h2.1]
theorem ZK_oS {y : Mem} {K W L w : Nat} (hK : 155 ≤ K) (h : w + 573 ≤ W ∨ W + L ≤ w) : Agr (Sl y K w) (Sl (ZK y K W L) K w) := by
  intro k s h1
  have h2 := (kO_off h1).2
  show y K 0 0 (w + offS k + s) = ZK y K W L K 0 0 (w + offS k + s)
  unfold ZK
  rw [up4_ne (by omega), blk_out (by omega), up4_ne (by omega)]
theorem ZK_o {y : Mem} {K W L k : Nat} (h1 : k ≠ K) (h2 : k ≠ 40) : ZK y K W L k = y k := by
  funext c i s
  unfold ZK
  rw [up4_ne (fun q => h2 q.1), blk_out (fun q => h1 q.1), up4_ne (fun q => h2 q.1)]
theorem ZK_40 {y : Mem} {K W L s : Nat} (hK : 155 ≤ K) (h : s ≠ 60 ∧ s ≠ 62) : ZK y K W L 40 0 0 s = y 40 0 0 s := by
  unfold ZK
  rw [up4_ne (fun q => h.1 q.2.2.2), blk_out (by omega), up4_ne (fun q => h.2 q.2.2.2)]
theorem ZT_V {y : Mem} {K W : Nat} : Agr (Sl y K W) (V (ZT y K W 573)) := by
  intro k s h
  have h2 := (kO_off h).2
  show y K 0 0 (W + offS k + s) = ZT y K W 573 k 0 0 s
  unfold ZT
  rw [up4_ne (fun q => by rw [q.1] at h; have := mn_40 h; omega), tkm_in h h2, Nat.add_assoc]
theorem ZT_o {y : Mem} {K W L k : Nat} (h1 : 133 ≤ k) : ZT y K W L k = y k := by
  funext c i s
  unfold ZT
  rw [up4_ne (by omega), tkm_out (fun q => by have := mn_K q.2.2.1; omega), up4_ne (by omega)]
theorem ZT_40 {y : Mem} {K W L s : Nat} (h : s ≠ 60 ∧ s ≠ 62) (h2 : s < 33 ∨ 40 < s) : ZT y K W L 40 0 0 s = y 40 0 0 s := by
  unfold ZT
  rw [up4_ne (fun q => h.1 q.2.2.2), tkm_out (fun q => by have := mn_40 q.2.2.1; omega), up4_ne (fun q => h.2 q.2.2.2)]
