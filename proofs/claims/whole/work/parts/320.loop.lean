theorem idx_le {L i : Nat} (hL : L ≤ 3584) (hi : i ≤ 512) (h : ¬ (Int32.ofNat L - 7 < Int32.ofNat (7 * i))) : 7 * i + 7 ≤ L := by
  have e1 : (Int32.ofNat L).toInt = (L : Int) := Int32.toInt_ofNat_of_lt (by omega)
  have e2 : (Int32.ofNat (7 * i)).toInt = ((7 * i : Nat) : Int) := Int32.toInt_ofNat_of_lt (by omega)
  have e3 : (Int32.ofNat L - 7).toInt = (L : Int) - 7 := by
    rw [Int32.toInt_sub, e1, show (7 : Int32).toInt = 7 from rfl]
    exact Int.bmod_eq_of_le (by omega) (by omega)
  rw [Int32.lt_iff_toInt_lt, e2, e3] at h
  omega
theorem idx_in {L i k : Nat} (hL : L ≤ 3584) (h : 7 * i + 7 ≤ L) (hk : k < 7) : vp_in (Int32.ofNat (7 * i) + Int32.ofNat k) L := by
  have e : Int32.ofNat (7 * i) + Int32.ofNat k = Int32.ofNat (7 * i + k) := by rw [Int32.ofNat_add]
  have e2 : (Int32.ofNat (7 * i + k)).toInt = ((7 * i + k : Nat) : Int) := Int32.toInt_ofNat_of_lt (by omega)
  rw [e]
  rintro (a | a)
  · rw [Int32.lt_iff_toInt_lt, e2] at a
    have : (0 : Int32).toInt = 0 := rfl
    omega
  · rw [show (Int32.ofNat (7 * i + k)).toNatClampNeg = 7 * i + k from by rw [Int32.toNatClampNeg, e2]; rfl] at a
    omega
theorem idx_next (i : Nat) : Int32.ofNat (7 * i) + Int32.ofInt 7 = Int32.ofNat (7 * (i + 1)) := by
  rw [show Int32.ofInt 7 = Int32.ofNat 7 from rfl, ← Int32.ofNat_add, Nat.mul_add]
def SimAll (Rel : Nat → Mem → Mem → Prop) : Prop := (∀ i x y, i < 512 → Rel i x y → Rel (i + 1) x y) ∧ Sim_setInterlock Rel ∧ Sim_setReach Rel ∧ Sim_setCapacity Rel ∧ Sim_supply Rel ∧ Sim_zone Rel ∧ Sim_buffer Rel ∧ Sim_part Rel ∧ Sim_give Rel ∧ Sim_withdraw Rel ∧ Sim_job Rel ∧ Sim_arm Rel ∧ Sim_waiting Rel ∧ Sim_tick Rel ∧ Sim_reason Rel ∧ Sim_wouldBe Rel ∧ Sim_endsAfter Rel ∧ Sim_idleAfter Rel ∧ Sim_isSafe Rel ∧ Sim_entry Rel ∧ Sim_account Rel ∧ Sim_use Rel ∧ Sim_meanDuration Rel ∧ Sim_feed Rel ∧ Sim_perform Rel ∧ Sim_undo Rel ∧ Sim_save Rel ∧ Sim_restore Rel
set_option maxHeartbeats 4000000 in
set_option maxRecDepth 100000 in
theorem law_loop {p : Program} {l : Launch} {e : Env} {s : State} {m : MethodId} {below : List Frame} {meth : Method} {c : Code} {b L : Nat} (hx : p.tables.exec = Jvm.exec) (hb : c.code = code) (hml : c.maxLocals = 9) (hown : s.vm.findClass RL = some m.cls) (htg : ∀ w ∈ wsG, w.before #[Value.ref b] s = true) (hst : l.stackTraces = false) {G : Geo} (hXt : Xt s) (hK : Kt G s) (hZ0 : Zt G s s.heap) {xs : Nat → Int32} (hX : va_X b L xs s s.heap) (hbl : b < s.heap.size) {oJ oD : Nat} (hw : Ow G oJ oD) (hA0 : ∀ q, gW G oJ oD q → s.heap.size ≤ q) (hGA : ∀ q, s.heap.size ≤ q → q ≠ oJ → q ≠ oD → gF G q) {Rel : Nat → Mem → Mem → Prop}  (hr : meth.sig.returnType = ret) (hlocks : meth.locks = false) (hL : L ≤ 3584) (hsim : SimAll Rel) : ∀ (n i : Nat), n + i = 513 → i ≤ 512 → ∀ (x y : Mem) (H : Heap) (locs : List Loc) (ls : Array Slot) (vj : Int64) (vd : UInt64) (cells slots : Nat), cells + 3 * n ≤ 603072 → slots + 18 * n ≤ 7202922 → Rel i x y → Wh G x y H → Oh G oJ oD vj vd H → va_S (LA s) s.heap H locs → lv_has ls 9 [(0, .ref b), (1, .ref (gA G 14 0 0)), (2, .ref (gA G 40 0 0)), (3, .ref oJ), (4, .ref oD), (5, .int (Int32.ofNat (7 * i)))] → W p l e room_1 s m #[Value.ref b] below meth c H locs cells slots (lw_Z below #[Value.ref b] s) (F0 m 28 ls []) := by
  intro n
  induction n with
  | zero => intro i h1 h2; omega
  | succ n ih =>
    intro i h1 h2 x y H locs ls vj vd cells slots hc1 hc2 hR hW hO hS hl
    obtain ⟨hmono, s_setInterlock, s_setReach, s_setCapacity, s_supply, s_zone, s_buffer, s_part, s_give, s_withdraw, s_job, s_arm, s_waiting, s_tick, s_reason, s_wouldBe, s_endsAfter, s_idleAfter, s_isSafe, s_entry, s_account, s_use, s_meanDuration, s_feed, s_perform, s_undo, s_save, s_restore⟩ := hsim
    have hbA : ¬ LA s b := Nat.not_le.mpr hbl
    refine lv_iload hx hb dL_law_28 (lv_at hl 5 rfl) ?_
    refine lv_aload_n hx hb dL_law_30 rfl (lv_at hl 0 rfl) ?_
    refine va_slen hx hb hX hbl hbA hS dL_law_31 ?_
    refine lv_bipush (v := (7 : Int32)) hx hb dL_law_32 (by decide) ?_
    refine lv_isub hx hb dL_law_34 ?_
    refine lv_icmp_gt (tgt := 1830) hx hb dL_law_35 (by decide) (fun _ => ?_) (fun c0 => ?_)
    · refine va_forget (fun q hq => hS.2.2 q hq) ?_
      refine W.widen (k := 603072) (n := 7202922) (by omega) (by omega) ?_
      refine lv_iconst (v := (1 : Int32)) hx hb dL_law_1830 (by decide) ?_
      exact lw_ret (d0 := s.drawn) (Drawn.sameBut.refl s.drawn lw_cs) hx hb hr hlocks dL_law_1831
    · have h7 := idx_le hL h2 c0
      have hi5 : i < 512 := by omega
      have hi : ∀ k : Nat, k < 7 → vp_in (Int32.ofNat (7 * i) + Int32.ofNat k) L := fun k hk => idx_in hL h7 hk
      have hi0 : vp_in (Int32.ofNat (7 * i)) L := by have := hi 0 (by decide); simpa using this
      have K : ∀ (x y : Mem) (H : Heap) (locs : List Loc) (ls : Array Slot) (vj : Int64) (vd : UInt64), Rel (i + 1) x y → Wh G x y H → Oh G oJ oD vj vd H → va_S (LA s) s.heap H locs → lv_has ls 9 [(0, .ref b), (1, .ref (gA G 14 0 0)), (2, .ref (gA G 40 0 0)), (3, .ref oJ), (4, .ref oD), (5, .int (Int32.ofNat (7 * i)))] → W p l e room_1 s m #[Value.ref b] below meth c H locs (cells + 3) (slots + 18) (lw_Z below #[Value.ref b] s) (F0 m 1824 ls []) := by
        intro x y H locs ls vj vd hR hW hO hS hl
        refine lv_iinc (v := Int32.ofNat (7 * (i + 1))) (lv' := [(5, .int (Int32.ofNat (7 * (i + 1)))), (0, .ref b), (1, .ref (gA G 14 0 0)), (2, .ref (gA G 40 0 0)), (3, .ref oJ), (4, .ref oD)]) hx hb dL_law_1824 hl (k := 5) rfl (idx_next i) (by decide) rfl (fun ls hl => ?_)
        refine lv_goto (tgt := 28) hx hb dL_law_1827 (by decide) ?_
        exact ih (i + 1) (by omega) (by omega) x y H locs ls vj vd _ _ (by omega) (by omega) hR hW hO hS (lv_sub hl [1, 2, 3, 4, 5, 0] rfl)
      refine lv_aload_n hx hb dL_law_38 rfl (lv_at hl 0 rfl) ?_
      refine lv_iload hx hb dL_law_39 (lv_at hl 5 rfl) ?_
      refine va_sld hx hb hX hbl hbA hS hi0 dL_law_41 ?_
      refine lv_bipush (v := (31 : Int32)) hx hb dL_law_42 (by decide) ?_
      refine lv_iand hx hb dL_law_44 ?_
      generalize xs (Int32.ofNat (7 * i)).toNatClampNeg &&& 31 = e9
      by_cases c0 : e9 = (0 : Int32)
      · refine lv_tsIn (v := (0 : Int32)) (tgt := 168) hx hb dL_law_45 c0 rfl (by decide) (by decide) rfl (by decide) ?_
        exact lc_setInterlock hx hb hml hown htg hst hXt hK hZ0 hX hbl hw hA0 hGA hi5 hi0 hi (by omega) (by omega) s_setInterlock K x y H locs ls vj vd hR hW hO hS hl
      by_cases c1 : e9 = (1 : Int32)
      · refine lv_tsIn (v := (1 : Int32)) (tgt := 271) hx hb dL_law_45 c1 rfl (by decide) (by decide) rfl (by decide) ?_
        exact lc_setReach hx hb hml hown htg hst hXt hK hZ0 hX hbl hw hA0 hGA hi5 hi0 hi (by omega) (by omega) s_setReach K x y H locs ls vj vd hR hW hO hS hl
      by_cases c2 : e9 = (2 : Int32)
      · refine lv_tsIn (v := (2 : Int32)) (tgt := 339) hx hb dL_law_45 c2 rfl (by decide) (by decide) rfl (by decide) ?_
        exact lc_setCapacity hx hb hml hown htg hst hXt hK hZ0 hX hbl hw hA0 hGA hi5 hi0 hi (by omega) (by omega) s_setCapacity K x y H locs ls vj vd hR hW hO hS hl
      by_cases c3 : e9 = (3 : Int32)
      · refine lv_tsIn (v := (3 : Int32)) (tgt := 407) hx hb dL_law_45 c3 rfl (by decide) (by decide) rfl (by decide) ?_
        exact lc_supply hx hb hml hown htg hst hXt hK hZ0 hX hbl hw hA0 hGA hi5 hi0 hi (by omega) (by omega) s_supply K x y H locs ls vj vd hR hW hO hS hl
      by_cases c4 : e9 = (4 : Int32)
      · refine lv_tsIn (v := (4 : Int32)) (tgt := 463) hx hb dL_law_45 c4 rfl (by decide) (by decide) rfl (by decide) ?_
        exact lc_zone hx hb hml hown htg hst hXt hK hZ0 hX hbl hw hA0 hGA hi5 hi0 hi (by omega) (by omega) s_zone K x y H locs ls vj vd hR hW hO hS hl
      by_cases c5 : e9 = (5 : Int32)
      · refine lv_tsIn (v := (5 : Int32)) (tgt := 531) hx hb dL_law_45 c5 rfl (by decide) (by decide) rfl (by decide) ?_
        exact lc_buffer hx hb hml hown htg hst hXt hK hZ0 hX hbl hw hA0 hGA hi5 hi0 hi (by omega) (by omega) s_buffer K x y H locs ls vj vd hR hW hO hS hl
      by_cases c6 : e9 = (6 : Int32)
      · refine lv_tsIn (v := (6 : Int32)) (tgt := 599) hx hb dL_law_45 c6 rfl (by decide) (by decide) rfl (by decide) ?_
        exact lc_part hx hb hml hown htg hst hXt hK hZ0 hX hbl hw hA0 hGA hi5 hi0 hi (by omega) (by omega) s_part K x y H locs ls vj vd hR hW hO hS hl
      by_cases c7 : e9 = (7 : Int32)
      · refine lv_tsIn (v := (7 : Int32)) (tgt := 667) hx hb dL_law_45 c7 rfl (by decide) (by decide) rfl (by decide) ?_
        exact lc_give hx hb hml hown htg hst hXt hK hZ0 hX hbl hw hA0 hGA hi5 hi0 hi (by omega) (by omega) s_give K x y H locs ls vj vd hR hW hO hS hl
      by_cases c8 : e9 = (8 : Int32)
      · refine lv_tsIn (v := (8 : Int32)) (tgt := 785) hx hb dL_law_45 c8 rfl (by decide) (by decide) rfl (by decide) ?_
        exact lc_withdraw hx hb hml hown htg hst hXt hK hZ0 hX hbl hw hA0 hGA hi5 hi0 hi (by omega) (by omega) s_withdraw K x y H locs ls vj vd hR hW hO hS hl
      by_cases c9 : e9 = (9 : Int32)
      · refine lv_tsIn (v := (9 : Int32)) (tgt := 841) hx hb dL_law_45 c9 rfl (by decide) (by decide) rfl (by decide) ?_
        exact lc_job hx hb hml hown htg hst hXt hK hZ0 hX hbl hw hA0 hGA hi5 hi0 hi (by omega) (by omega) s_job K x y H locs ls vj vd hR hW hO hS hl
      by_cases c10 : e9 = (10 : Int32)
      · refine lv_tsIn (v := (10 : Int32)) (tgt := 909) hx hb dL_law_45 c10 rfl (by decide) (by decide) rfl (by decide) ?_
        exact lc_arm hx hb hml hown htg hst hXt hK hZ0 hX hbl hw hA0 hGA hi5 hi0 hi (by omega) (by omega) s_arm K x y H locs ls vj vd hR hW hO hS hl
      by_cases c11 : e9 = (11 : Int32)
      · refine lv_tsIn (v := (11 : Int32)) (tgt := 977) hx hb dL_law_45 c11 rfl (by decide) (by decide) rfl (by decide) ?_
        exact lc_waiting hx hb hml hown htg hst hXt hK hZ0 hX hbl hw hA0 hGA hi5 hi0 hi (by omega) (by omega) s_waiting K x y H locs ls vj vd hR hW hO hS hl
      by_cases c12 : e9 = (12 : Int32)
      · refine lv_tsIn (v := (12 : Int32)) (tgt := 1045) hx hb dL_law_45 c12 rfl (by decide) (by decide) rfl (by decide) ?_
        exact lc_tick hx hb hml hown htg hst hXt hK hZ0 hX hbl hw hA0 hGA hi5 hi0 hi (by omega) (by omega) s_tick K x y H locs ls vj vd hR hW hO hS hl
      by_cases c13 : e9 = (13 : Int32)
      · refine lv_tsIn (v := (13 : Int32)) (tgt := 1101) hx hb dL_law_45 c13 rfl (by decide) (by decide) rfl (by decide) ?_
        exact lc_reason hx hb hml hown htg hst hXt hK hZ0 hX hbl hw hA0 hGA hi5 hi0 hi (by omega) (by omega) s_reason K x y H locs ls vj vd hR hW hO hS hl
      by_cases c14 : e9 = (14 : Int32)
      · refine lv_tsIn (v := (14 : Int32)) (tgt := 1185) hx hb dL_law_45 c14 rfl (by decide) (by decide) rfl (by decide) ?_
        exact lc_wouldBe hx hb hml hown htg hst hXt hK hZ0 hX hbl hw hA0 hGA hi5 hi0 hi (by omega) (by omega) s_wouldBe K x y H locs ls vj vd hR hW hO hS hl
      by_cases c15 : e9 = (15 : Int32)
      · refine lv_tsIn (v := (15 : Int32)) (tgt := 1241) hx hb dL_law_45 c15 rfl (by decide) (by decide) rfl (by decide) ?_
        exact lc_endsAfter hx hb hml hown htg hst hXt hK hZ0 hX hbl hw hA0 hGA hi5 hi0 hi (by omega) (by omega) s_endsAfter K x y H locs ls vj vd hR hW hO hS hl
      by_cases c16 : e9 = (16 : Int32)
      · refine lv_tsIn (v := (16 : Int32)) (tgt := 1297) hx hb dL_law_45 c16 rfl (by decide) (by decide) rfl (by decide) ?_
        exact lc_idleAfter hx hb hml hown htg hst hXt hK hZ0 hX hbl hw hA0 hGA hi5 hi0 hi (by omega) (by omega) s_idleAfter K x y H locs ls vj vd hR hW hO hS hl
      by_cases c17 : e9 = (17 : Int32)
      · refine lv_tsIn (v := (17 : Int32)) (tgt := 1341) hx hb dL_law_45 c17 rfl (by decide) (by decide) rfl (by decide) ?_
        exact lc_isSafe hx hb hml hown htg hst hXt hK hZ0 hX hbl hw hA0 hGA hi5 hi0 hi (by omega) (by omega) s_isSafe K x y H locs ls vj vd hR hW hO hS hl
      by_cases c18 : e9 = (18 : Int32)
      · refine lv_tsIn (v := (18 : Int32)) (tgt := 1354) hx hb dL_law_45 c18 rfl (by decide) (by decide) rfl (by decide) ?_
        exact lc_entry hx hb hml hown htg hst hXt hK hZ0 hX hbl hw hA0 hGA hi5 hi0 hi (by omega) (by omega) s_entry K x y H locs ls vj vd hR hW hO hS hl
      by_cases c19 : e9 = (19 : Int32)
      · refine lv_tsIn (v := (19 : Int32)) (tgt := 1422) hx hb dL_law_45 c19 rfl (by decide) (by decide) rfl (by decide) ?_
        exact lc_account hx hb hml hown htg hst hXt hK hZ0 hX hbl hw hA0 hGA hi5 hi0 hi (by omega) (by omega) s_account K x y H locs ls vj vd hR hW hO hS hl
      by_cases c20 : e9 = (20 : Int32)
      · refine lv_tsIn (v := (20 : Int32)) (tgt := 1478) hx hb dL_law_45 c20 rfl (by decide) (by decide) rfl (by decide) ?_
        exact lc_use hx hb hml hown htg hst hXt hK hZ0 hX hbl hw hA0 hGA hi5 hi0 hi (by omega) (by omega) s_use K x y H locs ls vj vd hR hW hO hS hl
      by_cases c21 : e9 = (21 : Int32)
      · refine lv_tsIn (v := (21 : Int32)) (tgt := 1556) hx hb dL_law_45 c21 rfl (by decide) (by decide) rfl (by decide) ?_
        exact lc_meanDuration hx hb hml hown htg hst hXt hK hZ0 hX hbl hw hA0 hGA hi5 hi0 hi (by omega) (by omega) s_meanDuration K x y H locs ls vj vd hR hW hO hS hl
      by_cases c22 : e9 = (22 : Int32)
      · refine lv_tsIn (v := (22 : Int32)) (tgt := 1621) hx hb dL_law_45 c22 rfl (by decide) (by decide) rfl (by decide) ?_
        exact lc_feed hx hb hml hown htg hst hXt hK hZ0 hX hbl hw hA0 hGA hi5 hi0 hi (by omega) (by omega) s_feed K x y H locs ls vj vd hR hW hO hS hl
      by_cases c23 : e9 = (23 : Int32)
      · refine lv_tsIn (v := (23 : Int32)) (tgt := 1679) hx hb dL_law_45 c23 rfl (by decide) (by decide) rfl (by decide) ?_
        exact lc_perform hx hb hml hown htg hst hXt hK hZ0 hX hbl hw hA0 hGA hi5 hi0 hi (by omega) (by omega) s_perform K x y H locs ls vj vd hR hW hO hS hl
      by_cases c24 : e9 = (24 : Int32)
      · refine lv_tsIn (v := (24 : Int32)) (tgt := 1723) hx hb dL_law_45 c24 rfl (by decide) (by decide) rfl (by decide) ?_
        exact lc_undo hx hb hml hown htg hst hXt hK hZ0 hX hbl hw hA0 hGA hi5 hi0 hi (by omega) (by omega) s_undo K x y H locs ls vj vd hR hW hO hS hl
      by_cases c25 : e9 = (25 : Int32)
      · refine lv_tsIn (v := (25 : Int32)) (tgt := 1767) hx hb dL_law_45 c25 rfl (by decide) (by decide) rfl (by decide) ?_
        exact lc_save hx hb hml hown htg hst hXt hK hZ0 hX hbl hw hA0 hGA hi5 hi0 hi (by omega) (by omega) s_save K x y H locs ls vj vd hR hW hO hS hl
      by_cases c26 : e9 = (26 : Int32)
      · refine lv_tsIn (v := (26 : Int32)) (tgt := 1780) hx hb dL_law_45 c26 rfl (by decide) (by decide) rfl (by decide) ?_
        exact lc_restore hx hb hml hown htg hst hXt hK hZ0 hX hbl hw hA0 hGA hi5 hi0 hi (by omega) (by omega) s_restore K x y H locs ls vj vd hR hW hO hS hl
      refine lv_tsOut (n := 26) (tgt := 1824) hx hb dL_law_45 (by decide) (fun j hj => match j, hj with | 0, _ => c0 | 1, _ => c1 | 2, _ => c2 | 3, _ => c3 | 4, _ => c4 | 5, _ => c5 | 6, _ => c6 | 7, _ => c7 | 8, _ => c8 | 9, _ => c9 | 10, _ => c10 | 11, _ => c11 | 12, _ => c12 | 13, _ => c13 | 14, _ => c14 | 15, _ => c15 | 16, _ => c16 | 17, _ => c17 | 18, _ => c18 | 19, _ => c19 | 20, _ => c20 | 21, _ => c21 | 22, _ => c22 | 23, _ => c23 | 24, _ => c24 | 25, _ => c25 | 26, _ => c26 | j + 27, hj => absurd hj (by omega)) (by decide) ?_
      refine W.widen (Nat.le_add_right _ 3) (Nat.le_add_right _ 18) ?_
      exact K x y H locs ls vj vd (hmono i x y hi5 hR) hW hO hS hl
