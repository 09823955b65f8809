/-! METHOD X7_partOf -/
def m_X7_partOf (p0 : Fin 10) (p1 : Int32) (p2 : Int32) (x : Mem) : Option Int32 :=
  bd_ (m_X7_kept p0 x) fun r2 => lt_ (((rem32 (((x 6 ↑p0 0 0) - r2) + p1) (24 : Int32)) * (4 : Int32)) + p2) fun x3_3 => if x3_3 < 0 then (some (-1 : Int32)) else (if (96 : Int32) ≤ x3_3 then (some (-1 : Int32)) else (gd_ x3_3 96 (some (x 7 ↑p0 0 x3_3.toNatClampNeg))))
abbrev WS_X7_partOf : List Cond := .code yX7_partOf cX7_partOf 4 (some .int) :: wsG
abbrev RM_X7_partOf : Room := { frames := 1, cells := 0, slots := 0, locals := 20 }
set_option maxHeartbeats 4000000 in
set_option maxRecDepth 100000 in
theorem c_X7_partOf (l : Launch) (G : Geo) (x y : Mem) (p0 : Fin 10) (p1 : Int32) (p2 : Int32) (r : Int32) (h : m_X7_partOf p0 p1 p2 x = some r) : Met l yX7_partOf WS_X7_partOf RM_X7_partOf (Pw G x y [.ref (gA G 6 ↑p0 0), .int p1, .int p2]) (Qi G x y r) 0 0 (gF G) := by
  refine Met.ofW (cc := cX7_partOf) (maxL := 4) (ret := (some .int)) (by decide) rfl ?_
  intro p e s m args below meth c s₁ B hml hv
  obtain ⟨rfl, hK, hW⟩ := hv
  have hx := B.exec
  have hb := B.bytes
  have hr := B.returns
  have hts := atoms_spec (ws := WS_X7_partOf) B.pre
  have htg : ∀ w ∈ wsG, w.before _ s = true := fun w h => hts w (List.mem_cons_of_mem _ h)
  have hown : s.vm.findClass RX7 = some m.cls := findClass_of_methodNamed B.named
  have hlocks := B.notSynchronized
  have hS : va_S (gF G) s.heap s.heap [] := va_S.rf
  have hl := lv_entry ([.ref (gA G 6 ↑p0 0), .int p1, .int p2]) (n := 4) (Nat.le_of_ble_eq_true rfl)
  rw [lg_entry_eq]
  generalize (lg_sl ([.ref (gA G 6 ↑p0 0), .int p1, .int p2]) ++ List.replicate (4 - (lg_sl ([.ref (gA G 6 ↑p0 0), .int p1, .int p2])).length) Slot.unset).toArray = ls at hl ⊢
  have hl : lv_has ls 4 [(0, .ref (gA G 6 ↑p0 0)), (1, .int p1), (2, .int p2)] := hl
  have hX := h
  unfold m_X7_partOf at hX
  refine lv_aload_n hx hb dX7_partOf_0 rfl (lv_at hl 0 rfl) ?_
  refine gf_6_0 hx hb htg hown hK hW p0 q257 dX7_partOf_1 ?_
  refine lv_aload_n hx hb dX7_partOf_4 rfl (lv_at hl 0 rfl) ?_
  obtain ⟨r2, h1, hX⟩ := bd_go hX
  refine k_X7_kept hx hb hml hown htg hK hW hS h1 q999 hl.1 (Nat.le_of_ble_eq_true rfl) (Nat.le_of_ble_eq_true rfl) (Nat.le_of_ble_eq_true rfl) ⟨Nat.zero_le _, Nat.zero_le _⟩ dX7_partOf_5 (fun H locs hW hS => ?_)
  refine lv_isub hx hb dX7_partOf_8 ?_
  refine lv_iload_n hx hb dX7_partOf_9 rfl (lv_at hl 1 rfl) ?_
  refine lv_iadd hx hb dX7_partOf_10 ?_
  refine lv_bipush (v := (24 : Int32)) hx hb dX7_partOf_11 (by decide) ?_
  refine lv_irem_ hx hb dX7_partOf_13 (by decide) ?_
  refine lv_iconst (v := (4 : Int32)) hx hb dX7_partOf_14 (by decide) ?_
  refine lv_imul hx hb dX7_partOf_15 ?_
  refine lv_iload_n hx hb dX7_partOf_16 rfl (lv_at hl 2 rfl) ?_
  refine lv_iadd hx hb dX7_partOf_17 ?_
  refine lv_topi (fun x3_3 e9 => ?_)
  have hX := lt_go hX e9
  refine lv_istore_n (lv' := [(3, .int x3_3), (0, .ref (gA G 6 ↑p0 0)), (1, .int p1), (2, .int p2)]) hx hb dX7_partOf_18 rfl hl (by decide) rfl (fun ls hl => ?_)
  refine lv_iload_n hx hb dX7_partOf_19 rfl (lv_at hl 0 rfl) ?_
  refine lv_if_lt (tgt := 41) hx hb dX7_partOf_20 (by decide) (fun c4 => ?_) (fun c4 => ?_)
  · have hX := it_t hX c4
    refine lv_iconst (v := (-1 : Int32)) hx hb dX7_partOf_41 (by decide) ?_
    have hX := Option.some.inj hX
    subst hX
    exact rt_i hx hb hr hlocks hW hS dX7_partOf_42
  · have hX := it_f hX c4
    refine lv_iload_n hx hb dX7_partOf_23 rfl (lv_at hl 0 rfl) ?_
    refine lv_aload_n hx hb dX7_partOf_24 rfl (lv_at hl 1 rfl) ?_
    refine gf_6_1 hx hb htg hown hK hW p0 q71 dX7_partOf_25 ?_
    refine an_7 hx hb hK hW p0 dX7_partOf_28 ?_
    refine lv_icmp_ge (tgt := 41) hx hb dX7_partOf_29 (by decide) (fun c5 => ?_) (fun c5 => ?_)
    · have hX := it_t hX c5
      refine lv_iconst (v := (-1 : Int32)) hx hb dX7_partOf_41 (by decide) ?_
      have hX := Option.some.inj hX
      subst hX
      exact rt_i hx hb hr hlocks hW hS dX7_partOf_42
    · have hX := it_f hX c5
      refine lv_aload_n hx hb dX7_partOf_32 rfl (lv_at hl 1 rfl) ?_
      refine gf_6_1 hx hb htg hown hK hW p0 q71 dX7_partOf_33 ?_
      refine lv_iload_n hx hb dX7_partOf_36 rfl (lv_at hl 0 rfl) ?_
      obtain ⟨g6, hX⟩ := gd_go hX
      refine al_7 hx hb hK hW p0 g6 dX7_partOf_37 ?_
      refine lv_goto (tgt := 42) hx hb dX7_partOf_38 (by decide) ?_
      have hX := Option.some.inj hX
      subst hX
      exact rt_i hx hb hr hlocks hW hS dX7_partOf_42
set_option maxHeartbeats 4000000 in
theorem k_X7_partOf {p : Program} {l : Launch} {e : Env} {R : Room} {s : State} {m : MethodId} {args : Array Value} {below : List Frame} {meth : Method} {c : Code} {H : Heap} {locs : List Loc} {cells slots : Nat} {Q : State → Prop} {cc : ByteArray} {pc nL idx : Nat} {own : String} {ls : Array Slot} {rest : List Value} {G : Geo} {x y : Mem} {H0 : Heap} {p0 : Fin 10} {p1 : Int32} {p2 : Int32} {v : Int32} (hx : p.tables.exec = Jvm.exec) (hb : c.code = cc) (hml : c.maxLocals = nL) (hown : s.vm.findClass own = some m.cls) (htg : ∀ w ∈ wsG, w.before args s = true) (hK : Kt G s) (hW : Wh G x y H) (hS : va_S (gF G) H0 H locs) (h : m_X7_partOf p0 p1 p2 x = some v) (hlk : Cond.methodLink own idx yX7_partOf ∈ wsG) (hn : ls.size = nL) (hr : (rest.map fun v => v.category).sum ≤ 8) (hR1 : 1 + 1 ≤ R.frames) (hR2 : 8 + (4 + 11) + 20 ≤ R.locals) (hf : cells ≤ R.cells ∧ slots ≤ R.slots) (hdg : decode cc pc = .ok (.invokevirtual idx, 3)) (kk : ∀ (H1 : Heap) (locs1 : List Loc), Wh G x y H1 → va_S (gF G) H0 H1 locs1 → W p l e R s m args below meth c H1 locs1 cells slots Q (F0 m (pc + 3) ls (.int v :: rest))) : W p l e R s m args below meth c H locs cells slots Q (F0 m pc ls (.int p2 :: .int p1 :: .ref (gA G 6 ↑p0 0) :: rest)) := by
  refine va_calli (va_runV (As := [.int p1, .int p2]) (rest := rest) ⟨hx, hb, hml, hown, htg⟩ (c_X7_partOf l G x y p0 p1 p2 v h) (cwV 2 htg (gd_V hlk q996 q997 q43 q998) rfl rfl rfl (by decide +kernel) ⟨hR1, hR2⟩) ⟨fun a U g mk q => ⟨q.1, q.2.1.calling, q.2.2⟩, rc_6 hK hW p0, fun U hU hW9 => ⟨rfl, hK.warm hW9, by rw [hU]; exact hW⟩⟩ rfl rfl hn rfl (lv_room hr) hdg hf) hS (fun _ _ h9 => h9) (fun _ h9 => h9) ?_
  intro r9 u t H1 locs1 ht hvm hw hB hz1 hk1 hS1
  replace hB : Wh G x y t.heap := hB
  rw [ht] at hB
  replace hw : r9 = v := hw
  subst hw
  exact kk H1 locs1 hB hS1
/-! METHOD X8_act -/
def m_X8_act_j113 (p0 : Fin 10) (p1 : Fin 10 × Fin 4) (x : Mem) : Option Mem :=
  some x
def m_X8_act (p0 : Fin 10) (p1 : Fin 10 × Fin 4) (x : Mem) : Option Mem :=
  lt_ (x 0 ↑p1.1 ↑p1.2 7) fun x3_1 => lt_ (up4 x 0 ↑p1.1 ↑p1.2 7 (0 : Int32)) fun x2 => if (x2 0 ↑p1.1 ↑p1.2 5) ≤ (1 : Int32) then (lt_ (up4 x2 0 ↑p1.1 ↑p1.2 5 (0 : Int32)) fun x4 => if (x4 0 ↑p1.1 ↑p1.2 2) = (2 : Int32) then (bd_ (m_X1_endMove p0 p1 x4) fun x30 => some x30) else (bd_ (m_X1_hasRequest p0 p1 x4) fun r7 => if r7 = 0 then (if (x4 0 ↑p1.1 ↑p1.2 2) = 0 then (some x4) else (bd_ (m_X1_endJob p0 p1 x4) fun x12 => some x12)) else (bd2_ (m_X6_findReason p0 p1 x4) fun r14 x15 => lt_ r14 fun x4_16 => if x4_16 = 0 then (if (x15 0 ↑p1.1 ↑p1.2 2) = 0 then (bd_ (m_X1_startJob p0 p1 x15) fun x24 => m_X8_act_j113 p0 p1 x24) else (bd_ (m_X1_startMove p0 p1 x15) fun x21 => m_X8_act_j113 p0 p1 x21)) else (bd_ (m_X0_refuse p1 x4_16 (x15 19 0 0 0) (x3_1 + (1 : Int32)) x15) fun x27 => m_X8_act_j113 p0 p1 x27)))) else (lt_ (up4 x2 0 ↑p1.1 ↑p1.2 5 ((x2 0 ↑p1.1 ↑p1.2 5) - (1 : Int32))) fun x31 => some x31)
abbrev WS_X8_act : List Cond := .code yX8_act cX8_act 5 none :: wsG
abbrev RM_X8_act : Room := { frames := 3, cells := 0, slots := 0, locals := 75 }
set_option maxHeartbeats 4000000 in
set_option maxRecDepth 100000 in
theorem c_X8_act (l : Launch) (G : Geo) (x y : Mem) (p0 : Fin 10) (p1 : Fin 10 × Fin 4) (r : Mem) (h : m_X8_act p0 p1 x = some r) : Met l yX8_act WS_X8_act RM_X8_act (Pw G x y [.ref (gA G 17 0 0), .ref (gA G 2 ↑p0 0), .ref (gA G 0 ↑p1.1 ↑p1.2)]) (Qv G r y) 0 0 (gF G) := by
  refine Met.ofW (cc := cX8_act) (maxL := 5) (ret := none) (by decide) rfl ?_
  intro p e s m args below meth c s₁ B hml hv
  obtain ⟨rfl, hK, hW⟩ := hv
  have hx := B.exec
  have hb := B.bytes
  have hr := B.returns
  have hts := atoms_spec (ws := WS_X8_act) B.pre
  have htg : ∀ w ∈ wsG, w.before _ s = true := fun w h => hts w (List.mem_cons_of_mem _ h)
  have hown : s.vm.findClass RX8 = some m.cls := findClass_of_methodNamed B.named
  have hlocks := B.notSynchronized
  have hS : va_S (gF G) s.heap s.heap [] := va_S.rf
  have hl := lv_entry ([.ref (gA G 17 0 0), .ref (gA G 2 ↑p0 0), .ref (gA G 0 ↑p1.1 ↑p1.2)]) (n := 5) (Nat.le_of_ble_eq_true rfl)
  rw [lg_entry_eq]
  generalize (lg_sl ([.ref (gA G 17 0 0), .ref (gA G 2 ↑p0 0), .ref (gA G 0 ↑p1.1 ↑p1.2)]) ++ List.replicate (5 - (lg_sl ([.ref (gA G 17 0 0), .ref (gA G 2 ↑p0 0), .ref (gA G 0 ↑p1.1 ↑p1.2)])).length) Slot.unset).toArray = ls at hl ⊢
  have hl : lv_has ls 5 [(0, .ref (gA G 17 0 0)), (1, .ref (gA G 2 ↑p0 0)), (2, .ref (gA G 0 ↑p1.1 ↑p1.2))] := hl
  have hX := h
  unfold m_X8_act at hX
  have J_113 : ∀ (x : Mem) (H : Heap) (locs : List Loc) (ls : Array Slot), Wh G x y H → va_S (gF G) s.heap H locs → lv_has ls 5 [] → m_X8_act_j113 p0 p1 x = some r → W p l e (headSpec WS_X8_act RM_X8_act).room s m ([.ref (gA G 17 0 0), .ref (gA G 2 ↑p0 0), .ref (gA G 0 ↑p1.1 ↑p1.2)] : List Value).toArray below meth c H locs 0 0 (MQ below (Qv G r y) ([.ref (gA G 17 0 0), .ref (gA G 2 ↑p0 0), .ref (gA G 0 ↑p1.1 ↑p1.2)] : List Value).toArray s 0 0 (gF G)) (F0 m 113 ls []) := by
    intro x H locs ls hW hS hl hX
    unfold m_X8_act_j113 at hX
    refine lv_goto (tgt := 128) hx hb dX8_act_113 (by decide) ?_
    have hX := Option.some.inj hX
    subst hX
    exact rt_v hx hb hr hlocks hW hS dX8_act_128
  refine lv_aload_n hx hb dX8_act_0 rfl (lv_at hl 2 rfl) ?_
  refine gf_0_7 hx hb htg hown hK hW p1 q697 dX8_act_1 ?_
  refine lv_topi (fun x3_1 e9 => ?_)
  have hX := lt_go hX e9
  refine lv_istore_n (lv' := [(3, .int x3_1), (0, .ref (gA G 17 0 0)), (1, .ref (gA G 2 ↑p0 0)), (2, .ref (gA G 0 ↑p1.1 ↑p1.2))]) hx hb dX8_act_4 rfl hl (by decide) rfl (fun ls hl => ?_)
  refine lv_aload_n hx hb dX8_act_5 rfl (lv_at hl 3 rfl) ?_
  refine lv_iconst (v := (0 : Int32)) hx hb dX8_act_6 (by decide) ?_
  refine pf_0_7 hx hb htg hown hK hW hS p1 q697 dX8_act_7 (fun H locs hW hS => ?_)
  obtain ⟨x2, e9⟩ : ∃ w : Mem, w = (up4 x 0 ↑p1.1 ↑p1.2 7 (0 : Int32)) := ⟨_, rfl⟩
  rw [← e9] at hW
  have hX := lt_go hX e9
  refine lv_aload_n hx hb dX8_act_10 rfl (lv_at hl 3 rfl) ?_
  refine gf_0_5 hx hb htg hown hK hW p1 q698 dX8_act_11 ?_
  refine lv_iconst (v := (1 : Int32)) hx hb dX8_act_14 (by decide) ?_
  refine lv_icmp_le (tgt := 29) hx hb dX8_act_15 (by decide) (fun c3 => ?_) (fun c3 => ?_)
  · have hX := it_t hX c3
    refine lv_aload_n hx hb dX8_act_29 rfl (lv_at hl 3 rfl) ?_
    refine lv_iconst (v := (0 : Int32)) hx hb dX8_act_30 (by decide) ?_
    refine pf_0_5 hx hb htg hown hK hW hS p1 q698 dX8_act_31 (fun H locs hW hS => ?_)
    obtain ⟨x4, e9⟩ : ∃ w : Mem, w = (up4 x2 0 ↑p1.1 ↑p1.2 5 (0 : Int32)) := ⟨_, rfl⟩
    rw [← e9] at hW
    have hX := lt_go hX e9
    refine lv_aload_n hx hb dX8_act_34 rfl (lv_at hl 3 rfl) ?_
    refine gf_0_2 hx hb htg hown hK hW p1 q699 dX8_act_35 ?_
    refine lv_iconst (v := (2 : Int32)) hx hb dX8_act_38 (by decide) ?_
    refine lv_icmp_ne (tgt := 50) hx hb dX8_act_39 (by decide) (fun c5 => ?_) (fun c5 => ?_)
    · have hX := it_f hX c5
      refine lv_aload_n hx hb dX8_act_50 rfl (lv_at hl 2 rfl) ?_
      refine lv_aload_n hx hb dX8_act_51 rfl (lv_at hl 3 rfl) ?_
      obtain ⟨r7, h6, hX⟩ := bd_go hX
      refine k_X1_hasRequest hx hb hml hown htg hK hW hS h6 q714 hl.1 (Nat.le_of_ble_eq_true rfl) (Nat.le_of_ble_eq_true rfl) (Nat.le_of_ble_eq_true rfl) ⟨Nat.zero_le _, Nat.zero_le _⟩ dX8_act_52 (fun H locs hW hS => ?_)
      refine lv_if_eq (tgt := 116) hx hb dX8_act_55 (by decide) (fun c8 => ?_) (fun c8 => ?_)
      · have hX := it_t hX c8
        refine lv_aload_n hx hb dX8_act_116 rfl (lv_at hl 3 rfl) ?_
        refine gf_0_2 hx hb htg hown hK hW p1 q699 dX8_act_117 ?_
        refine lv_if_eq (tgt := 128) hx hb dX8_act_120 (by decide) (fun c9 => ?_) (fun c9 => ?_)
        · have hX := it_t hX c9
          have hX := Option.some.inj hX
          subst hX
          exact rt_v hx hb hr hlocks hW hS dX8_act_128
        · have hX := it_f hX c9
          refine lv_aload_n hx hb dX8_act_123 rfl (lv_at hl 2 rfl) ?_
          refine lv_aload_n hx hb dX8_act_124 rfl (lv_at hl 3 rfl) ?_
          obtain ⟨x12, h10, hX⟩ := bd_go hX
          refine k_X1_endJob hx hb hml hown htg hK hW hS h10 q810 hl.1 (Nat.le_of_ble_eq_true rfl) (Nat.le_of_ble_eq_true rfl) (Nat.le_of_ble_eq_true rfl) ⟨Nat.zero_le _, Nat.zero_le _⟩ dX8_act_125 (fun H locs hW hS => ?_)
          have hX := Option.some.inj hX
          subst hX
          exact rt_v hx hb hr hlocks hW hS dX8_act_128
      · have hX := it_f hX c8
        refine lv_aload_n hx hb dX8_act_58 rfl (lv_at hl 1 rfl) ?_
        refine gf_17_0 hx hb htg hown hK hW q110 dX8_act_59 ?_
        refine lv_aload_n hx hb dX8_act_62 rfl (lv_at hl 2 rfl) ?_
        refine lv_aload_n hx hb dX8_act_63 rfl (lv_at hl 3 rfl) ?_
        obtain ⟨r14, x15, h13, hX⟩ := bd2_go hX
        refine k_X6_findReason hx hb hml hown htg hK hW hS h13 q734 hl.1 (Nat.le_of_ble_eq_true rfl) (Nat.le_of_ble_eq_true rfl) (Nat.le_of_ble_eq_true rfl) ⟨Nat.zero_le _, Nat.zero_le _⟩ dX8_act_64 (fun H locs hW hS => ?_)
        refine lv_topi (fun x4_16 e9 => ?_)
        have hX := lt_go hX e9
        refine lv_istore (lv' := [(4, .int x4_16), (3, .int x3_1), (0, .ref (gA G 17 0 0)), (1, .ref (gA G 2 ↑p0 0)), (2, .ref (gA G 0 ↑p1.1 ↑p1.2))]) hx hb dX8_act_67 hl (by decide) rfl (fun ls hl => ?_)
        refine lv_iload hx hb dX8_act_69 (lv_at hl 0 rfl) ?_
        refine lv_if_eq (tgt := 93) hx hb dX8_act_71 (by decide) (fun c17 => ?_) (fun c17 => ?_)
        · have hX := it_t hX c17
          refine lv_aload_n hx hb dX8_act_93 rfl (lv_at hl 4 rfl) ?_
          refine gf_0_2 hx hb htg hown hK hW p1 q699 dX8_act_94 ?_
          refine lv_if_ne (tgt := 108) hx hb dX8_act_97 (by decide) (fun c18 => ?_) (fun c18 => ?_)
          · have hX := it_f hX c18
            refine lv_aload_n hx hb dX8_act_108 rfl (lv_at hl 3 rfl) ?_
            refine lv_aload_n hx hb dX8_act_109 rfl (lv_at hl 4 rfl) ?_
            obtain ⟨x21, h19, hX⟩ := bd_go hX
            refine k_X1_startMove hx hb hml hown htg hK hW hS h19 q802 hl.1 (Nat.le_of_ble_eq_true rfl) (Nat.le_of_ble_eq_true rfl) (Nat.le_of_ble_eq_true rfl) ⟨Nat.zero_le _, Nat.zero_le _⟩ dX8_act_110 (fun H locs hW hS => ?_)
            exact J_113 _ _ _ _ hW hS (lv_sub hl [] rfl) hX
          · have hX := it_t hX c18
            refine lv_aload_n hx hb dX8_act_100 rfl (lv_at hl 3 rfl) ?_
            refine lv_aload_n hx hb dX8_act_101 rfl (lv_at hl 4 rfl) ?_
            obtain ⟨x24, h22, hX⟩ := bd_go hX
            refine k_X1_startJob hx hb hml hown htg hK hW hS h22 q792 hl.1 (Nat.le_of_ble_eq_true rfl) (Nat.le_of_ble_eq_true rfl) (Nat.le_of_ble_eq_true rfl) ⟨Nat.zero_le _, Nat.zero_le _⟩ dX8_act_102 (fun H locs hW hS => ?_)
            refine lv_goto (tgt := 113) hx hb dX8_act_105 (by decide) ?_
            exact J_113 _ _ _ _ hW hS (lv_sub hl [] rfl) hX
        · have hX := it_f hX c17
          refine lv_aload_n hx hb dX8_act_74 rfl (lv_at hl 4 rfl) ?_
          refine lv_iload hx hb dX8_act_75 (lv_at hl 0 rfl) ?_
          refine lv_aload_n hx hb dX8_act_77 rfl (lv_at hl 2 rfl) ?_
          refine gf_17_0 hx hb htg hown hK hW q110 dX8_act_78 ?_
          refine gf_19_0 hx hb htg hown hK hW q700 dX8_act_81 ?_
          refine lv_iload_n hx hb dX8_act_84 rfl (lv_at hl 1 rfl) ?_
          refine lv_iconst (v := (1 : Int32)) hx hb dX8_act_85 (by decide) ?_
          refine lv_iadd hx hb dX8_act_86 ?_
          obtain ⟨x27, h25, hX⟩ := bd_go hX
          refine k_X0_refuse hx hb hml hown htg hK hW hS h25 q788 hl.1 (Nat.le_of_ble_eq_true rfl) (Nat.le_of_ble_eq_true rfl) (Nat.le_of_ble_eq_true rfl) ⟨Nat.zero_le _, Nat.zero_le _⟩ dX8_act_87 (fun H locs hW hS => ?_)
          refine lv_goto (tgt := 113) hx hb dX8_act_90 (by decide) ?_
          exact J_113 _ _ _ _ hW hS (lv_sub hl [] rfl) hX
    · have hX := it_t hX c5
      refine lv_aload_n hx hb dX8_act_42 rfl (lv_at hl 2 rfl) ?_
      refine lv_aload_n hx hb dX8_act_43 rfl (lv_at hl 3 rfl) ?_
      obtain ⟨x30, h28, hX⟩ := bd_go hX
      refine k_X1_endMove hx hb hml hown htg hK hW hS h28 q701 hl.1 (Nat.le_of_ble_eq_true rfl) (Nat.le_of_ble_eq_true rfl) (Nat.le_of_ble_eq_true rfl) ⟨Nat.zero_le _, Nat.zero_le _⟩ dX8_act_44 (fun H locs hW hS => ?_)
      refine lv_goto (tgt := 128) hx hb dX8_act_47 (by decide) ?_
      have hX := Option.some.inj hX
      subst hX
      exact rt_v hx hb hr hlocks hW hS dX8_act_128
  · have hX := it_f hX c3
    refine lv_aload_n hx hb dX8_act_18 rfl (lv_at hl 3 rfl) ?_
    refine lv_dup hx hb dX8_act_19 rfl ?_
    refine gf_0_5 hx hb htg hown hK hW p1 q698 dX8_act_20 ?_
    refine lv_iconst (v := (1 : Int32)) hx hb dX8_act_23 (by decide) ?_
    refine lv_isub hx hb dX8_act_24 ?_
    refine pf_0_5 hx hb htg hown hK hW hS p1 q698 dX8_act_25 (fun H locs hW hS => ?_)
    obtain ⟨x31, e9⟩ : ∃ w : Mem, w = (up4 x2 0 ↑p1.1 ↑p1.2 5 ((x2 0 ↑p1.1 ↑p1.2 5) - (1 : Int32))) := ⟨_, rfl⟩
    rw [← e9] at hW
    have hX := lt_go hX e9
    have hX := Option.some.inj hX
    subst hX
    exact rt_v hx hb hr hlocks hW hS dX8_act_28
set_option maxHeartbeats 4000000 in
theorem k_X8_act {p : Program} {l : Launch} {e : Env} {R : Room} {s : State} {m : MethodId} {args : Array Value} {below : List Frame} {meth : Method} {c : Code} {H : Heap} {locs : List Loc} {cells slots : Nat} {Q : State → Prop} {cc : ByteArray} {pc nL idx : Nat} {own : String} {ls : Array Slot} {rest : List Value} {G : Geo} {x y : Mem} {H0 : Heap} {p0 : Fin 10} {p1 : Fin 10 × Fin 4} {z : Mem} (hx : p.tables.exec = Jvm.exec) (hb : c.code = cc) (hml : c.maxLocals = nL) (hown : s.vm.findClass own = some m.cls) (htg : ∀ w ∈ wsG, w.before args s = true) (hK : Kt G s) (hW : Wh G x y H) (hS : va_S (gF G) H0 H locs) (h : m_X8_act p0 p1 x = some z) (hlk : Cond.methodLink own idx yX8_act ∈ wsG) (hn : ls.size = nL) (hr : (rest.map fun v => v.category).sum ≤ 8) (hR1 : 3 + 1 ≤ R.frames) (hR2 : 8 + (5 + 11) + 75 ≤ R.locals) (hf : cells ≤ R.cells ∧ slots ≤ R.slots) (hdg : decode cc pc = .ok (.invokevirtual idx, 3)) (kk : ∀ (H1 : Heap) (locs1 : List Loc), Wh G z y H1 → va_S (gF G) H0 H1 locs1 → W p l e R s m args below meth c H1 locs1 cells slots Q (F0 m (pc + 3) ls (rest))) : W p l e R s m args below meth c H locs cells slots Q (F0 m pc ls (.ref (gA G 0 ↑p1.1 ↑p1.2) :: .ref (gA G 2 ↑p0 0) :: .ref (gA G 17 0 0) :: rest)) := by
  refine va_callv (va_runV (As := [.ref (gA G 2 ↑p0 0), .ref (gA G 0 ↑p1.1 ↑p1.2)]) (rest := rest) ⟨hx, hb, hml, hown, htg⟩ (c_X8_act l G x y p0 p1 z h) (cwV 2 htg (gd_V hlk q694 q695 q27 q696) rfl rfl rfl (by decide +kernel) ⟨hR1, hR2⟩) ⟨fun a U g mk q => ⟨q.1, q.2.1.calling, q.2.2⟩, rc_17 hK hW, fun U hU hW9 => ⟨rfl, hK.warm hW9, by rw [hU]; exact hW⟩⟩ rfl rfl hn rfl (lv_room hr) hdg hf) hS (fun _ _ h9 => h9) (fun _ h9 => h9) ?_
  intro u t H1 locs1 ht hvm hw hB hz1 hk1 hS1
  replace hB : Wh G z y t.heap := hB
  rw [ht] at hB
  exact kk H1 locs1 hB hS1
/-! METHOD X8_findOrder -/
def m_X8_findOrder_j33 (p0 : Fin 10) (k2 : Int32 → Mem → Option Mem) (x2 : Int32) (x : Mem) : Option Mem :=
  lt_ (x2 + (1 : Int32)) fun x2_10 => k2 x2_10 x
def m_X8_findOrder_b2 (p0 : Fin 10) (k2 : Int32 → Mem → Option Mem) (x2 : Int32) (x : Mem) : Option Mem :=
  if (3 : Int32) ≤ x2 then (some x) else (bd_ (m_X1_armsBefore p0 x2 x) fun r4 => lt_ r4 fun x3_5 => if x3_5 < 0 then (m_X8_findOrder_j33 p0 k2 x2 x) else (if (3 : Int32) ≤ x3_5 then (m_X8_findOrder_j33 p0 k2 x2 x) else (gd_ x3_5 3 (lt_ (up4 x 18 0 0 x3_5.toNatClampNeg x2) fun x9 => m_X8_findOrder_j33 p0 k2 x2 x9))))
def m_X8_findOrder_l2 (p0 : Fin 10) : Nat → Int32 → Mem → Option Mem
  | 0, _, _ => none
  | n + 1, x2, x => m_X8_findOrder_b2 p0 (m_X8_findOrder_l2 p0 n) x2 x
def m_X8_findOrder (p0 : Fin 10) (x : Mem) : Option Mem :=
  lt_ (0 : Int32) fun x2_1 => m_X8_findOrder_l2 p0 FU x2_1 x
abbrev WS_X8_findOrder : List Cond := .code yX8_findOrder cX8_findOrder 4 none :: wsG
abbrev RM_X8_findOrder : Room := { frames := 2, cells := 0, slots := 0, locals := 46 }
set_option maxHeartbeats 4000000 in
set_option maxRecDepth 100000 in
theorem c_X8_findOrder (l : Launch) (G : Geo) (x y : Mem) (p0 : Fin 10) (r : Mem) (h : m_X8_findOrder p0 x = some r) : Met l yX8_findOrder WS_X8_findOrder RM_X8_findOrder (Pw G x y [.ref (gA G 17 0 0), .ref (gA G 2 ↑p0 0)]) (Qv G r y) 0 0 (gF G) := by
  refine Met.ofW (cc := cX8_findOrder) (maxL := 4) (ret := none) (by decide) rfl ?_
  intro p e s m args below meth c s₁ B hml hv
  obtain ⟨rfl, hK, hW⟩ := hv
  have hx := B.exec
  have hb := B.bytes
  have hr := B.returns
  have hts := atoms_spec (ws := WS_X8_findOrder) B.pre
  have htg : ∀ w ∈ wsG, w.before _ s = true := fun w h => hts w (List.mem_cons_of_mem _ h)
  have hown : s.vm.findClass RX8 = some m.cls := findClass_of_methodNamed B.named
  have hlocks := B.notSynchronized
  have hS : va_S (gF G) s.heap s.heap [] := va_S.rf
  have hl := lv_entry ([.ref (gA G 17 0 0), .ref (gA G 2 ↑p0 0)]) (n := 4) (Nat.le_of_ble_eq_true rfl)
  rw [lg_entry_eq]
  generalize (lg_sl ([.ref (gA G 17 0 0), .ref (gA G 2 ↑p0 0)]) ++ List.replicate (4 - (lg_sl ([.ref (gA G 17 0 0), .ref (gA G 2 ↑p0 0)])).length) Slot.unset).toArray = ls at hl ⊢
  have hl : lv_has ls 4 [(0, .ref (gA G 17 0 0)), (1, .ref (gA G 2 ↑p0 0))] := hl
  have hX := h
  unfold m_X8_findOrder at hX
  have J_33 : ∀ (k2 : Int32 → Mem → Option Mem) (hk2 : ∀ (x2 : Int32) (x : Mem) (H : Heap) (locs : List Loc) (ls : Array Slot), Wh G x y H → va_S (gF G) s.heap H locs → lv_has ls 4 [(0, .ref (gA G 17 0 0)), (1, .ref (gA G 2 ↑p0 0)), (2, .int x2)] → k2 x2 x = some r → W p l e (headSpec WS_X8_findOrder RM_X8_findOrder).room s m ([.ref (gA G 17 0 0), .ref (gA G 2 ↑p0 0)] : List Value).toArray below meth c H locs 0 0 (MQ below (Qv G r y) ([.ref (gA G 17 0 0), .ref (gA G 2 ↑p0 0)] : List Value).toArray s 0 0 (gF G)) (F0 m 2 ls [])), ∀ (x2 : Int32) (x : Mem) (H : Heap) (locs : List Loc) (ls : Array Slot), Wh G x y H → va_S (gF G) s.heap H locs → lv_has ls 4 [(0, .ref (gA G 17 0 0)), (1, .ref (gA G 2 ↑p0 0)), (2, .int x2)] → m_X8_findOrder_j33 p0 k2 x2 x = some r → W p l e (headSpec WS_X8_findOrder RM_X8_findOrder).room s m ([.ref (gA G 17 0 0), .ref (gA G 2 ↑p0 0)] : List Value).toArray below meth c H locs 0 0 (MQ below (Qv G r y) ([.ref (gA G 17 0 0), .ref (gA G 2 ↑p0 0)] : List Value).toArray s 0 0 (gF G)) (F0 m 33 ls []) := by
    intro k2 hk2 x2 x H locs ls hW hS hl hX
    unfold m_X8_findOrder_j33 at hX
    obtain ⟨x2_10, e9⟩ : ∃ w : Int32, w = (x2 + (1 : Int32)) := ⟨_, rfl⟩
    have hX := lt_go hX e9
    refine lv_iinc (v := x2_10) (lv' := [(2, .int x2_10), (0, .ref (gA G 17 0 0)), (1, .ref (gA G 2 ↑p0 0))]) hx hb dX8_findOrder_33 hl (k := 2) rfl (by rw [e9]; rfl) (by decide) rfl (fun ls hl => ?_)
    refine lv_goto (tgt := 2) hx hb dX8_findOrder_36 (by decide) ?_
    exact hk2 _ _ _ _ _ hW hS (lv_sub hl [1, 2, 0] rfl) hX
  have B_2 : ∀ (k2 : Int32 → Mem → Option Mem) (hk2 : ∀ (x2 : Int32) (x : Mem) (H : Heap) (locs : List Loc) (ls : Array Slot), Wh G x y H → va_S (gF G) s.heap H locs → lv_has ls 4 [(0, .ref (gA G 17 0 0)), (1, .ref (gA G 2 ↑p0 0)), (2, .int x2)] → k2 x2 x = some r → W p l e (headSpec WS_X8_findOrder RM_X8_findOrder).room s m ([.ref (gA G 17 0 0), .ref (gA G 2 ↑p0 0)] : List Value).toArray below meth c H locs 0 0 (MQ below (Qv G r y) ([.ref (gA G 17 0 0), .ref (gA G 2 ↑p0 0)] : List Value).toArray s 0 0 (gF G)) (F0 m 2 ls [])), ∀ (x2 : Int32) (x : Mem) (H : Heap) (locs : List Loc) (ls : Array Slot), Wh G x y H → va_S (gF G) s.heap H locs → lv_has ls 4 [(0, .ref (gA G 17 0 0)), (1, .ref (gA G 2 ↑p0 0)), (2, .int x2)] → m_X8_findOrder_b2 p0 k2 x2 x = some r → W p l e (headSpec WS_X8_findOrder RM_X8_findOrder).room s m ([.ref (gA G 17 0 0), .ref (gA G 2 ↑p0 0)] : List Value).toArray below meth c H locs 0 0 (MQ below (Qv G r y) ([.ref (gA G 17 0 0), .ref (gA G 2 ↑p0 0)] : List Value).toArray s 0 0 (gF G)) (F0 m 2 ls []) := by
    intro k2 hk2 x2 x H locs ls hW hS hl hX
    unfold m_X8_findOrder_b2 at hX
    refine lv_iload_n hx hb dX8_findOrder_2 rfl (lv_at hl 2 rfl) ?_
    refine lv_iconst (v := (3 : Int32)) hx hb dX8_findOrder_3 (by decide) ?_
    refine lv_icmp_ge (tgt := 39) hx hb dX8_findOrder_4 (by decide) (fun c2 => ?_) (fun c2 => ?_)
    · have hX := it_t hX c2
      have hX := Option.some.inj hX
      subst hX
      exact rt_v hx hb hr hlocks hW hS dX8_findOrder_39
    · have hX := it_f hX c2
      refine lv_aload_n hx hb dX8_findOrder_7 rfl (lv_at hl 1 rfl) ?_
      refine lv_iload_n hx hb dX8_findOrder_8 rfl (lv_at hl 2 rfl) ?_
      obtain ⟨r4, h3, hX⟩ := bd_go hX
      refine k_X1_armsBefore hx hb hml hown htg hK hW hS h3 q688 hl.1 (Nat.le_of_ble_eq_true rfl) (Nat.le_of_ble_eq_true rfl) (Nat.le_of_ble_eq_true rfl) ⟨Nat.zero_le _, Nat.zero_le _⟩ dX8_findOrder_9 (fun H locs hW hS => ?_)
      refine lv_topi (fun x3_5 e9 => ?_)
      have hX := lt_go hX e9
      refine lv_istore_n (lv' := [(3, .int x3_5), (0, .ref (gA G 17 0 0)), (1, .ref (gA G 2 ↑p0 0)), (2, .int x2)]) hx hb dX8_findOrder_12 rfl hl (by decide) rfl (fun ls hl => ?_)
      refine lv_iload_n hx hb dX8_findOrder_13 rfl (lv_at hl 0 rfl) ?_
      refine lv_if_lt (tgt := 33) hx hb dX8_findOrder_14 (by decide) (fun c6 => ?_) (fun c6 => ?_)
      · have hX := it_t hX c6
        exact J_33 k2 hk2 _ _ _ _ _ hW hS (lv_sub hl [1, 2, 3] rfl) hX
      · have hX := it_f hX c6
        refine lv_iload_n hx hb dX8_findOrder_17 rfl (lv_at hl 0 rfl) ?_
        refine lv_aload_n hx hb dX8_findOrder_18 rfl (lv_at hl 1 rfl) ?_
        refine gf_17_1 hx hb htg hown hK hW q111 dX8_findOrder_19 ?_
        refine an_18 hx hb hK hW dX8_findOrder_22 ?_
        refine lv_icmp_ge (tgt := 33) hx hb dX8_findOrder_23 (by decide) (fun c7 => ?_) (fun c7 => ?_)
        · have hX := it_t hX c7
          exact J_33 k2 hk2 _ _ _ _ _ hW hS (lv_sub hl [1, 2, 3] rfl) hX
        · have hX := it_f hX c7
          refine lv_aload_n hx hb dX8_findOrder_26 rfl (lv_at hl 1 rfl) ?_
          refine gf_17_1 hx hb htg hown hK hW q111 dX8_findOrder_27 ?_
          refine lv_iload_n hx hb dX8_findOrder_30 rfl (lv_at hl 0 rfl) ?_
          refine lv_iload_n hx hb dX8_findOrder_31 rfl (lv_at hl 3 rfl) ?_
          obtain ⟨g8, hX⟩ := gd_go hX
          refine as_18 hx hb hK hW hS g8 dX8_findOrder_32 (fun H locs hW hS => ?_)
          obtain ⟨x9, e9⟩ : ∃ w : Mem, w = (up4 x 18 0 0 x3_5.toNatClampNeg x2) := ⟨_, rfl⟩
          rw [← e9] at hW
          have hX := lt_go hX e9
          exact J_33 k2 hk2 _ _ _ _ _ hW hS (lv_sub hl [1, 2, 3] rfl) hX
  have L_2 : ∀ (n : Nat), ∀ (x2 : Int32) (x : Mem) (H : Heap) (locs : List Loc) (ls : Array Slot), Wh G x y H → va_S (gF G) s.heap H locs → lv_has ls 4 [(0, .ref (gA G 17 0 0)), (1, .ref (gA G 2 ↑p0 0)), (2, .int x2)] → m_X8_findOrder_l2 p0 n x2 x = some r → W p l e (headSpec WS_X8_findOrder RM_X8_findOrder).room s m ([.ref (gA G 17 0 0), .ref (gA G 2 ↑p0 0)] : List Value).toArray below meth c H locs 0 0 (MQ below (Qv G r y) ([.ref (gA G 17 0 0), .ref (gA G 2 ↑p0 0)] : List Value).toArray s 0 0 (gF G)) (F0 m 2 ls []) := by
    intro n
    induction n with
    | zero => intro x2 x H locs ls hW hS hl hX; exact no_go hX
    | succ n ih => intro x2 x H locs ls hW hS hl hX; exact B_2 _ ih _ _ _ _ _ hW hS hl hX
  refine lv_iconst (v := (0 : Int32)) hx hb dX8_findOrder_0 (by decide) ?_
  refine lv_topi (fun x2_1 e9 => ?_)
  have hX := lt_go hX e9
  refine lv_istore_n (lv' := [(2, .int x2_1), (0, .ref (gA G 17 0 0)), (1, .ref (gA G 2 ↑p0 0))]) hx hb dX8_findOrder_1 rfl hl (by decide) rfl (fun ls hl => ?_)
  exact L_2 FU _ _ _ _ _ hW hS (lv_sub hl [1, 2, 0] rfl) hX
set_option maxHeartbeats 4000000 in
theorem k_X8_findOrder {p : Program} {l : Launch} {e : Env} {R : Room} {s : State} {m : MethodId} {args : Array Value} {below : List Frame} {meth : Method} {c : Code} {H : Heap} {locs : List Loc} {cells slots : Nat} {Q : State → Prop} {cc : ByteArray} {pc nL idx : Nat} {own : String} {ls : Array Slot} {rest : List Value} {G : Geo} {x y : Mem} {H0 : Heap} {p0 : Fin 10} {z : Mem} (hx : p.tables.exec = Jvm.exec) (hb : c.code = cc) (hml : c.maxLocals = nL) (hown : s.vm.findClass own = some m.cls) (htg : ∀ w ∈ wsG, w.before args s = true) (hK : Kt G s) (hW : Wh G x y H) (hS : va_S (gF G) H0 H locs) (h : m_X8_findOrder p0 x = some z) (hlk : Cond.methodLink own idx yX8_findOrder ∈ wsG) (hn : ls.size = nL) (hr : (rest.map fun v => v.category).sum ≤ 8) (hR1 : 2 + 1 ≤ R.frames) (hR2 : 8 + (4 + 11) + 46 ≤ R.locals) (hf : cells ≤ R.cells ∧ slots ≤ R.slots) (hdg : decode cc pc = .ok (.invokevirtual idx, 3)) (kk : ∀ (H1 : Heap) (locs1 : List Loc), Wh G z y H1 → va_S (gF G) H0 H1 locs1 → W p l e R s m args below meth c H1 locs1 cells slots Q (F0 m (pc + 3) ls (rest))) : W p l e R s m args below meth c H locs cells slots Q (F0 m pc ls (.ref (gA G 2 ↑p0 0) :: .ref (gA G 17 0 0) :: rest)) := by
  refine va_callv (va_runV (As := [.ref (gA G 2 ↑p0 0)]) (rest := rest) ⟨hx, hb, hml, hown, htg⟩ (c_X8_findOrder l G x y p0 z h) (cwV 1 htg (gd_V hlk q685 q686 q27 q687) rfl rfl rfl (by decide +kernel) ⟨hR1, hR2⟩) ⟨fun a U g mk q => ⟨q.1, q.2.1.calling, q.2.2⟩, rc_17 hK hW, fun U hU hW9 => ⟨rfl, hK.warm hW9, by rw [hU]; exact hW⟩⟩ rfl rfl hn rfl (lv_room hr) hdg hf) hS (fun _ _ h9 => h9) (fun _ h9 => h9) ?_
  intro u t H1 locs1 ht hvm hw hB hz1 hk1 hS1
  replace hB : Wh G z y t.heap := hB
  rw [ht] at hB
  exact kk H1 locs1 hB hS1
/-! METHOD X8_makeTick -/
def m_X8_makeTick_b17 (p0 : Fin 10) (k17 : Int32 → Mem → Option Mem) (x2 : Int32) (x : Mem) : Option Mem :=
  if (3 : Int32) ≤ x2 then (bd_ (m_X1_countTick p0 x) fun x9 => some x9) else (gd_ x2 3 (bd_ (m_X1_armAt p0 (x 18 0 0 x2.toNatClampNeg)) fun r12 => bd_ (m_X8_act p0 r12 x) fun x15 => lt_ (x2 + (1 : Int32)) fun x2_16 => k17 x2_16 x15))
def m_X8_makeTick_l17 (p0 : Fin 10) : Nat → Int32 → Mem → Option Mem
  | 0, _, _ => none
  | n + 1, x2, x => m_X8_makeTick_b17 p0 (m_X8_makeTick_l17 p0 n) x2 x
def m_X8_makeTick (p0 : Fin 10) (x : Mem) : Option Mem :=
  lt_ (up4 x 2 ↑p0 0 0 ((x 2 ↑p0 0 0) + (1 : Int32))) fun x1 => bd_ (m_X8_findOrder p0 x1) fun x4 => lt_ (0 : Int32) fun x2_5 => m_X8_makeTick_l17 p0 FU x2_5 x4
abbrev WS_X8_makeTick : List Cond := .code yX8_makeTick cX8_makeTick 3 none :: wsG
abbrev RM_X8_makeTick : Room := { frames := 4, cells := 0, slots := 0, locals := 99 }
set_option maxHeartbeats 4000000 in
set_option maxRecDepth 100000 in
theorem c_X8_makeTick (l : Launch) (G : Geo) (x y : Mem) (p0 : Fin 10) (r : Mem) (h : m_X8_makeTick p0 x = some r) : Met l yX8_makeTick WS_X8_makeTick RM_X8_makeTick (Pw G x y [.ref (gA G 17 0 0), .ref (gA G 2 ↑p0 0)]) (Qv G r y) 0 0 (gF G) := by
  refine Met.ofW (cc := cX8_makeTick) (maxL := 3) (ret := none) (by decide) rfl ?_
  intro p e s m args below meth c s₁ B hml hv
  obtain ⟨rfl, hK, hW⟩ := hv
  have hx := B.exec
  have hb := B.bytes
  have hr := B.returns
  have hts := atoms_spec (ws := WS_X8_makeTick) B.pre
  have htg : ∀ w ∈ wsG, w.before _ s = true := fun w h => hts w (List.mem_cons_of_mem _ h)
  have hown : s.vm.findClass RX8 = some m.cls := findClass_of_methodNamed B.named
  have hlocks := B.notSynchronized
  have hS : va_S (gF G) s.heap s.heap [] := va_S.rf
  have hl := lv_entry ([.ref (gA G 17 0 0), .ref (gA G 2 ↑p0 0)]) (n := 3) (Nat.le_of_ble_eq_true rfl)
  rw [lg_entry_eq]
  generalize (lg_sl ([.ref (gA G 17 0 0), .ref (gA G 2 ↑p0 0)]) ++ List.replicate (3 - (lg_sl ([.ref (gA G 17 0 0), .ref (gA G 2 ↑p0 0)])).length) Slot.unset).toArray = ls at hl ⊢
  have hl : lv_has ls 3 [(0, .ref (gA G 17 0 0)), (1, .ref (gA G 2 ↑p0 0))] := hl
  have hX := h
  unfold m_X8_makeTick at hX
  have B_17 : ∀ (k17 : Int32 → Mem → Option Mem) (hk17 : ∀ (x2 : Int32) (x : Mem) (H : Heap) (locs : List Loc) (ls : Array Slot), Wh G x y H → va_S (gF G) s.heap H locs → lv_has ls 3 [(0, .ref (gA G 17 0 0)), (1, .ref (gA G 2 ↑p0 0)), (2, .int x2)] → k17 x2 x = some r → W p l e (headSpec WS_X8_makeTick RM_X8_makeTick).room s m ([.ref (gA G 17 0 0), .ref (gA G 2 ↑p0 0)] : List Value).toArray below meth c H locs 0 0 (MQ below (Qv G r y) ([.ref (gA G 17 0 0), .ref (gA G 2 ↑p0 0)] : List Value).toArray s 0 0 (gF G)) (F0 m 17 ls [])), ∀ (x2 : Int32) (x : Mem) (H : Heap) (locs : List Loc) (ls : Array Slot), Wh G x y H → va_S (gF G) s.heap H locs → lv_has ls 3 [(0, .ref (gA G 17 0 0)), (1, .ref (gA G 2 ↑p0 0)), (2, .int x2)] → m_X8_makeTick_b17 p0 k17 x2 x = some r → W p l e (headSpec WS_X8_makeTick RM_X8_makeTick).room s m ([.ref (gA G 17 0 0), .ref (gA G 2 ↑p0 0)] : List Value).toArray below meth c H locs 0 0 (MQ below (Qv G r y) ([.ref (gA G 17 0 0), .ref (gA G 2 ↑p0 0)] : List Value).toArray s 0 0 (gF G)) (F0 m 17 ls []) := by
    intro k17 hk17 x2 x H locs ls hW hS hl hX
    unfold m_X8_makeTick_b17 at hX
    refine lv_iload_n hx hb dX8_makeTick_17 rfl (lv_at hl 2 rfl) ?_
    refine lv_aload_n hx hb dX8_makeTick_18 rfl (lv_at hl 0 rfl) ?_
    refine gf_17_1 hx hb htg hown hK hW q111 dX8_makeTick_19 ?_
    refine an_18 hx hb hK hW dX8_makeTick_22 ?_
    refine lv_icmp_ge (tgt := 47) hx hb dX8_makeTick_23 (by decide) (fun c6 => ?_) (fun c6 => ?_)
    · have hX := it_t hX c6
      refine lv_aload_n hx hb dX8_makeTick_47 rfl (lv_at hl 1 rfl) ?_
      obtain ⟨x9, h7, hX⟩ := bd_go hX
      refine k_X1_countTick hx hb hml hown htg hK hW hS h7 q828 hl.1 (Nat.le_of_ble_eq_true rfl) (Nat.le_of_ble_eq_true rfl) (Nat.le_of_ble_eq_true rfl) ⟨Nat.zero_le _, Nat.zero_le _⟩ dX8_makeTick_48 (fun H locs hW hS => ?_)
      have hX := Option.some.inj hX
      subst hX
      exact rt_v hx hb hr hlocks hW hS dX8_makeTick_51
    · have hX := it_f hX c6
      refine lv_aload_n hx hb dX8_makeTick_26 rfl (lv_at hl 0 rfl) ?_
      refine lv_aload_n hx hb dX8_makeTick_27 rfl (lv_at hl 1 rfl) ?_
      refine lv_aload_n hx hb dX8_makeTick_28 rfl (lv_at hl 1 rfl) ?_
      refine lv_aload_n hx hb dX8_makeTick_29 rfl (lv_at hl 0 rfl) ?_
      refine gf_17_1 hx hb htg hown hK hW q111 dX8_makeTick_30 ?_
      refine lv_iload_n hx hb dX8_makeTick_33 rfl (lv_at hl 2 rfl) ?_
      obtain ⟨g10, hX⟩ := gd_go hX
      refine al_18 hx hb hK hW g10 dX8_makeTick_34 ?_
      obtain ⟨r12, h11, hX⟩ := bd_go hX
      refine k_X1_armAt hx hb hml hown htg hK hW hS h11 q692 hl.1 (Nat.le_of_ble_eq_true rfl) (Nat.le_of_ble_eq_true rfl) (Nat.le_of_ble_eq_true rfl) ⟨Nat.zero_le _, Nat.zero_le _⟩ dX8_makeTick_35 (fun H locs hW hS => ?_)
      obtain ⟨x15, h13, hX⟩ := bd_go hX
      refine k_X8_act hx hb hml hown htg hK hW hS h13 q693 hl.1 (Nat.le_of_ble_eq_true rfl) (Nat.le_of_ble_eq_true rfl) (Nat.le_of_ble_eq_true rfl) ⟨Nat.zero_le _, Nat.zero_le _⟩ dX8_makeTick_38 (fun H locs hW hS => ?_)
      obtain ⟨x2_16, e9⟩ : ∃ w : Int32, w = (x2 + (1 : Int32)) := ⟨_, rfl⟩
      have hX := lt_go hX e9
      refine lv_iinc (v := x2_16) (lv' := [(2, .int x2_16), (0, .ref (gA G 17 0 0)), (1, .ref (gA G 2 ↑p0 0))]) hx hb dX8_makeTick_41 hl (k := 2) rfl (by rw [e9]; rfl) (by decide) rfl (fun ls hl => ?_)
      refine lv_goto (tgt := 17) hx hb dX8_makeTick_44 (by decide) ?_
      exact hk17 _ _ _ _ _ hW hS (lv_sub hl [1, 2, 0] rfl) hX
  have L_17 : ∀ (n : Nat), ∀ (x2 : Int32) (x : Mem) (H : Heap) (locs : List Loc) (ls : Array Slot), Wh G x y H → va_S (gF G) s.heap H locs → lv_has ls 3 [(0, .ref (gA G 17 0 0)), (1, .ref (gA G 2 ↑p0 0)), (2, .int x2)] → m_X8_makeTick_l17 p0 n x2 x = some r → W p l e (headSpec WS_X8_makeTick RM_X8_makeTick).room s m ([.ref (gA G 17 0 0), .ref (gA G 2 ↑p0 0)] : List Value).toArray below meth c H locs 0 0 (MQ below (Qv G r y) ([.ref (gA G 17 0 0), .ref (gA G 2 ↑p0 0)] : List Value).toArray s 0 0 (gF G)) (F0 m 17 ls []) := by
    intro n
    induction n with
    | zero => intro x2 x H locs ls hW hS hl hX; exact no_go hX
    | succ n ih => intro x2 x H locs ls hW hS hl hX; exact B_17 _ ih _ _ _ _ _ hW hS hl hX
  refine lv_aload_n hx hb dX8_makeTick_0 rfl (lv_at hl 1 rfl) ?_
  refine lv_dup hx hb dX8_makeTick_1 rfl ?_
  refine gf_2_0 hx hb htg hown hK hW p0 q683 dX8_makeTick_2 ?_
  refine lv_iconst (v := (1 : Int32)) hx hb dX8_makeTick_5 (by decide) ?_
  refine lv_iadd hx hb dX8_makeTick_6 ?_
  refine pf_2_0 hx hb htg hown hK hW hS p0 q683 dX8_makeTick_7 (fun H locs hW hS => ?_)
  obtain ⟨x1, e9⟩ : ∃ w : Mem, w = (up4 x 2 ↑p0 0 0 ((x 2 ↑p0 0 0) + (1 : Int32))) := ⟨_, rfl⟩
  rw [← e9] at hW
  have hX := lt_go hX e9
  refine lv_aload_n hx hb dX8_makeTick_10 rfl (lv_at hl 0 rfl) ?_
  refine lv_aload_n hx hb dX8_makeTick_11 rfl (lv_at hl 1 rfl) ?_
  obtain ⟨x4, h2, hX⟩ := bd_go hX
  refine k_X8_findOrder hx hb hml hown htg hK hW hS h2 q684 hl.1 (Nat.le_of_ble_eq_true rfl) (Nat.le_of_ble_eq_true rfl) (Nat.le_of_ble_eq_true rfl) ⟨Nat.zero_le _, Nat.zero_le _⟩ dX8_makeTick_12 (fun H locs hW hS => ?_)
  refine lv_iconst (v := (0 : Int32)) hx hb dX8_makeTick_15 (by decide) ?_
  refine lv_topi (fun x2_5 e9 => ?_)
  have hX := lt_go hX e9
  refine lv_istore_n (lv' := [(2, .int x2_5), (0, .ref (gA G 17 0 0)), (1, .ref (gA G 2 ↑p0 0))]) hx hb dX8_makeTick_16 rfl hl (by decide) rfl (fun ls hl => ?_)
  exact L_17 FU _ _ _ _ _ hW hS (lv_sub hl [1, 2, 0] rfl) hX
set_option maxHeartbeats 4000000 in
theorem k_X8_makeTick {p : Program} {l : Launch} {e : Env} {R : Room} {s : State} {m : MethodId} {args : Array Value} {below : List Frame} {meth : Method} {c : Code} {H : Heap} {locs : List Loc} {cells slots : Nat} {Q : State → Prop} {cc : ByteArray} {pc nL idx : Nat} {own : String} {ls : Array Slot} {rest : List Value} {G : Geo} {x y : Mem} {H0 : Heap} {p0 : Fin 10} {z : Mem} (hx : p.tables.exec = Jvm.exec) (hb : c.code = cc) (hml : c.maxLocals = nL) (hown : s.vm.findClass own = some m.cls) (htg : ∀ w ∈ wsG, w.before args s = true) (hK : Kt G s) (hW : Wh G x y H) (hS : va_S (gF G) H0 H locs) (h : m_X8_makeTick p0 x = some z) (hlk : Cond.methodLink own idx yX8_makeTick ∈ wsG) (hn : ls.size = nL) (hr : (rest.map fun v => v.category).sum ≤ 8) (hR1 : 4 + 1 ≤ R.frames) (hR2 : 8 + (3 + 11) + 99 ≤ R.locals) (hf : cells ≤ R.cells ∧ slots ≤ R.slots) (hdg : decode cc pc = .ok (.invokevirtual idx, 3)) (kk : ∀ (H1 : Heap) (locs1 : List Loc), Wh G z y H1 → va_S (gF G) H0 H1 locs1 → W p l e R s m args below meth c H1 locs1 cells slots Q (F0 m (pc + 3) ls (rest))) : W p l e R s m args below meth c H locs cells slots Q (F0 m pc ls (.ref (gA G 2 ↑p0 0) :: .ref (gA G 17 0 0) :: rest)) := by
  refine va_callv (va_runV (As := [.ref (gA G 2 ↑p0 0)]) (rest := rest) ⟨hx, hb, hml, hown, htg⟩ (c_X8_makeTick l G x y p0 z h) (cwV 1 htg (gd_V hlk q680 q681 q27 q682) rfl rfl rfl (by decide +kernel) ⟨hR1, hR2⟩) ⟨fun a U g mk q => ⟨q.1, q.2.1.calling, q.2.2⟩, rc_17 hK hW, fun U hU hW9 => ⟨rfl, hK.warm hW9, by rw [hU]; exact hW⟩⟩ rfl rfl hn rfl (lv_room hr) hdg hf) hS (fun _ _ h9 => h9) (fun _ h9 => h9) ?_
  intro u t H1 locs1 ht hvm hw hB hz1 hk1 hS1
  replace hB : Wh G z y t.heap := hB
  rw [ht] at hB
  exact kk H1 locs1 hB hS1
/-! METHOD X9_about -/
def m_X9_about (p0 : Fin 10 × Fin 4) (p1 : Int32) (x : Mem) : Option Int32 :=
  if p1 = (0 : Int32) then (some (x 9 ↑p0.1 ↑p0.2 0)) else if p1 = (1 : Int32) then (some (x 9 ↑p0.1 ↑p0.2 1)) else if p1 = (2 : Int32) then (some (x 9 ↑p0.1 ↑p0.2 2)) else if p1 = (3 : Int32) then (some (x 9 ↑p0.1 ↑p0.2 3)) else if p1 = (4 : Int32) then (some (x 9 ↑p0.1 ↑p0.2 4)) else (some (x 9 ↑p0.1 ↑p0.2 5))
abbrev WS_X9_about : List Cond := .code yX9_about cX9_about 2 (some .int) :: wsG
abbrev RM_X9_about : Room := { frames := 0, cells := 0, slots := 0, locals := 0 }
set_option maxHeartbeats 4000000 in
set_option maxRecDepth 100000 in
theorem c_X9_about (l : Launch) (G : Geo) (x y : Mem) (p0 : Fin 10 × Fin 4) (p1 : Int32) (r : Int32) (h : m_X9_about p0 p1 x = some r) : Met l yX9_about WS_X9_about RM_X9_about (Pw G x y [.ref (gA G 9 ↑p0.1 ↑p0.2), .int p1]) (Qi G x y r) 0 0 (gF G) := by
  refine Met.ofW (cc := cX9_about) (maxL := 2) (ret := (some .int)) (by decide) rfl ?_
  intro p e s m args below meth c s₁ B hml hv
  obtain ⟨rfl, hK, hW⟩ := hv
  have hx := B.exec
  have hb := B.bytes
  have hr := B.returns
  have hts := atoms_spec (ws := WS_X9_about) B.pre
  have htg : ∀ w ∈ wsG, w.before _ s = true := fun w h => hts w (List.mem_cons_of_mem _ h)
  have hown : s.vm.findClass RX9 = some m.cls := findClass_of_methodNamed B.named
  have hlocks := B.notSynchronized
  have hS : va_S (gF G) s.heap s.heap [] := va_S.rf
  have hl := lv_entry ([.ref (gA G 9 ↑p0.1 ↑p0.2), .int p1]) (n := 2) (Nat.le_of_ble_eq_true rfl)
  rw [lg_entry_eq]
  generalize (lg_sl ([.ref (gA G 9 ↑p0.1 ↑p0.2), .int p1]) ++ List.replicate (2 - (lg_sl ([.ref (gA G 9 ↑p0.1 ↑p0.2), .int p1])).length) Slot.unset).toArray = ls at hl ⊢
  have hl : lv_has ls 2 [(0, .ref (gA G 9 ↑p0.1 ↑p0.2)), (1, .int p1)] := hl
  have hX := h
  unfold m_X9_about at hX
  refine lv_iload_n hx hb dX9_about_0 rfl (lv_at hl 1 rfl) ?_
  by_cases c1 : p1 = (0 : Int32)
  · have hX := it_t hX c1
    refine lv_tsIn (v := (0 : Int32)) (tgt := 36) hx hb dX9_about_1 c1 rfl (by decide) (by decide) rfl (by decide) ?_
    refine lv_aload_n hx hb dX9_about_36 rfl (lv_at hl 0 rfl) ?_
    refine gf_9_0 hx hb htg hown hK hW p0 q85 dX9_about_37 ?_
    have hX := Option.some.inj hX
    subst hX
    exact rt_i hx hb hr hlocks hW hS dX9_about_40
  have hX := it_f hX c1
  by_cases c2 : p1 = (1 : Int32)
  · have hX := it_t hX c2
    refine lv_tsIn (v := (1 : Int32)) (tgt := 41) hx hb dX9_about_1 c2 rfl (by decide) (by decide) rfl (by decide) ?_
    refine lv_aload_n hx hb dX9_about_41 rfl (lv_at hl 0 rfl) ?_
    refine gf_9_1 hx hb htg hown hK hW p0 q279 dX9_about_42 ?_
    have hX := Option.some.inj hX
    subst hX
    exact rt_i hx hb hr hlocks hW hS dX9_about_45
  have hX := it_f hX c2
  by_cases c3 : p1 = (2 : Int32)
  · have hX := it_t hX c3
    refine lv_tsIn (v := (2 : Int32)) (tgt := 46) hx hb dX9_about_1 c3 rfl (by decide) (by decide) rfl (by decide) ?_
    refine lv_aload_n hx hb dX9_about_46 rfl (lv_at hl 0 rfl) ?_
    refine gf_9_2 hx hb htg hown hK hW p0 q280 dX9_about_47 ?_
    have hX := Option.some.inj hX
    subst hX
    exact rt_i hx hb hr hlocks hW hS dX9_about_50
  have hX := it_f hX c3
  by_cases c4 : p1 = (3 : Int32)
  · have hX := it_t hX c4
    refine lv_tsIn (v := (3 : Int32)) (tgt := 51) hx hb dX9_about_1 c4 rfl (by decide) (by decide) rfl (by decide) ?_
    refine lv_aload_n hx hb dX9_about_51 rfl (lv_at hl 0 rfl) ?_
    refine gf_9_3 hx hb htg hown hK hW p0 q281 dX9_about_52 ?_
    have hX := Option.some.inj hX
    subst hX
    exact rt_i hx hb hr hlocks hW hS dX9_about_55
  have hX := it_f hX c4
  by_cases c5 : p1 = (4 : Int32)
  · have hX := it_t hX c5
    refine lv_tsIn (v := (4 : Int32)) (tgt := 56) hx hb dX9_about_1 c5 rfl (by decide) (by decide) rfl (by decide) ?_
    refine lv_aload_n hx hb dX9_about_56 rfl (lv_at hl 0 rfl) ?_
    refine gf_9_4 hx hb htg hown hK hW p0 q282 dX9_about_57 ?_
    have hX := Option.some.inj hX
    subst hX
    exact rt_i hx hb hr hlocks hW hS dX9_about_60
  have hX := it_f hX c5
  refine lv_tsOut (n := 4) (tgt := 61) hx hb dX9_about_1 (by decide) (fun j hj => match j, hj with | 0, _ => c1 | 1, _ => c2 | 2, _ => c3 | 3, _ => c4 | 4, _ => c5 | j + 5, hj => absurd hj (by omega)) (by decide) ?_
  refine lv_aload_n hx hb dX9_about_61 rfl (lv_at hl 0 rfl) ?_
  refine gf_9_5 hx hb htg hown hK hW p0 q283 dX9_about_62 ?_
  have hX := Option.some.inj hX
  subst hX
  exact rt_i hx hb hr hlocks hW hS dX9_about_65
set_option maxHeartbeats 4000000 in
theorem k_X9_about {p : Program} {l : Launch} {e : Env} {R : Room} {s : State} {m : MethodId} {args : Array Value} {below : List Frame} {meth : Method} {c : Code} {H : Heap} {locs : List Loc} {cells slots : Nat} {Q : State → Prop} {cc : ByteArray} {pc nL idx : Nat} {own : String} {ls : Array Slot} {rest : List Value} {G : Geo} {x y : Mem} {H0 : Heap} {p0 : Fin 10 × Fin 4} {p1 : Int32} {v : Int32} (hx : p.tables.exec = Jvm.exec) (hb : c.code = cc) (hml : c.maxLocals = nL) (hown : s.vm.findClass own = some m.cls) (htg : ∀ w ∈ wsG, w.before args s = true) (hK : Kt G s) (hW : Wh G x y H) (hS : va_S (gF G) H0 H locs) (h : m_X9_about p0 p1 x = some v) (hlk : Cond.methodLink own idx yX9_about ∈ wsG) (hn : ls.size = nL) (hr : (rest.map fun v => v.category).sum ≤ 8) (hR1 : 0 + 1 ≤ R.frames) (hR2 : 8 + (2 + 11) + 0 ≤ R.locals) (hf : cells ≤ R.cells ∧ slots ≤ R.slots) (hdg : decode cc pc = .ok (.invokevirtual idx, 3)) (kk : ∀ (H1 : Heap) (locs1 : List Loc), Wh G x y H1 → va_S (gF G) H0 H1 locs1 → W p l e R s m args below meth c H1 locs1 cells slots Q (F0 m (pc + 3) ls (.int v :: rest))) : W p l e R s m args below meth c H locs cells slots Q (F0 m pc ls (.int p1 :: .ref (gA G 9 ↑p0.1 ↑p0.2) :: rest)) := by
  refine va_calli (va_runV (As := [.int p1]) (rest := rest) ⟨hx, hb, hml, hown, htg⟩ (c_X9_about l G x y p0 p1 v h) (cwV 1 htg (gd_V hlk q502 q503 q51 q504) rfl rfl rfl (by decide +kernel) ⟨hR1, hR2⟩) ⟨fun a U g mk q => ⟨q.1, q.2.1.calling, q.2.2⟩, rc_9 hK hW p0, fun U hU hW9 => ⟨rfl, hK.warm hW9, by rw [hU]; exact hW⟩⟩ rfl rfl hn rfl (lv_room hr) hdg hf) hS (fun _ _ h9 => h9) (fun _ h9 => h9) ?_
  intro r9 u t H1 locs1 ht hvm hw hB hz1 hk1 hS1
  replace hB : Wh G x y t.heap := hB
  rw [ht] at hB
  replace hw : r9 = v := hw
  subst hw
  exact kk H1 locs1 hB hS1
/-! METHOD X9_partAt -/
def m_X9_partAt (p0 : Fin 10 × Fin 4) (p1 : Int32) (x : Mem) : Option Int32 :=
  if p1 < 0 then (some (-1 : Int32)) else (if (x 9 ↑p0.1 ↑p0.2 1) ≤ p1 then (some (-1 : Int32)) else (if (4 : Int32) ≤ p1 then (some (-1 : Int32)) else (gd_ p1 4 (some (x 10 ↑p0.1 ↑p0.2 p1.toNatClampNeg)))))
abbrev WS_X9_partAt : List Cond := .code yX9_partAt cX9_partAt 2 (some .int) :: wsG
abbrev RM_X9_partAt : Room := { frames := 0, cells := 0, slots := 0, locals := 0 }
set_option maxHeartbeats 4000000 in
set_option maxRecDepth 100000 in
theorem c_X9_partAt (l : Launch) (G : Geo) (x y : Mem) (p0 : Fin 10 × Fin 4) (p1 : Int32) (r : Int32) (h : m_X9_partAt p0 p1 x = some r) : Met l yX9_partAt WS_X9_partAt RM_X9_partAt (Pw G x y [.ref (gA G 9 ↑p0.1 ↑p0.2), .int p1]) (Qi G x y r) 0 0 (gF G) := by
  refine Met.ofW (cc := cX9_partAt) (maxL := 2) (ret := (some .int)) (by decide) rfl ?_
  intro p e s m args below meth c s₁ B hml hv
  obtain ⟨rfl, hK, hW⟩ := hv
  have hx := B.exec
  have hb := B.bytes
  have hr := B.returns
  have hts := atoms_spec (ws := WS_X9_partAt) B.pre
  have htg : ∀ w ∈ wsG, w.before _ s = true := fun w h => hts w (List.mem_cons_of_mem _ h)
  have hown : s.vm.findClass RX9 = some m.cls := findClass_of_methodNamed B.named
  have hlocks := B.notSynchronized
  have hS : va_S (gF G) s.heap s.heap [] := va_S.rf
  have hl := lv_entry ([.ref (gA G 9 ↑p0.1 ↑p0.2), .int p1]) (n := 2) (Nat.le_of_ble_eq_true rfl)
  rw [lg_entry_eq]
  generalize (lg_sl ([.ref (gA G 9 ↑p0.1 ↑p0.2), .int p1]) ++ List.replicate (2 - (lg_sl ([.ref (gA G 9 ↑p0.1 ↑p0.2), .int p1])).length) Slot.unset).toArray = ls at hl ⊢
  have hl : lv_has ls 2 [(0, .ref (gA G 9 ↑p0.1 ↑p0.2)), (1, .int p1)] := hl
  have hX := h
  unfold m_X9_partAt at hX
  refine lv_iload_n hx hb dX9_partAt_0 rfl (lv_at hl 1 rfl) ?_
  refine lv_if_lt (tgt := 30) hx hb dX9_partAt_1 (by decide) (fun c1 => ?_) (fun c1 => ?_)
  · have hX := it_t hX c1
    refine lv_iconst (v := (-1 : Int32)) hx hb dX9_partAt_30 (by decide) ?_
    have hX := Option.some.inj hX
    subst hX
    exact rt_i hx hb hr hlocks hW hS dX9_partAt_31
  · have hX := it_f hX c1
    refine lv_iload_n hx hb dX9_partAt_4 rfl (lv_at hl 1 rfl) ?_
    refine lv_aload_n hx hb dX9_partAt_5 rfl (lv_at hl 0 rfl) ?_
    refine gf_9_1 hx hb htg hown hK hW p0 q279 dX9_partAt_6 ?_
    refine lv_icmp_ge (tgt := 30) hx hb dX9_partAt_9 (by decide) (fun c2 => ?_) (fun c2 => ?_)
    · have hX := it_t hX c2
      refine lv_iconst (v := (-1 : Int32)) hx hb dX9_partAt_30 (by decide) ?_
      have hX := Option.some.inj hX
      subst hX
      exact rt_i hx hb hr hlocks hW hS dX9_partAt_31
    · have hX := it_f hX c2
      refine lv_iload_n hx hb dX9_partAt_12 rfl (lv_at hl 1 rfl) ?_
      refine lv_aload_n hx hb dX9_partAt_13 rfl (lv_at hl 0 rfl) ?_
      refine gf_9_6 hx hb htg hown hK hW p0 q86 dX9_partAt_14 ?_
      refine an_10 hx hb hK hW p0 dX9_partAt_17 ?_
      refine lv_icmp_ge (tgt := 30) hx hb dX9_partAt_18 (by decide) (fun c3 => ?_) (fun c3 => ?_)
      · have hX := it_t hX c3
        refine lv_iconst (v := (-1 : Int32)) hx hb dX9_partAt_30 (by decide) ?_
        have hX := Option.some.inj hX
        subst hX
        exact rt_i hx hb hr hlocks hW hS dX9_partAt_31
      · have hX := it_f hX c3
        refine lv_aload_n hx hb dX9_partAt_21 rfl (lv_at hl 0 rfl) ?_
        refine gf_9_6 hx hb htg hown hK hW p0 q86 dX9_partAt_22 ?_
        refine lv_iload_n hx hb dX9_partAt_25 rfl (lv_at hl 1 rfl) ?_
        obtain ⟨g4, hX⟩ := gd_go hX
        refine al_10 hx hb hK hW p0 g4 dX9_partAt_26 ?_
        refine lv_goto (tgt := 31) hx hb dX9_partAt_27 (by decide) ?_
        have hX := Option.some.inj hX
        subst hX
        exact rt_i hx hb hr hlocks hW hS dX9_partAt_31
set_option maxHeartbeats 4000000 in
theorem k_X9_partAt {p : Program} {l : Launch} {e : Env} {R : Room} {s : State} {m : MethodId} {args : Array Value} {below : List Frame} {meth : Method} {c : Code} {H : Heap} {locs : List Loc} {cells slots : Nat} {Q : State → Prop} {cc : ByteArray} {pc nL idx : Nat} {own : String} {ls : Array Slot} {rest : List Value} {G : Geo} {x y : Mem} {H0 : Heap} {p0 : Fin 10 × Fin 4} {p1 : Int32} {v : Int32} (hx : p.tables.exec = Jvm.exec) (hb : c.code = cc) (hml : c.maxLocals = nL) (hown : s.vm.findClass own = some m.cls) (htg : ∀ w ∈ wsG, w.before args s = true) (hK : Kt G s) (hW : Wh G x y H) (hS : va_S (gF G) H0 H locs) (h : m_X9_partAt p0 p1 x = some v) (hlk : Cond.methodLink own idx yX9_partAt ∈ wsG) (hn : ls.size = nL) (hr : (rest.map fun v => v.category).sum ≤ 8) (hR1 : 0 + 1 ≤ R.frames) (hR2 : 8 + (2 + 11) + 0 ≤ R.locals) (hf : cells ≤ R.cells ∧ slots ≤ R.slots) (hdg : decode cc pc = .ok (.invokevirtual idx, 3)) (kk : ∀ (H1 : Heap) (locs1 : List Loc), Wh G x y H1 → va_S (gF G) H0 H1 locs1 → W p l e R s m args below meth c H1 locs1 cells slots Q (F0 m (pc + 3) ls (.int v :: rest))) : W p l e R s m args below meth c H locs cells slots Q (F0 m pc ls (.int p1 :: .ref (gA G 9 ↑p0.1 ↑p0.2) :: rest)) := by
  refine va_calli (va_runV (As := [.int p1]) (rest := rest) ⟨hx, hb, hml, hown, htg⟩ (c_X9_partAt l G x y p0 p1 v h) (cwV 1 htg (gd_V hlk q521 q522 q51 q523) rfl rfl rfl (by decide +kernel) ⟨hR1, hR2⟩) ⟨fun a U g mk q => ⟨q.1, q.2.1.calling, q.2.2⟩, rc_9 hK hW p0, fun U hU hW9 => ⟨rfl, hK.warm hW9, by rw [hU]; exact hW⟩⟩ rfl rfl hn rfl (lv_room hr) hdg hf) hS (fun _ _ h9 => h9) (fun _ h9 => h9) ?_
  intro r9 u t H1 locs1 ht hvm hw hB hz1 hk1 hS1
  replace hB : Wh G x y t.heap := hB
  rw [ht] at hB
  replace hw : r9 = v := hw
  subst hw
  exact kk H1 locs1 hB hS1
/-! METHOD X9_takenPlaces -/
def m_X9_takenPlaces (p0 : Fin 10 × Fin 4) (x : Mem) : Option Int32 :=
  some ((x 9 ↑p0.1 ↑p0.2 1) + (x 9 ↑p0.1 ↑p0.2 2))
abbrev WS_X9_takenPlaces : List Cond := .code yX9_takenPlaces cX9_takenPlaces 1 (some .int) :: wsG
abbrev RM_X9_takenPlaces : Room := { frames := 0, cells := 0, slots := 0, locals := 0 }
set_option maxHeartbeats 4000000 in
set_option maxRecDepth 100000 in
theorem c_X9_takenPlaces (l : Launch) (G : Geo) (x y : Mem) (p0 : Fin 10 × Fin 4) (r : Int32) (h : m_X9_takenPlaces p0 x = some r) : Met l yX9_takenPlaces WS_X9_takenPlaces RM_X9_takenPlaces (Pw G x y [.ref (gA G 9 ↑p0.1 ↑p0.2)]) (Qi G x y r) 0 0 (gF G) := by
  refine Met.ofW (cc := cX9_takenPlaces) (maxL := 1) (ret := (some .int)) (by decide) rfl ?_
  intro p e s m args below meth c s₁ B hml hv
  obtain ⟨rfl, hK, hW⟩ := hv
  have hx := B.exec
  have hb := B.bytes
  have hr := B.returns
  have hts := atoms_spec (ws := WS_X9_takenPlaces) B.pre
  have htg : ∀ w ∈ wsG, w.before _ s = true := fun w h => hts w (List.mem_cons_of_mem _ h)
  have hown : s.vm.findClass RX9 = some m.cls := findClass_of_methodNamed B.named
  have hlocks := B.notSynchronized
  have hS : va_S (gF G) s.heap s.heap [] := va_S.rf
  have hl := lv_entry ([.ref (gA G 9 ↑p0.1 ↑p0.2)]) (n := 1) (Nat.le_of_ble_eq_true rfl)
  rw [lg_entry_eq]
  generalize (lg_sl ([.ref (gA G 9 ↑p0.1 ↑p0.2)]) ++ List.replicate (1 - (lg_sl ([.ref (gA G 9 ↑p0.1 ↑p0.2)])).length) Slot.unset).toArray = ls at hl ⊢
  have hl : lv_has ls 1 [(0, .ref (gA G 9 ↑p0.1 ↑p0.2))] := hl
  have hX := h
  unfold m_X9_takenPlaces at hX
  refine lv_aload_n hx hb dX9_takenPlaces_0 rfl (lv_at hl 0 rfl) ?_
  refine gf_9_1 hx hb htg hown hK hW p0 q279 dX9_takenPlaces_1 ?_
  refine lv_aload_n hx hb dX9_takenPlaces_4 rfl (lv_at hl 0 rfl) ?_
  refine gf_9_2 hx hb htg hown hK hW p0 q280 dX9_takenPlaces_5 ?_
  refine lv_iadd hx hb dX9_takenPlaces_8 ?_
  have hX := Option.some.inj hX
  subst hX
  exact rt_i hx hb hr hlocks hW hS dX9_takenPlaces_9
set_option maxHeartbeats 4000000 in
theorem k_X9_takenPlaces {p : Program} {l : Launch} {e : Env} {R : Room} {s : State} {m : MethodId} {args : Array Value} {below : List Frame} {meth : Method} {c : Code} {H : Heap} {locs : List Loc} {cells slots : Nat} {Q : State → Prop} {cc : ByteArray} {pc nL idx : Nat} {own : String} {ls : Array Slot} {rest : List Value} {G : Geo} {x y : Mem} {H0 : Heap} {p0 : Fin 10 × Fin 4} {v : Int32} (hx : p.tables.exec = Jvm.exec) (hb : c.code = cc) (hml : c.maxLocals = nL) (hown : s.vm.findClass own = some m.cls) (htg : ∀ w ∈ wsG, w.before args s = true) (hK : Kt G s) (hW : Wh G x y H) (hS : va_S (gF G) H0 H locs) (h : m_X9_takenPlaces p0 x = some v) (hlk : Cond.methodLink own idx yX9_takenPlaces ∈ wsG) (hn : ls.size = nL) (hr : (rest.map fun v => v.category).sum ≤ 8) (hR1 : 0 + 1 ≤ R.frames) (hR2 : 8 + (1 + 11) + 0 ≤ R.locals) (hf : cells ≤ R.cells ∧ slots ≤ R.slots) (hdg : decode cc pc = .ok (.invokevirtual idx, 3)) (kk : ∀ (H1 : Heap) (locs1 : List Loc), Wh G x y H1 → va_S (gF G) H0 H1 locs1 → W p l e R s m args below meth c H1 locs1 cells slots Q (F0 m (pc + 3) ls (.int v :: rest))) : W p l e R s m args below meth c H locs cells slots Q (F0 m pc ls (.ref (gA G 9 ↑p0.1 ↑p0.2) :: rest)) := by
  refine va_calli (va_runV (As := []) (rest := rest) ⟨hx, hb, hml, hown, htg⟩ (c_X9_takenPlaces l G x y p0 v h) (cwV 0 htg (gd_V hlk q424 q425 q51 q426) rfl rfl rfl (by decide +kernel) ⟨hR1, hR2⟩) ⟨fun a U g mk q => ⟨q.1, q.2.1.calling, q.2.2⟩, rc_9 hK hW p0, fun U hU hW9 => ⟨rfl, hK.warm hW9, by rw [hU]; exact hW⟩⟩ rfl rfl hn rfl (lv_room hr) hdg hf) hS (fun _ _ h9 => h9) (fun _ h9 => h9) ?_
  intro r9 u t H1 locs1 ht hvm hw hB hz1 hk1 hS1
  replace hB : Wh G x y t.heap := hB
  rw [ht] at hB
  replace hw : r9 = v := hw
  subst hw
  exact kk H1 locs1 hB hS1
/-! METHOD X10_turn -/
def m_X10_turn (p0 : Fin 10) (p1 : Int32) (p2 : Int32) (x : Mem) : Option Mem :=
  if p1 < 0 then (some x) else (if (8 : Int32) ≤ p1 then (some x) else (gd_ p1 8 (lt_ (up4 x 4 ↑p0 0 p1.toNatClampNeg ((x 4 ↑p0 0 p1.toNatClampNeg) ^^^ (shl32 (1 : Int32) p2))) fun x4 => some x4)))
abbrev WS_X10_turn : List Cond := .code yX10_turn cX10_turn 3 none :: wsG
abbrev RM_X10_turn : Room := { frames := 0, cells := 0, slots := 0, locals := 0 }
set_option maxHeartbeats 4000000 in
set_option maxRecDepth 100000 in
theorem c_X10_turn (l : Launch) (G : Geo) (x y : Mem) (p0 : Fin 10) (p1 : Int32) (p2 : Int32) (r : Mem) (h : m_X10_turn p0 p1 p2 x = some r) : Met l yX10_turn WS_X10_turn RM_X10_turn (Pw G x y [.ref (gA G 3 ↑p0 0), .int p1, .int p2]) (Qv G r y) 0 0 (gF G) := by
  refine Met.ofW (cc := cX10_turn) (maxL := 3) (ret := none) (by decide) rfl ?_
  intro p e s m args below meth c s₁ B hml hv
  obtain ⟨rfl, hK, hW⟩ := hv
  have hx := B.exec
  have hb := B.bytes
  have hr := B.returns
  have hts := atoms_spec (ws := WS_X10_turn) B.pre
  have htg : ∀ w ∈ wsG, w.before _ s = true := fun w h => hts w (List.mem_cons_of_mem _ h)
  have hown : s.vm.findClass RX10 = some m.cls := findClass_of_methodNamed B.named
  have hlocks := B.notSynchronized
  have hS : va_S (gF G) s.heap s.heap [] := va_S.rf
  have hl := lv_entry ([.ref (gA G 3 ↑p0 0), .int p1, .int p2]) (n := 3) (Nat.le_of_ble_eq_true rfl)
  rw [lg_entry_eq]
  generalize (lg_sl ([.ref (gA G 3 ↑p0 0), .int p1, .int p2]) ++ List.replicate (3 - (lg_sl ([.ref (gA G 3 ↑p0 0), .int p1, .int p2])).length) Slot.unset).toArray = ls at hl ⊢
  have hl : lv_has ls 3 [(0, .ref (gA G 3 ↑p0 0)), (1, .int p1), (2, .int p2)] := hl
  have hX := h
  unfold m_X10_turn at hX
  refine lv_iload_n hx hb dX10_turn_0 rfl (lv_at hl 1 rfl) ?_
  refine lv_if_lt (tgt := 25) hx hb dX10_turn_1 (by decide) (fun c1 => ?_) (fun c1 => ?_)
  · have hX := it_t hX c1
    have hX := Option.some.inj hX
    subst hX
    exact rt_v hx hb hr hlocks hW hS dX10_turn_25
  · have hX := it_f hX c1
    refine lv_iload_n hx hb dX10_turn_4 rfl (lv_at hl 1 rfl) ?_
    refine lv_aload_n hx hb dX10_turn_5 rfl (lv_at hl 0 rfl) ?_
    refine gf_3_1 hx hb htg hown hK hW p0 q65 dX10_turn_6 ?_
    refine an_4 hx hb hK hW p0 dX10_turn_9 ?_
    refine lv_icmp_ge (tgt := 25) hx hb dX10_turn_10 (by decide) (fun c2 => ?_) (fun c2 => ?_)
    · have hX := it_t hX c2
      have hX := Option.some.inj hX
      subst hX
      exact rt_v hx hb hr hlocks hW hS dX10_turn_25
    · have hX := it_f hX c2
      refine lv_aload_n hx hb dX10_turn_13 rfl (lv_at hl 0 rfl) ?_
      refine gf_3_1 hx hb htg hown hK hW p0 q65 dX10_turn_14 ?_
      refine lv_iload_n hx hb dX10_turn_17 rfl (lv_at hl 1 rfl) ?_
      refine lv_dup2_11 hx hb dX10_turn_18 rfl rfl ?_
      obtain ⟨g3, hX⟩ := gd_go hX
      refine al_4 hx hb hK hW p0 g3 dX10_turn_19 ?_
      refine lv_iconst (v := (1 : Int32)) hx hb dX10_turn_20 (by decide) ?_
      refine lv_iload_n hx hb dX10_turn_21 rfl (lv_at hl 2 rfl) ?_
      refine lv_ishl_ hx hb dX10_turn_22 ?_
      refine lv_ixor hx hb dX10_turn_23 ?_
      refine as_4 hx hb hK hW hS p0 g3 dX10_turn_24 (fun H locs hW hS => ?_)
      obtain ⟨x4, e9⟩ : ∃ w : Mem, w = (up4 x 4 ↑p0 0 p1.toNatClampNeg ((x 4 ↑p0 0 p1.toNatClampNeg) ^^^ (shl32 (1 : Int32) p2))) := ⟨_, rfl⟩
      rw [← e9] at hW
      have hX := lt_go hX e9
      have hX := Option.some.inj hX
      subst hX
      exact rt_v hx hb hr hlocks hW hS dX10_turn_25
set_option maxHeartbeats 4000000 in
theorem k_X10_turn {p : Program} {l : Launch} {e : Env} {R : Room} {s : State} {m : MethodId} {args : Array Value} {below : List Frame} {meth : Method} {c : Code} {H : Heap} {locs : List Loc} {cells slots : Nat} {Q : State → Prop} {cc : ByteArray} {pc nL idx : Nat} {own : String} {ls : Array Slot} {rest : List Value} {G : Geo} {x y : Mem} {H0 : Heap} {p0 : Fin 10} {p1 : Int32} {p2 : Int32} {z : Mem} (hx : p.tables.exec = Jvm.exec) (hb : c.code = cc) (hml : c.maxLocals = nL) (hown : s.vm.findClass own = some m.cls) (htg : ∀ w ∈ wsG, w.before args s = true) (hK : Kt G s) (hW : Wh G x y H) (hS : va_S (gF G) H0 H locs) (h : m_X10_turn p0 p1 p2 x = some z) (hlk : Cond.methodLink own idx yX10_turn ∈ wsG) (hn : ls.size = nL) (hr : (rest.map fun v => v.category).sum ≤ 8) (hR1 : 0 + 1 ≤ R.frames) (hR2 : 8 + (3 + 11) + 0 ≤ R.locals) (hf : cells ≤ R.cells ∧ slots ≤ R.slots) (hdg : decode cc pc = .ok (.invokevirtual idx, 3)) (kk : ∀ (H1 : Heap) (locs1 : List Loc), Wh G z y H1 → va_S (gF G) H0 H1 locs1 → W p l e R s m args below meth c H1 locs1 cells slots Q (F0 m (pc + 3) ls (rest))) : W p l e R s m args below meth c H locs cells slots Q (F0 m pc ls (.int p2 :: .int p1 :: .ref (gA G 3 ↑p0 0) :: rest)) := by
  refine va_callv (va_runV (As := [.int p1, .int p2]) (rest := rest) ⟨hx, hb, hml, hown, htg⟩ (c_X10_turn l G x y p0 p1 p2 z h) (cwV 2 htg (gd_V hlk q304 q305 q39 q306) rfl rfl rfl (by decide +kernel) ⟨hR1, hR2⟩) ⟨fun a U g mk q => ⟨q.1, q.2.1.calling, q.2.2⟩, rc_3 hK hW p0, fun U hU hW9 => ⟨rfl, hK.warm hW9, by rw [hU]; exact hW⟩⟩ rfl rfl hn rfl (lv_room hr) hdg hf) hS (fun _ _ h9 => h9) (fun _ h9 => h9) ?_
  intro u t H1 locs1 ht hvm hw hB hz1 hk1 hS1
  replace hB : Wh G z y t.heap := hB
  rw [ht] at hB
  exact kk H1 locs1 hB hS1
/-! METHOD X10_putInterlock -/
def m_X10_putInterlock_j40 (p0 : Fin 10) (p1 : Int32) (p2 : Int32) (p3 : Int32) (x4 : Int32) (s0 : Int32) (s1 : Int32) (s2 : Fin 10) (x : Mem) : Option (Int32 × Mem) :=
  lt_ (up4 x 3 ↑s2 0 0 (s1 + s0)) fun x12 => gb_ x4 (some (x4, x12))
def m_X10_putInterlock (p0 : Fin 10) (p1 : Int32) (p2 : Int32) (p3 : Int32) (x : Mem) : Option (Int32 × Mem) :=
  bd_ (m_X10_hasInterlock p0 p1 p2 x) fun r2 => lt_ r2 fun x4_3 => if x4_3 = p3 then (gb_ x4_3 (some (x4_3, x))) else (bd_ (m_X10_turn p0 p1 p2 x) fun x7 => bd_ (m_X10_turn p0 p2 p1 x7) fun x10 => if p3 = 0 then (m_X10_putInterlock_j40 p0 p1 p2 p3 x4_3 (-1 : Int32) (x10 3 ↑p0 0 0) p0 x10) else (m_X10_putInterlock_j40 p0 p1 p2 p3 x4_3 (1 : Int32) (x10 3 ↑p0 0 0) p0 x10))
abbrev WS_X10_putInterlock : List Cond := .code yX10_putInterlock cX10_putInterlock 5 (some .boolean) :: wsG
abbrev RM_X10_putInterlock : Room := { frames := 2, cells := 0, slots := 0, locals := 44 }
set_option maxHeartbeats 4000000 in
set_option maxRecDepth 100000 in
theorem c_X10_putInterlock (l : Launch) (G : Geo) (x y : Mem) (p0 : Fin 10) (p1 : Int32) (p2 : Int32) (p3 : Int32) (r : (Int32 × Mem)) (h : m_X10_putInterlock p0 p1 p2 p3 x = some r) : Met l yX10_putInterlock WS_X10_putInterlock RM_X10_putInterlock (Pw G x y [.ref (gA G 3 ↑p0 0), .int p1, .int p2, .int p3]) (Qi G r.2 y r.1) 0 0 (gF G) := by
  refine Met.ofW (cc := cX10_putInterlock) (maxL := 5) (ret := (some .boolean)) (by decide) rfl ?_
  intro p e s m args below meth c s₁ B hml hv
  obtain ⟨rfl, hK, hW⟩ := hv
  have hx := B.exec
  have hb := B.bytes
  have hr := B.returns
  have hts := atoms_spec (ws := WS_X10_putInterlock) B.pre
  have htg : ∀ w ∈ wsG, w.before _ s = true := fun w h => hts w (List.mem_cons_of_mem _ h)
  have hown : s.vm.findClass RX10 = some m.cls := findClass_of_methodNamed B.named
  have hlocks := B.notSynchronized
  have hS : va_S (gF G) s.heap s.heap [] := va_S.rf
  have hl := lv_entry ([.ref (gA G 3 ↑p0 0), .int p1, .int p2, .int p3]) (n := 5) (Nat.le_of_ble_eq_true rfl)
  rw [lg_entry_eq]
  generalize (lg_sl ([.ref (gA G 3 ↑p0 0), .int p1, .int p2, .int p3]) ++ List.replicate (5 - (lg_sl ([.ref (gA G 3 ↑p0 0), .int p1, .int p2, .int p3])).length) Slot.unset).toArray = ls at hl ⊢
  have hl : lv_has ls 5 [(0, .ref (gA G 3 ↑p0 0)), (1, .int p1), (2, .int p2), (3, .int p3)] := hl
  have hX := h
  unfold m_X10_putInterlock at hX
  have J_40 : ∀ (x4 : Int32) (s0 : Int32) (s1 : Int32) (s2 : Fin 10) (x : Mem) (H : Heap) (locs : List Loc) (ls : Array Slot), Wh G x y H → va_S (gF G) s.heap H locs → lv_has ls 5 [(4, .int x4)] → m_X10_putInterlock_j40 p0 p1 p2 p3 x4 s0 s1 s2 x = some r → W p l e (headSpec WS_X10_putInterlock RM_X10_putInterlock).room s m ([.ref (gA G 3 ↑p0 0), .int p1, .int p2, .int p3] : List Value).toArray below meth c H locs 0 0 (MQ below (Qi G r.2 y r.1) ([.ref (gA G 3 ↑p0 0), .int p1, .int p2, .int p3] : List Value).toArray s 0 0 (gF G)) (F0 m 40 ls [.int s0, .int s1, .ref (gA G 3 ↑s2 0)]) := by
    intro x4 s0 s1 s2 x H locs ls hW hS hl hX
    unfold m_X10_putInterlock_j40 at hX
    refine lv_iadd hx hb dX10_putInterlock_40 ?_
    refine pf_3_0 hx hb htg hown hK hW hS s2 q250 dX10_putInterlock_41 (fun H locs hW hS => ?_)
    obtain ⟨x12, e9⟩ : ∃ w : Mem, w = (up4 x 3 ↑s2 0 0 (s1 + s0)) := ⟨_, rfl⟩
    rw [← e9] at hW
    have hX := lt_go hX e9
    refine lv_iload hx hb dX10_putInterlock_44 (lv_at hl 0 rfl) ?_
    obtain ⟨g9, hX⟩ := gb_go hX
    have hX := Option.some.inj hX
    subst hX
    exact rt_z hx hb hr hlocks hW hS (isB_n g9) dX10_putInterlock_46
  refine lv_aload_n hx hb dX10_putInterlock_0 rfl (lv_at hl 0 rfl) ?_
  refine lv_iload_n hx hb dX10_putInterlock_1 rfl (lv_at hl 1 rfl) ?_
  refine lv_iload_n hx hb dX10_putInterlock_2 rfl (lv_at hl 2 rfl) ?_
  obtain ⟨r2, h1, hX⟩ := bd_go hX
  refine k_X10_hasInterlock hx hb hml hown htg hK hW hS h1 q302 hl.1 (Nat.le_of_ble_eq_true rfl) (Nat.le_of_ble_eq_true rfl) (Nat.le_of_ble_eq_true rfl) ⟨Nat.zero_le _, Nat.zero_le _⟩ dX10_putInterlock_3 (fun H locs hW hS => ?_)
  refine lv_topi (fun x4_3 e9 => ?_)
  have hX := lt_go hX e9
  refine lv_istore (lv' := [(4, .int x4_3), (0, .ref (gA G 3 ↑p0 0)), (1, .int p1), (2, .int p2), (3, .int p3)]) hx hb dX10_putInterlock_6 hl (by decide) rfl (fun ls hl => ?_)
  refine lv_iload hx hb dX10_putInterlock_8 (lv_at hl 0 rfl) ?_
  refine lv_iload_n hx hb dX10_putInterlock_10 rfl (lv_at hl 4 rfl) ?_
  refine lv_icmp_eq (tgt := 44) hx hb dX10_putInterlock_11 (by decide) (fun c4 => ?_) (fun c4 => ?_)
  · have hX := it_t hX c4
    refine lv_iload hx hb dX10_putInterlock_44 (lv_at hl 0 rfl) ?_
    obtain ⟨g9, hX⟩ := gb_go hX
    have hX := Option.some.inj hX
    subst hX
    exact rt_z hx hb hr hlocks hW hS (isB_n g9) dX10_putInterlock_46
  · have hX := it_f hX c4
    refine lv_aload_n hx hb dX10_putInterlock_14 rfl (lv_at hl 1 rfl) ?_
    refine lv_iload_n hx hb dX10_putInterlock_15 rfl (lv_at hl 2 rfl) ?_
    refine lv_iload_n hx hb dX10_putInterlock_16 rfl (lv_at hl 3 rfl) ?_
    obtain ⟨x7, h5, hX⟩ := bd_go hX
    refine k_X10_turn hx hb hml hown htg hK hW hS h5 q303 hl.1 (Nat.le_of_ble_eq_true rfl) (Nat.le_of_ble_eq_true rfl) (Nat.le_of_ble_eq_true rfl) ⟨Nat.zero_le _, Nat.zero_le _⟩ dX10_putInterlock_17 (fun H locs hW hS => ?_)
    refine lv_aload_n hx hb dX10_putInterlock_20 rfl (lv_at hl 1 rfl) ?_
    refine lv_iload_n hx hb dX10_putInterlock_21 rfl (lv_at hl 3 rfl) ?_
    refine lv_iload_n hx hb dX10_putInterlock_22 rfl (lv_at hl 2 rfl) ?_
    obtain ⟨x10, h8, hX⟩ := bd_go hX
    refine k_X10_turn hx hb hml hown htg hK hW hS h8 q303 hl.1 (Nat.le_of_ble_eq_true rfl) (Nat.le_of_ble_eq_true rfl) (Nat.le_of_ble_eq_true rfl) ⟨Nat.zero_le _, Nat.zero_le _⟩ dX10_putInterlock_23 (fun H locs hW hS => ?_)
    refine lv_aload_n hx hb dX10_putInterlock_26 rfl (lv_at hl 1 rfl) ?_
    refine lv_dup hx hb dX10_putInterlock_27 rfl ?_
    refine gf_3_0 hx hb htg hown hK hW p0 q250 dX10_putInterlock_28 ?_
    refine lv_iload_n hx hb dX10_putInterlock_31 rfl (lv_at hl 4 rfl) ?_
    refine lv_if_eq (tgt := 39) hx hb dX10_putInterlock_32 (by decide) (fun c11 => ?_) (fun c11 => ?_)
    · have hX := it_t hX c11
      refine lv_iconst (v := (-1 : Int32)) hx hb dX10_putInterlock_39 (by decide) ?_
      exact J_40 _ _ _ _ _ _ _ _ hW hS (lv_sub hl [0] rfl) hX
    · have hX := it_f hX c11
      refine lv_iconst (v := (1 : Int32)) hx hb dX10_putInterlock_35 (by decide) ?_
      refine lv_goto (tgt := 40) hx hb dX10_putInterlock_36 (by decide) ?_
      exact J_40 _ _ _ _ _ _ _ _ hW hS (lv_sub hl [0] rfl) hX
set_option maxHeartbeats 4000000 in
theorem k_X10_putInterlock {p : Program} {l : Launch} {e : Env} {R : Room} {s : State} {m : MethodId} {args : Array Value} {below : List Frame} {meth : Method} {c : Code} {H : Heap} {locs : List Loc} {cells slots : Nat} {Q : State → Prop} {cc : ByteArray} {pc nL idx : Nat} {own : String} {ls : Array Slot} {rest : List Value} {G : Geo} {x y : Mem} {H0 : Heap} {p0 : Fin 10} {p1 : Int32} {p2 : Int32} {p3 : Int32} {v : Int32} {z : Mem} (hx : p.tables.exec = Jvm.exec) (hb : c.code = cc) (hml : c.maxLocals = nL) (hown : s.vm.findClass own = some m.cls) (htg : ∀ w ∈ wsG, w.before args s = true) (hK : Kt G s) (hW : Wh G x y H) (hS : va_S (gF G) H0 H locs) (h : m_X10_putInterlock p0 p1 p2 p3 x = some (v, z)) (hlk : Cond.methodLink own idx yX10_putInterlock ∈ wsG) (hn : ls.size = nL) (hr : (rest.map fun v => v.category).sum ≤ 8) (hR1 : 2 + 1 ≤ R.frames) (hR2 : 8 + (5 + 11) + 44 ≤ R.locals) (hf : cells ≤ R.cells ∧ slots ≤ R.slots) (hdg : decode cc pc = .ok (.invokevirtual idx, 3)) (kk : ∀ (H1 : Heap) (locs1 : List Loc), Wh G z y H1 → va_S (gF G) H0 H1 locs1 → W p l e R s m args below meth c H1 locs1 cells slots Q (F0 m (pc + 3) ls (.int v :: rest))) : W p l e R s m args below meth c H locs cells slots Q (F0 m pc ls (.int p3 :: .int p2 :: .int p1 :: .ref (gA G 3 ↑p0 0) :: rest)) := by
  refine va_calli (va_runV (As := [.int p1, .int p2, .int p3]) (rest := rest) ⟨hx, hb, hml, hown, htg⟩ (c_X10_putInterlock l G x y p0 p1 p2 p3 (v, z) h) (cwV 3 htg (gd_V hlk q299 q300 q39 q301) rfl rfl rfl (by decide +kernel) ⟨hR1, hR2⟩) ⟨fun a U g mk q => ⟨q.1, q.2.1.calling, q.2.2⟩, rc_3 hK hW p0, fun U hU hW9 => ⟨rfl, hK.warm hW9, by rw [hU]; exact hW⟩⟩ rfl rfl hn rfl (lv_room hr) hdg hf) hS (fun _ _ h9 => h9) (fun _ h9 => h9) ?_
  intro r9 u t H1 locs1 ht hvm hw hB hz1 hk1 hS1
  replace hB : Wh G z y t.heap := hB
  rw [ht] at hB
  replace hw : r9 = v := hw
  subst hw
  exact kk H1 locs1 hB hS1
