/-! METHOD X12_notGiven -/
def m_X12_notGiven_j37 (p0 : Int32) (p1 : Int32) (p2 : Int32) (p3 : Int32) (p4 : Int32) (p5 : Int32) (y : Mem) : Option Int32 :=
  bd_ (m_X12_setOf p1) fun r13 => lt_ r13 fun x7_14 => if x7_14 < 0 then (some (2 : Int32)) else (bd_ (m_X12_isBetween p2 (1 : Int32) (9 : Int32)) fun r17 => if r17 = 0 then (some (2 : Int32)) else (bd_ (m_X12_isBetween p3 (0 : Int32) (9 : Int32)) fun r20 => if r20 = 0 then (some (2 : Int32)) else (gd_ p0 3 (if (x7_14 &&& ((y 110 0 0 p0.toNatClampNeg) ^^^ (-1 : Int32))) = 0 then (if (y 40 0 0 34) = (30 : Int32) then (some (4 : Int32)) else (some (0 : Int32))) else (some (3 : Int32))))))
def m_X12_notGiven_j21 (p0 : Int32) (p1 : Int32) (p2 : Int32) (p3 : Int32) (p4 : Int32) (p5 : Int32) (y : Mem) : Option Int32 :=
  if p5 = (-1 : Int32) then (m_X12_notGiven_j37 p0 p1 p2 p3 p4 p5 y) else (bd_ (m_X12_isBuffer p5) fun r10 => if r10 = 0 then (some (1 : Int32)) else (m_X12_notGiven_j37 p0 p1 p2 p3 p4 p5 y))
def m_X12_notGiven (p0 : Int32) (p1 : Int32) (p2 : Int32) (p3 : Int32) (p4 : Int32) (p5 : Int32) (y : Mem) : Option Int32 :=
  bd_ (m_X12_isArm p0) fun r2 => if r2 = 0 then (some (1 : Int32)) else (if p4 = (-1 : Int32) then (m_X12_notGiven_j21 p0 p1 p2 p3 p4 p5 y) else (bd_ (m_X12_isBuffer p4) fun r6 => if r6 = 0 then (some (1 : Int32)) else (m_X12_notGiven_j21 p0 p1 p2 p3 p4 p5 y)))
abbrev WS_X12_notGiven : List Cond := .code yX12_notGiven cX12_notGiven 8 (some .int) :: wsG
abbrev RM_X12_notGiven : Room := { frames := 2, cells := 0, slots := 0, locals := 46 }
set_option maxHeartbeats 4000000 in
set_option maxRecDepth 100000 in
theorem c_X12_notGiven (l : Launch) (G : Geo) (x y : Mem) (p0 : Int32) (p1 : Int32) (p2 : Int32) (p3 : Int32) (p4 : Int32) (p5 : Int32) (r : Int32) (h : m_X12_notGiven p0 p1 p2 p3 p4 p5 y = some r) : Met l yX12_notGiven WS_X12_notGiven RM_X12_notGiven (Pw G x y [.ref (gA G 40 0 0), .int p0, .int p1, .int p2, .int p3, .int p4, .int p5]) (Qi G x y r) 0 0 (gF G) := by
  refine Met.ofW (cc := cX12_notGiven) (maxL := 8) (ret := (some .int)) (by decide) rfl ?_
  intro p e s m args below meth c s₁ B hml hv
  obtain ⟨rfl, hK, hW⟩ := hv
  have hx := B.exec
  have hb := B.bytes
  have hr := B.returns
  have hts := atoms_spec (ws := WS_X12_notGiven) B.pre
  have htg : ∀ w ∈ wsG, w.before _ s = true := fun w h => hts w (List.mem_cons_of_mem _ h)
  have hown : s.vm.findClass RX12 = some m.cls := findClass_of_methodNamed B.named
  have hlocks := B.notSynchronized
  have hS : va_S (gF G) s.heap s.heap [] := va_S.rf
  have hl := lv_entry ([.ref (gA G 40 0 0), .int p0, .int p1, .int p2, .int p3, .int p4, .int p5]) (n := 8) (Nat.le_of_ble_eq_true rfl)
  rw [lg_entry_eq]
  generalize (lg_sl ([.ref (gA G 40 0 0), .int p0, .int p1, .int p2, .int p3, .int p4, .int p5]) ++ List.replicate (8 - (lg_sl ([.ref (gA G 40 0 0), .int p0, .int p1, .int p2, .int p3, .int p4, .int p5])).length) Slot.unset).toArray = ls at hl ⊢
  have hl : lv_has ls 8 [(0, .ref (gA G 40 0 0)), (1, .int p0), (2, .int p1), (3, .int p2), (4, .int p3), (5, .int p4), (6, .int p5)] := hl
  have hX := h
  unfold m_X12_notGiven at hX
  have J_37 : ∀ (y : Mem) (H : Heap) (locs : List Loc) (ls : Array Slot), Wh G x y H → va_S (gF G) s.heap H locs → lv_has ls 8 [(0, .ref (gA G 40 0 0)), (1, .int p0), (2, .int p1), (3, .int p2), (4, .int p3)] → m_X12_notGiven_j37 p0 p1 p2 p3 p4 p5 y = some r → W p l e (headSpec WS_X12_notGiven RM_X12_notGiven).room s m ([.ref (gA G 40 0 0), .int p0, .int p1, .int p2, .int p3, .int p4, .int p5] : List Value).toArray below meth c H locs 0 0 (MQ below (Qi G x y r) ([.ref (gA G 40 0 0), .int p0, .int p1, .int p2, .int p3, .int p4, .int p5] : List Value).toArray s 0 0 (gF G)) (F0 m 37 ls []) := by
    intro y H locs ls hW hS hl hX
    unfold m_X12_notGiven_j37 at hX
    refine lv_iload_n hx hb dX12_notGiven_37 rfl (lv_at hl 2 rfl) ?_
    obtain ⟨r13, h12, hX⟩ := bd_go hX
    refine k_X12_setOf hx hb hml hown htg hK hW hS h12 q573 hl.1 (Nat.le_of_ble_eq_true rfl) (Nat.le_of_ble_eq_true rfl) (Nat.le_of_ble_eq_true rfl) ⟨Nat.zero_le _, Nat.zero_le _⟩ dX12_notGiven_38 (fun H locs hW hS => ?_)
    refine lv_topi (fun x7_14 e9 => ?_)
    have hX := lt_go hX e9
    refine lv_istore (lv' := [(7, .int x7_14), (0, .ref (gA G 40 0 0)), (1, .int p0), (2, .int p1), (3, .int p2), (4, .int p3)]) hx hb dX12_notGiven_41 hl (by decide) rfl (fun ls hl => ?_)
    refine lv_iload hx hb dX12_notGiven_43 (lv_at hl 0 rfl) ?_
    refine lv_if_lt (tgt := 69) hx hb dX12_notGiven_45 (by decide) (fun c15 => ?_) (fun c15 => ?_)
    · have hX := it_t hX c15
      refine lv_iconst (v := (2 : Int32)) hx hb dX12_notGiven_69 (by decide) ?_
      have hX := Option.some.inj hX
      subst hX
      exact rt_i hx hb hr hlocks hW hS dX12_notGiven_70
    · have hX := it_f hX c15
      refine lv_iload_n hx hb dX12_notGiven_48 rfl (lv_at hl 4 rfl) ?_
      refine lv_iconst (v := (1 : Int32)) hx hb dX12_notGiven_49 (by decide) ?_
      refine lv_bipush (v := (9 : Int32)) hx hb dX12_notGiven_50 (by decide) ?_
      obtain ⟨r17, h16, hX⟩ := bd_go hX
      refine k_X12_isBetween hx hb hml hown htg hK hW hS h16 q319 hl.1 (Nat.le_of_ble_eq_true rfl) (Nat.le_of_ble_eq_true rfl) (Nat.le_of_ble_eq_true rfl) ⟨Nat.zero_le _, Nat.zero_le _⟩ dX12_notGiven_52 (fun H locs hW hS => ?_)
      refine lv_if_eq (tgt := 69) hx hb dX12_notGiven_55 (by decide) (fun c18 => ?_) (fun c18 => ?_)
      · have hX := it_t hX c18
        refine lv_iconst (v := (2 : Int32)) hx hb dX12_notGiven_69 (by decide) ?_
        have hX := Option.some.inj hX
        subst hX
        exact rt_i hx hb hr hlocks hW hS dX12_notGiven_70
      · have hX := it_f hX c18
        refine lv_iload hx hb dX12_notGiven_58 (lv_at hl 5 rfl) ?_
        refine lv_iconst (v := (0 : Int32)) hx hb dX12_notGiven_60 (by decide) ?_
        refine lv_bipush (v := (9 : Int32)) hx hb dX12_notGiven_61 (by decide) ?_
        obtain ⟨r20, h19, hX⟩ := bd_go hX
        refine k_X12_isBetween hx hb hml hown htg hK hW hS h19 q319 hl.1 (Nat.le_of_ble_eq_true rfl) (Nat.le_of_ble_eq_true rfl) (Nat.le_of_ble_eq_true rfl) ⟨Nat.zero_le _, Nat.zero_le _⟩ dX12_notGiven_63 (fun H locs hW hS => ?_)
        refine lv_if_ne (tgt := 71) hx hb dX12_notGiven_66 (by decide) (fun c21 => ?_) (fun c21 => ?_)
        · have hX := it_f hX c21
          refine lv_iload hx hb dX12_notGiven_71 (lv_at hl 0 rfl) ?_
          refine lv_aload_n hx hb dX12_notGiven_73 rfl (lv_at hl 1 rfl) ?_
          refine gf_40_10 hx hb htg hown hK hW q145 dX12_notGiven_74 ?_
          refine lv_iload_n hx hb dX12_notGiven_77 rfl (lv_at hl 2 rfl) ?_
          obtain ⟨g22, hX⟩ := gd_go hX
          refine al_110 hx hb hK hW g22 dX12_notGiven_78 ?_
          refine lv_iconst (v := (-1 : Int32)) hx hb dX12_notGiven_79 (by decide) ?_
          refine lv_ixor hx hb dX12_notGiven_80 ?_
          refine lv_iand hx hb dX12_notGiven_81 ?_
          refine lv_if_eq (tgt := 87) hx hb dX12_notGiven_82 (by decide) (fun c23 => ?_) (fun c23 => ?_)
          · have hX := it_t hX c23
            refine lv_aload_n hx hb dX12_notGiven_87 rfl (lv_at hl 1 rfl) ?_
            refine gf_40_34 hx hb htg hown hK hW q353 dX12_notGiven_88 ?_
            refine lv_bipush (v := (30 : Int32)) hx hb dX12_notGiven_91 (by decide) ?_
            refine lv_icmp_ne (tgt := 100) hx hb dX12_notGiven_93 (by decide) (fun c24 => ?_) (fun c24 => ?_)
            · have hX := it_f hX c24
              refine lv_iconst (v := (0 : Int32)) hx hb dX12_notGiven_100 (by decide) ?_
              have hX := Option.some.inj hX
              subst hX
              exact rt_i hx hb hr hlocks hW hS dX12_notGiven_101
            · have hX := it_t hX c24
              refine lv_iconst (v := (4 : Int32)) hx hb dX12_notGiven_96 (by decide) ?_
              refine lv_goto (tgt := 101) hx hb dX12_notGiven_97 (by decide) ?_
              have hX := Option.some.inj hX
              subst hX
              exact rt_i hx hb hr hlocks hW hS dX12_notGiven_101
          · have hX := it_f hX c23
            refine lv_iconst (v := (3 : Int32)) hx hb dX12_notGiven_85 (by decide) ?_
            have hX := Option.some.inj hX
            subst hX
            exact rt_i hx hb hr hlocks hW hS dX12_notGiven_86
        · have hX := it_t hX c21
          refine lv_iconst (v := (2 : Int32)) hx hb dX12_notGiven_69 (by decide) ?_
          have hX := Option.some.inj hX
          subst hX
          exact rt_i hx hb hr hlocks hW hS dX12_notGiven_70
  have J_21 : ∀ (y : Mem) (H : Heap) (locs : List Loc) (ls : Array Slot), Wh G x y H → va_S (gF G) s.heap H locs → lv_has ls 8 [(0, .ref (gA G 40 0 0)), (1, .int p0), (2, .int p1), (3, .int p2), (4, .int p3), (6, .int p5)] → m_X12_notGiven_j21 p0 p1 p2 p3 p4 p5 y = some r → W p l e (headSpec WS_X12_notGiven RM_X12_notGiven).room s m ([.ref (gA G 40 0 0), .int p0, .int p1, .int p2, .int p3, .int p4, .int p5] : List Value).toArray below meth c H locs 0 0 (MQ below (Qi G x y r) ([.ref (gA G 40 0 0), .int p0, .int p1, .int p2, .int p3, .int p4, .int p5] : List Value).toArray s 0 0 (gF G)) (F0 m 21 ls []) := by
    intro y H locs ls hW hS hl hX
    unfold m_X12_notGiven_j21 at hX
    refine lv_iload hx hb dX12_notGiven_21 (lv_at hl 5 rfl) ?_
    refine lv_iconst (v := (-1 : Int32)) hx hb dX12_notGiven_23 (by decide) ?_
    refine lv_icmp_eq (tgt := 37) hx hb dX12_notGiven_24 (by decide) (fun c8 => ?_) (fun c8 => ?_)
    · have hX := it_t hX c8
      exact J_37 _ _ _ _ hW hS (lv_sub hl [0, 1, 2, 3, 4] rfl) hX
    · have hX := it_f hX c8
      refine lv_iload hx hb dX12_notGiven_27 (lv_at hl 5 rfl) ?_
      obtain ⟨r10, h9, hX⟩ := bd_go hX
      refine k_X12_isBuffer hx hb hml hown htg hK hW hS h9 q431 hl.1 (Nat.le_of_ble_eq_true rfl) (Nat.le_of_ble_eq_true rfl) (Nat.le_of_ble_eq_true rfl) ⟨Nat.zero_le _, Nat.zero_le _⟩ dX12_notGiven_29 (fun H locs hW hS => ?_)
      refine lv_if_ne (tgt := 37) hx hb dX12_notGiven_32 (by decide) (fun c11 => ?_) (fun c11 => ?_)
      · have hX := it_f hX c11
        exact J_37 _ _ _ _ hW hS (lv_sub hl [0, 1, 2, 3, 4] rfl) hX
      · have hX := it_t hX c11
        refine lv_iconst (v := (1 : Int32)) hx hb dX12_notGiven_35 (by decide) ?_
        have hX := Option.some.inj hX
        subst hX
        exact rt_i hx hb hr hlocks hW hS dX12_notGiven_36
  refine lv_iload_n hx hb dX12_notGiven_0 rfl (lv_at hl 1 rfl) ?_
  obtain ⟨r2, h1, hX⟩ := bd_go hX
  refine k_X12_isArm hx hb hml hown htg hK hW hS h1 q404 hl.1 (Nat.le_of_ble_eq_true rfl) (Nat.le_of_ble_eq_true rfl) (Nat.le_of_ble_eq_true rfl) ⟨Nat.zero_le _, Nat.zero_le _⟩ dX12_notGiven_1 (fun H locs hW hS => ?_)
  refine lv_if_eq (tgt := 35) hx hb dX12_notGiven_4 (by decide) (fun c3 => ?_) (fun c3 => ?_)
  · have hX := it_t hX c3
    refine lv_iconst (v := (1 : Int32)) hx hb dX12_notGiven_35 (by decide) ?_
    have hX := Option.some.inj hX
    subst hX
    exact rt_i hx hb hr hlocks hW hS dX12_notGiven_36
  · have hX := it_f hX c3
    refine lv_iload hx hb dX12_notGiven_7 (lv_at hl 5 rfl) ?_
    refine lv_iconst (v := (-1 : Int32)) hx hb dX12_notGiven_9 (by decide) ?_
    refine lv_icmp_eq (tgt := 21) hx hb dX12_notGiven_10 (by decide) (fun c4 => ?_) (fun c4 => ?_)
    · have hX := it_t hX c4
      exact J_21 _ _ _ _ hW hS (lv_sub hl [0, 1, 2, 3, 4, 6] rfl) hX
    · have hX := it_f hX c4
      refine lv_iload hx hb dX12_notGiven_13 (lv_at hl 5 rfl) ?_
      obtain ⟨r6, h5, hX⟩ := bd_go hX
      refine k_X12_isBuffer hx hb hml hown htg hK hW hS h5 q431 hl.1 (Nat.le_of_ble_eq_true rfl) (Nat.le_of_ble_eq_true rfl) (Nat.le_of_ble_eq_true rfl) ⟨Nat.zero_le _, Nat.zero_le _⟩ dX12_notGiven_15 (fun H locs hW hS => ?_)
      refine lv_if_eq (tgt := 35) hx hb dX12_notGiven_18 (by decide) (fun c7 => ?_) (fun c7 => ?_)
      · have hX := it_t hX c7
        refine lv_iconst (v := (1 : Int32)) hx hb dX12_notGiven_35 (by decide) ?_
        have hX := Option.some.inj hX
        subst hX
        exact rt_i hx hb hr hlocks hW hS dX12_notGiven_36
      · have hX := it_f hX c7
        exact J_21 _ _ _ _ hW hS (lv_sub hl [0, 1, 2, 3, 4, 6] rfl) hX
set_option maxHeartbeats 4000000 in
theorem k_X12_notGiven {p : Program} {l : Launch} {e : Env} {R : Room} {s : State} {m : MethodId} {args : Array Value} {below : List Frame} {meth : Method} {c : Code} {H : Heap} {locs : List Loc} {cells slots : Nat} {Q : State → Prop} {cc : ByteArray} {pc nL idx : Nat} {own : String} {ls : Array Slot} {rest : List Value} {G : Geo} {x y : Mem} {H0 : Heap} {p0 : Int32} {p1 : Int32} {p2 : Int32} {p3 : Int32} {p4 : Int32} {p5 : Int32} {v : Int32} (hx : p.tables.exec = Jvm.exec) (hb : c.code = cc) (hml : c.maxLocals = nL) (hown : s.vm.findClass own = some m.cls) (htg : ∀ w ∈ wsG, w.before args s = true) (hK : Kt G s) (hW : Wh G x y H) (hS : va_S (gF G) H0 H locs) (h : m_X12_notGiven p0 p1 p2 p3 p4 p5 y = some v) (hlk : Cond.methodLink own idx yX12_notGiven ∈ wsG) (hn : ls.size = nL) (hr : (rest.map fun v => v.category).sum ≤ 8) (hR1 : 2 + 1 ≤ R.frames) (hR2 : 8 + (8 + 11) + 46 ≤ R.locals) (hf : cells ≤ R.cells ∧ slots ≤ R.slots) (hdg : decode cc pc = .ok (.invokevirtual idx, 3)) (kk : ∀ (H1 : Heap) (locs1 : List Loc), Wh G x y H1 → va_S (gF G) H0 H1 locs1 → W p l e R s m args below meth c H1 locs1 cells slots Q (F0 m (pc + 3) ls (.int v :: rest))) : W p l e R s m args below meth c H locs cells slots Q (F0 m pc ls (.int p5 :: .int p4 :: .int p3 :: .int p2 :: .int p1 :: .int p0 :: .ref (gA G 40 0 0) :: rest)) := by
  refine va_calli (va_runV (As := [.int p0, .int p1, .int p2, .int p3, .int p4, .int p5]) (rest := rest) ⟨hx, hb, hml, hown, htg⟩ (c_X12_notGiven l G x y p0 p1 p2 p3 p4 p5 v h) (cwV 6 htg (gd_V hlk q570 q571 q5 q572) rfl rfl rfl (by decide +kernel) ⟨hR1, hR2⟩) ⟨fun a U g mk q => ⟨q.1, q.2.1.calling, q.2.2⟩, rc_40 hK hW, fun U hU hW9 => ⟨rfl, hK.warm hW9, by rw [hU]; exact hW⟩⟩ rfl rfl hn rfl (lv_room hr) hdg hf) hS (fun _ _ h9 => h9) (fun _ h9 => h9) ?_
  intro r9 u t H1 locs1 ht hvm hw hB hz1 hk1 hS1
  replace hB : Wh G x y t.heap := hB
  rw [ht] at hB
  replace hw : r9 = v := hw
  subst hw
  exact kk H1 locs1 hB hS1
/-! METHOD X12_gives -/
def m_X12_gives (p0 : Int32) (p1 : Int32) (p2 : Int32) (p3 : Int32) (p4 : Int32) (p5 : Int32) (y : Mem) : Option Mem :=
  gd_ (y 40 0 0 34) 30 (lt_ (up4 y 122 0 0 (y 40 0 0 34).toNatClampNeg p0) fun y2 => gd_ (y2 40 0 0 34) 30 (lt_ (up4 y2 123 0 0 (y2 40 0 0 34).toNatClampNeg p1) fun y4 => bd_ (m_X12_digitsOf p1) fun r6 => gd_ (y4 40 0 0 34) 30 (lt_ (up4 y4 124 0 0 (y4 40 0 0 34).toNatClampNeg r6) fun y8 => gd_ (y8 40 0 0 34) 30 (lt_ (up4 y8 125 0 0 (y8 40 0 0 34).toNatClampNeg p2) fun y10 => gd_ (y10 40 0 0 34) 30 (lt_ (up4 y10 126 0 0 (y10 40 0 0 34).toNatClampNeg p3) fun y12 => gd_ (y12 40 0 0 34) 30 (lt_ (up4 y12 127 0 0 (y12 40 0 0 34).toNatClampNeg p4) fun y14 => gd_ (y14 40 0 0 34) 30 (lt_ (up4 y14 128 0 0 (y14 40 0 0 34).toNatClampNeg p5) fun y16 => gd_ (y16 40 0 0 34) 30 (lt_ (up4 y16 129 0 0 (y16 40 0 0 34).toNatClampNeg (0 : Int32)) fun y18 => gd_ (y18 40 0 0 34) 30 (lt_ (up4 y18 130 0 0 (y18 40 0 0 34).toNatClampNeg (-1 : Int32)) fun y20 => gd_ (y20 40 0 0 34) 30 (lt_ (up4 y20 131 0 0 (y20 40 0 0 34).toNatClampNeg (-1 : Int32)) fun y22 => gd_ p0 3 (gd_ (((30 : Int32) * p0) + (y22 111 0 0 p0.toNatClampNeg)) 90 (lt_ (up4 y22 112 0 0 (((30 : Int32) * p0) + (y22 111 0 0 p0.toNatClampNeg)).toNatClampNeg (y22 40 0 0 34)) fun y25 => lt_ (up4 y25 111 0 0 p0.toNatClampNeg ((y25 111 0 0 p0.toNatClampNeg) + (1 : Int32))) fun y26 => lt_ (up4 y26 40 0 0 34 ((y26 40 0 0 34) + (1 : Int32))) fun y27 => some y27))))))))))))
abbrev WS_X12_gives : List Cond := .code yX12_gives cX12_gives 7 none :: wsG
abbrev RM_X12_gives : Room := { frames := 1, cells := 0, slots := 0, locals := 22 }
set_option maxHeartbeats 4000000 in
set_option maxRecDepth 100000 in
theorem c_X12_gives (l : Launch) (G : Geo) (x y : Mem) (p0 : Int32) (p1 : Int32) (p2 : Int32) (p3 : Int32) (p4 : Int32) (p5 : Int32) (r : Mem) (h : m_X12_gives p0 p1 p2 p3 p4 p5 y = some r) : Met l yX12_gives WS_X12_gives RM_X12_gives (Pw G x y [.ref (gA G 40 0 0), .int p0, .int p1, .int p2, .int p3, .int p4, .int p5]) (Qv G x r) 0 0 (gF G) := by
  refine Met.ofW (cc := cX12_gives) (maxL := 7) (ret := none) (by decide) rfl ?_
  intro p e s m args below meth c s₁ B hml hv
  obtain ⟨rfl, hK, hW⟩ := hv
  have hx := B.exec
  have hb := B.bytes
  have hr := B.returns
  have hts := atoms_spec (ws := WS_X12_gives) B.pre
  have htg : ∀ w ∈ wsG, w.before _ s = true := fun w h => hts w (List.mem_cons_of_mem _ h)
  have hown : s.vm.findClass RX12 = some m.cls := findClass_of_methodNamed B.named
  have hlocks := B.notSynchronized
  have hS : va_S (gF G) s.heap s.heap [] := va_S.rf
  have hl := lv_entry ([.ref (gA G 40 0 0), .int p0, .int p1, .int p2, .int p3, .int p4, .int p5]) (n := 7) (Nat.le_of_ble_eq_true rfl)
  rw [lg_entry_eq]
  generalize (lg_sl ([.ref (gA G 40 0 0), .int p0, .int p1, .int p2, .int p3, .int p4, .int p5]) ++ List.replicate (7 - (lg_sl ([.ref (gA G 40 0 0), .int p0, .int p1, .int p2, .int p3, .int p4, .int p5])).length) Slot.unset).toArray = ls at hl ⊢
  have hl : lv_has ls 7 [(0, .ref (gA G 40 0 0)), (1, .int p0), (2, .int p1), (3, .int p2), (4, .int p3), (5, .int p4), (6, .int p5)] := hl
  have hX := h
  unfold m_X12_gives at hX
  refine lv_aload_n hx hb dX12_gives_0 rfl (lv_at hl 0 rfl) ?_
  refine gf_40_22 hx hb htg hown hK hW q157 dX12_gives_1 ?_
  refine lv_aload_n hx hb dX12_gives_4 rfl (lv_at hl 0 rfl) ?_
  refine gf_40_34 hx hb htg hown hK hW q353 dX12_gives_5 ?_
  refine lv_iload_n hx hb dX12_gives_8 rfl (lv_at hl 1 rfl) ?_
  obtain ⟨g1, hX⟩ := gd_go hX
  refine as_122 hx hb hK hW hS g1 dX12_gives_9 (fun H locs hW hS => ?_)
  obtain ⟨y2, e9⟩ : ∃ w : Mem, w = (up4 y 122 0 0 (y 40 0 0 34).toNatClampNeg p0) := ⟨_, rfl⟩
  rw [← e9] at hW
  have hX := lt_go hX e9
  refine lv_aload_n hx hb dX12_gives_10 rfl (lv_at hl 0 rfl) ?_
  refine gf_40_23 hx hb htg hown hK hW q158 dX12_gives_11 ?_
  refine lv_aload_n hx hb dX12_gives_14 rfl (lv_at hl 0 rfl) ?_
  refine gf_40_34 hx hb htg hown hK hW q353 dX12_gives_15 ?_
  refine lv_iload_n hx hb dX12_gives_18 rfl (lv_at hl 2 rfl) ?_
  obtain ⟨g3, hX⟩ := gd_go hX
  refine as_123 hx hb hK hW hS g3 dX12_gives_19 (fun H locs hW hS => ?_)
  obtain ⟨y4, e9⟩ : ∃ w : Mem, w = (up4 y2 123 0 0 (y2 40 0 0 34).toNatClampNeg p1) := ⟨_, rfl⟩
  rw [← e9] at hW
  have hX := lt_go hX e9
  refine lv_aload_n hx hb dX12_gives_20 rfl (lv_at hl 0 rfl) ?_
  refine gf_40_24 hx hb htg hown hK hW q159 dX12_gives_21 ?_
  refine lv_aload_n hx hb dX12_gives_24 rfl (lv_at hl 0 rfl) ?_
  refine gf_40_34 hx hb htg hown hK hW q353 dX12_gives_25 ?_
  refine lv_iload_n hx hb dX12_gives_28 rfl (lv_at hl 2 rfl) ?_
  obtain ⟨r6, h5, hX⟩ := bd_go hX
  refine k_X12_digitsOf hx hb hml hown htg hK hW hS h5 q576 hl.1 (Nat.le_of_ble_eq_true rfl) (Nat.le_of_ble_eq_true rfl) (Nat.le_of_ble_eq_true rfl) ⟨Nat.zero_le _, Nat.zero_le _⟩ dX12_gives_29 (fun H locs hW hS => ?_)
  obtain ⟨g7, hX⟩ := gd_go hX
  refine as_124 hx hb hK hW hS g7 dX12_gives_32 (fun H locs hW hS => ?_)
  obtain ⟨y8, e9⟩ : ∃ w : Mem, w = (up4 y4 124 0 0 (y4 40 0 0 34).toNatClampNeg r6) := ⟨_, rfl⟩
  rw [← e9] at hW
  have hX := lt_go hX e9
  refine lv_aload_n hx hb dX12_gives_33 rfl (lv_at hl 0 rfl) ?_
  refine gf_40_25 hx hb htg hown hK hW q160 dX12_gives_34 ?_
  refine lv_aload_n hx hb dX12_gives_37 rfl (lv_at hl 0 rfl) ?_
  refine gf_40_34 hx hb htg hown hK hW q353 dX12_gives_38 ?_
  refine lv_iload_n hx hb dX12_gives_41 rfl (lv_at hl 3 rfl) ?_
  obtain ⟨g9, hX⟩ := gd_go hX
  refine as_125 hx hb hK hW hS g9 dX12_gives_42 (fun H locs hW hS => ?_)
  obtain ⟨y10, e9⟩ : ∃ w : Mem, w = (up4 y8 125 0 0 (y8 40 0 0 34).toNatClampNeg p2) := ⟨_, rfl⟩
  rw [← e9] at hW
  have hX := lt_go hX e9
  refine lv_aload_n hx hb dX12_gives_43 rfl (lv_at hl 0 rfl) ?_
  refine gf_40_26 hx hb htg hown hK hW q161 dX12_gives_44 ?_
  refine lv_aload_n hx hb dX12_gives_47 rfl (lv_at hl 0 rfl) ?_
  refine gf_40_34 hx hb htg hown hK hW q353 dX12_gives_48 ?_
  refine lv_iload hx hb dX12_gives_51 (lv_at hl 4 rfl) ?_
  obtain ⟨g11, hX⟩ := gd_go hX
  refine as_126 hx hb hK hW hS g11 dX12_gives_53 (fun H locs hW hS => ?_)
  obtain ⟨y12, e9⟩ : ∃ w : Mem, w = (up4 y10 126 0 0 (y10 40 0 0 34).toNatClampNeg p3) := ⟨_, rfl⟩
  rw [← e9] at hW
  have hX := lt_go hX e9
  refine lv_aload_n hx hb dX12_gives_54 rfl (lv_at hl 0 rfl) ?_
  refine gf_40_27 hx hb htg hown hK hW q162 dX12_gives_55 ?_
  refine lv_aload_n hx hb dX12_gives_58 rfl (lv_at hl 0 rfl) ?_
  refine gf_40_34 hx hb htg hown hK hW q353 dX12_gives_59 ?_
  refine lv_iload hx hb dX12_gives_62 (lv_at hl 5 rfl) ?_
  obtain ⟨g13, hX⟩ := gd_go hX
  refine as_127 hx hb hK hW hS g13 dX12_gives_64 (fun H locs hW hS => ?_)
  obtain ⟨y14, e9⟩ : ∃ w : Mem, w = (up4 y12 127 0 0 (y12 40 0 0 34).toNatClampNeg p4) := ⟨_, rfl⟩
  rw [← e9] at hW
  have hX := lt_go hX e9
  refine lv_aload_n hx hb dX12_gives_65 rfl (lv_at hl 0 rfl) ?_
  refine gf_40_28 hx hb htg hown hK hW q163 dX12_gives_66 ?_
  refine lv_aload_n hx hb dX12_gives_69 rfl (lv_at hl 0 rfl) ?_
  refine gf_40_34 hx hb htg hown hK hW q353 dX12_gives_70 ?_
  refine lv_iload hx hb dX12_gives_73 (lv_at hl 6 rfl) ?_
  obtain ⟨g15, hX⟩ := gd_go hX
  refine as_128 hx hb hK hW hS g15 dX12_gives_75 (fun H locs hW hS => ?_)
  obtain ⟨y16, e9⟩ : ∃ w : Mem, w = (up4 y14 128 0 0 (y14 40 0 0 34).toNatClampNeg p5) := ⟨_, rfl⟩
  rw [← e9] at hW
  have hX := lt_go hX e9
  refine lv_aload_n hx hb dX12_gives_76 rfl (lv_at hl 0 rfl) ?_
  refine gf_40_29 hx hb htg hown hK hW q164 dX12_gives_77 ?_
  refine lv_aload_n hx hb dX12_gives_80 rfl (lv_at hl 0 rfl) ?_
  refine gf_40_34 hx hb htg hown hK hW q353 dX12_gives_81 ?_
  refine lv_iconst (v := (0 : Int32)) hx hb dX12_gives_84 (by decide) ?_
  obtain ⟨g17, hX⟩ := gd_go hX
  refine as_129 hx hb hK hW hS g17 dX12_gives_85 (fun H locs hW hS => ?_)
  obtain ⟨y18, e9⟩ : ∃ w : Mem, w = (up4 y16 129 0 0 (y16 40 0 0 34).toNatClampNeg (0 : Int32)) := ⟨_, rfl⟩
  rw [← e9] at hW
  have hX := lt_go hX e9
  refine lv_aload_n hx hb dX12_gives_86 rfl (lv_at hl 0 rfl) ?_
  refine gf_40_30 hx hb htg hown hK hW q165 dX12_gives_87 ?_
  refine lv_aload_n hx hb dX12_gives_90 rfl (lv_at hl 0 rfl) ?_
  refine gf_40_34 hx hb htg hown hK hW q353 dX12_gives_91 ?_
  refine lv_iconst (v := (-1 : Int32)) hx hb dX12_gives_94 (by decide) ?_
  obtain ⟨g19, hX⟩ := gd_go hX
  refine as_130 hx hb hK hW hS g19 dX12_gives_95 (fun H locs hW hS => ?_)
  obtain ⟨y20, e9⟩ : ∃ w : Mem, w = (up4 y18 130 0 0 (y18 40 0 0 34).toNatClampNeg (-1 : Int32)) := ⟨_, rfl⟩
  rw [← e9] at hW
  have hX := lt_go hX e9
  refine lv_aload_n hx hb dX12_gives_96 rfl (lv_at hl 0 rfl) ?_
  refine gf_40_31 hx hb htg hown hK hW q166 dX12_gives_97 ?_
  refine lv_aload_n hx hb dX12_gives_100 rfl (lv_at hl 0 rfl) ?_
  refine gf_40_34 hx hb htg hown hK hW q353 dX12_gives_101 ?_
  refine lv_iconst (v := (-1 : Int32)) hx hb dX12_gives_104 (by decide) ?_
  obtain ⟨g21, hX⟩ := gd_go hX
  refine as_131 hx hb hK hW hS g21 dX12_gives_105 (fun H locs hW hS => ?_)
  obtain ⟨y22, e9⟩ : ∃ w : Mem, w = (up4 y20 131 0 0 (y20 40 0 0 34).toNatClampNeg (-1 : Int32)) := ⟨_, rfl⟩
  rw [← e9] at hW
  have hX := lt_go hX e9
  refine lv_aload_n hx hb dX12_gives_106 rfl (lv_at hl 0 rfl) ?_
  refine gf_40_12 hx hb htg hown hK hW q147 dX12_gives_107 ?_
  refine lv_bipush (v := (30 : Int32)) hx hb dX12_gives_110 (by decide) ?_
  refine lv_iload_n hx hb dX12_gives_112 rfl (lv_at hl 1 rfl) ?_
  refine lv_imul hx hb dX12_gives_113 ?_
  refine lv_aload_n hx hb dX12_gives_114 rfl (lv_at hl 0 rfl) ?_
  refine gf_40_11 hx hb htg hown hK hW q146 dX12_gives_115 ?_
  refine lv_iload_n hx hb dX12_gives_118 rfl (lv_at hl 1 rfl) ?_
  obtain ⟨g23, hX⟩ := gd_go hX
  refine al_111 hx hb hK hW g23 dX12_gives_119 ?_
  refine lv_iadd hx hb dX12_gives_120 ?_
  refine lv_aload_n hx hb dX12_gives_121 rfl (lv_at hl 0 rfl) ?_
  refine gf_40_34 hx hb htg hown hK hW q353 dX12_gives_122 ?_
  obtain ⟨g24, hX⟩ := gd_go hX
  refine as_112 hx hb hK hW hS g24 dX12_gives_125 (fun H locs hW hS => ?_)
  obtain ⟨y25, e9⟩ : ∃ w : Mem, w = (up4 y22 112 0 0 (((30 : Int32) * p0) + (y22 111 0 0 p0.toNatClampNeg)).toNatClampNeg (y22 40 0 0 34)) := ⟨_, rfl⟩
  rw [← e9] at hW
  have hX := lt_go hX e9
  refine lv_aload_n hx hb dX12_gives_126 rfl (lv_at hl 0 rfl) ?_
  refine gf_40_11 hx hb htg hown hK hW q146 dX12_gives_127 ?_
  refine lv_iload_n hx hb dX12_gives_130 rfl (lv_at hl 1 rfl) ?_
  refine lv_dup2_11 hx hb dX12_gives_131 rfl rfl ?_
  refine al_111 hx hb hK hW g23 dX12_gives_132 ?_
  refine lv_iconst (v := (1 : Int32)) hx hb dX12_gives_133 (by decide) ?_
  refine lv_iadd hx hb dX12_gives_134 ?_
  refine as_111 hx hb hK hW hS g23 dX12_gives_135 (fun H locs hW hS => ?_)
  obtain ⟨y26, e9⟩ : ∃ w : Mem, w = (up4 y25 111 0 0 p0.toNatClampNeg ((y25 111 0 0 p0.toNatClampNeg) + (1 : Int32))) := ⟨_, rfl⟩
  rw [← e9] at hW
  have hX := lt_go hX e9
  refine lv_aload_n hx hb dX12_gives_136 rfl (lv_at hl 0 rfl) ?_
  refine lv_dup hx hb dX12_gives_137 rfl ?_
  refine gf_40_34 hx hb htg hown hK hW q353 dX12_gives_138 ?_
  refine lv_iconst (v := (1 : Int32)) hx hb dX12_gives_141 (by decide) ?_
  refine lv_iadd hx hb dX12_gives_142 ?_
  refine pf_40_34 hx hb htg hown hK hW hS q353 dX12_gives_143 (fun H locs hW hS => ?_)
  obtain ⟨y27, e9⟩ : ∃ w : Mem, w = (up4 y26 40 0 0 34 ((y26 40 0 0 34) + (1 : Int32))) := ⟨_, rfl⟩
  rw [← e9] at hW
  have hX := lt_go hX e9
  have hX := Option.some.inj hX
  subst hX
  exact rt_v hx hb hr hlocks hW hS dX12_gives_146
set_option maxHeartbeats 4000000 in
theorem k_X12_gives {p : Program} {l : Launch} {e : Env} {R : Room} {s : State} {m : MethodId} {args : Array Value} {below : List Frame} {meth : Method} {c : Code} {H : Heap} {locs : List Loc} {cells slots : Nat} {Q : State → Prop} {cc : ByteArray} {pc nL idx : Nat} {own : String} {ls : Array Slot} {rest : List Value} {G : Geo} {x y : Mem} {H0 : Heap} {p0 : Int32} {p1 : Int32} {p2 : Int32} {p3 : Int32} {p4 : Int32} {p5 : Int32} {z : Mem} (hx : p.tables.exec = Jvm.exec) (hb : c.code = cc) (hml : c.maxLocals = nL) (hown : s.vm.findClass own = some m.cls) (htg : ∀ w ∈ wsG, w.before args s = true) (hK : Kt G s) (hW : Wh G x y H) (hS : va_S (gF G) H0 H locs) (h : m_X12_gives p0 p1 p2 p3 p4 p5 y = some z) (hlk : Cond.methodLink own idx yX12_gives ∈ wsG) (hn : ls.size = nL) (hr : (rest.map fun v => v.category).sum ≤ 8) (hR1 : 1 + 1 ≤ R.frames) (hR2 : 8 + (7 + 11) + 22 ≤ R.locals) (hf : cells ≤ R.cells ∧ slots ≤ R.slots) (hdg : decode cc pc = .ok (.invokevirtual idx, 3)) (kk : ∀ (H1 : Heap) (locs1 : List Loc), Wh G x z H1 → va_S (gF G) H0 H1 locs1 → W p l e R s m args below meth c H1 locs1 cells slots Q (F0 m (pc + 3) ls (rest))) : W p l e R s m args below meth c H locs cells slots Q (F0 m pc ls (.int p5 :: .int p4 :: .int p3 :: .int p2 :: .int p1 :: .int p0 :: .ref (gA G 40 0 0) :: rest)) := by
  refine va_callv (va_runV (As := [.int p0, .int p1, .int p2, .int p3, .int p4, .int p5]) (rest := rest) ⟨hx, hb, hml, hown, htg⟩ (c_X12_gives l G x y p0 p1 p2 p3 p4 p5 z h) (cwV 6 htg (gd_V hlk q580 q581 q5 q582) rfl rfl rfl (by decide +kernel) ⟨hR1, hR2⟩) ⟨fun a U g mk q => ⟨q.1, q.2.1.calling, q.2.2⟩, rc_40 hK hW, fun U hU hW9 => ⟨rfl, hK.warm hW9, by rw [hU]; exact hW⟩⟩ rfl rfl hn rfl (lv_room hr) hdg hf) hS (fun _ _ h9 => h9) (fun _ h9 => h9) ?_
  intro u t H1 locs1 ht hvm hw hB hz1 hk1 hS1
  replace hB : Wh G x z t.heap := hB
  rw [ht] at hB
  exact kk H1 locs1 hB hS1
/-! METHOD X12_findTurns -/
def m_X12_findTurns_j55 (k2 : Int32 → Mem → Option Mem) (x1 : Int32) (x2 : Int32) (y : Mem) : Option Mem :=
  gd_ x2 3 (lt_ (up4 y 147 0 0 x2.toNatClampNeg x1) fun y13 => lt_ (x1 + (1 : Int32)) fun x1_14 => k2 x1_14 y13)
def m_X12_findTurns_b9 (k2 : Int32 → Mem → Option Mem) (k9 : Int32 → Int32 → Mem → Option Mem) (x1 : Int32) (x2 : Int32) (y : Mem) : Option Mem :=
  if x2 ≤ 0 then (m_X12_findTurns_j55 k2 x1 x2 y) else (gd_ (x2 - (1 : Int32)) 3 (gd_ (y 147 0 0 (x2 - (1 : Int32)).toNatClampNeg) 3 (gd_ x1 3 (if (y 117 0 0 x1.toNatClampNeg) ≤ (y 117 0 0 (y 147 0 0 (x2 - (1 : Int32)).toNatClampNeg).toNatClampNeg) then (m_X12_findTurns_j55 k2 x1 x2 y) else (gd_ x2 3 (lt_ (up4 y 147 0 0 x2.toNatClampNeg (y 147 0 0 (x2 - (1 : Int32)).toNatClampNeg)) fun y10 => lt_ (x2 + (-1 : Int32)) fun x2_11 => k9 x1 x2_11 y10))))))
def m_X12_findTurns_l9 (k2 : Int32 → Mem → Option Mem) : Nat → Int32 → Int32 → Mem → Option Mem
  | 0, _, _, _ => none
  | n + 1, x1, x2, y => m_X12_findTurns_b9 k2 (m_X12_findTurns_l9 k2 n) x1 x2 y
def m_X12_findTurns_b2 (k2 : Int32 → Mem → Option Mem) (x1 : Int32) (y : Mem) : Option Mem :=
  if (3 : Int32) ≤ x1 then (some y) else (lt_ x1 fun x2_3 => m_X12_findTurns_l9 k2 FU x1 x2_3 y)
def m_X12_findTurns_l2 : Nat → Int32 → Mem → Option Mem
  | 0, _, _ => none
  | n + 1, x1, y => m_X12_findTurns_b2 (m_X12_findTurns_l2 n) x1 y
def m_X12_findTurns (y : Mem) : Option Mem :=
  lt_ (0 : Int32) fun x1_1 => m_X12_findTurns_l2 FU x1_1 y
abbrev WS_X12_findTurns : List Cond := .code yX12_findTurns cX12_findTurns 3 none :: wsG
abbrev RM_X12_findTurns : Room := { frames := 0, cells := 0, slots := 0, locals := 0 }
set_option maxHeartbeats 4000000 in
set_option maxRecDepth 100000 in
theorem c_X12_findTurns (l : Launch) (G : Geo) (x y : Mem) (r : Mem) (h : m_X12_findTurns y = some r) : Met l yX12_findTurns WS_X12_findTurns RM_X12_findTurns (Pw G x y [.ref (gA G 40 0 0)]) (Qv G x r) 0 0 (gF G) := by
  refine Met.ofW (cc := cX12_findTurns) (maxL := 3) (ret := none) (by decide) rfl ?_
  intro p e s m args below meth c s₁ B hml hv
  obtain ⟨rfl, hK, hW⟩ := hv
  have hx := B.exec
  have hb := B.bytes
  have hr := B.returns
  have hts := atoms_spec (ws := WS_X12_findTurns) B.pre
  have htg : ∀ w ∈ wsG, w.before _ s = true := fun w h => hts w (List.mem_cons_of_mem _ h)
  have hown : s.vm.findClass RX12 = some m.cls := findClass_of_methodNamed B.named
  have hlocks := B.notSynchronized
  have hS : va_S (gF G) s.heap s.heap [] := va_S.rf
  have hl := lv_entry ([.ref (gA G 40 0 0)]) (n := 3) (Nat.le_of_ble_eq_true rfl)
  rw [lg_entry_eq]
  generalize (lg_sl ([.ref (gA G 40 0 0)]) ++ List.replicate (3 - (lg_sl ([.ref (gA G 40 0 0)])).length) Slot.unset).toArray = ls at hl ⊢
  have hl : lv_has ls 3 [(0, .ref (gA G 40 0 0))] := hl
  have hX := h
  unfold m_X12_findTurns at hX
  have J_55 : ∀ (k2 : Int32 → Mem → Option Mem) (hk2 : ∀ (x1 : Int32) (y : Mem) (H : Heap) (locs : List Loc) (ls : Array Slot), Wh G x y H → va_S (gF G) s.heap H locs → lv_has ls 3 [(0, .ref (gA G 40 0 0)), (1, .int x1)] → k2 x1 y = some r → W p l e (headSpec WS_X12_findTurns RM_X12_findTurns).room s m ([.ref (gA G 40 0 0)] : List Value).toArray below meth c H locs 0 0 (MQ below (Qv G x r) ([.ref (gA G 40 0 0)] : List Value).toArray s 0 0 (gF G)) (F0 m 2 ls [])), ∀ (x1 : Int32) (x2 : Int32) (y : Mem) (H : Heap) (locs : List Loc) (ls : Array Slot), Wh G x y H → va_S (gF G) s.heap H locs → lv_has ls 3 [(0, .ref (gA G 40 0 0)), (1, .int x1), (2, .int x2)] → m_X12_findTurns_j55 k2 x1 x2 y = some r → W p l e (headSpec WS_X12_findTurns RM_X12_findTurns).room s m ([.ref (gA G 40 0 0)] : List Value).toArray below meth c H locs 0 0 (MQ below (Qv G x r) ([.ref (gA G 40 0 0)] : List Value).toArray s 0 0 (gF G)) (F0 m 55 ls []) := by
    intro k2 hk2 x1 x2 y H locs ls hW hS hl hX
    unfold m_X12_findTurns_j55 at hX
    refine lv_aload_n hx hb dX12_findTurns_55 rfl (lv_at hl 0 rfl) ?_
    refine gf_40_47 hx hb htg hown hK hW q171 dX12_findTurns_56 ?_
    refine lv_iload_n hx hb dX12_findTurns_59 rfl (lv_at hl 2 rfl) ?_
    refine lv_iload_n hx hb dX12_findTurns_60 rfl (lv_at hl 1 rfl) ?_
    obtain ⟨g12, hX⟩ := gd_go hX
    refine as_147 hx hb hK hW hS g12 dX12_findTurns_61 (fun H locs hW hS => ?_)
    obtain ⟨y13, e9⟩ : ∃ w : Mem, w = (up4 y 147 0 0 x2.toNatClampNeg x1) := ⟨_, rfl⟩
    rw [← e9] at hW
    have hX := lt_go hX e9
    obtain ⟨x1_14, e9⟩ : ∃ w : Int32, w = (x1 + (1 : Int32)) := ⟨_, rfl⟩
    have hX := lt_go hX e9
    refine lv_iinc (v := x1_14) (lv' := [(1, .int x1_14), (0, .ref (gA G 40 0 0)), (2, .int x2)]) hx hb dX12_findTurns_62 hl (k := 1) rfl (by rw [e9]; rfl) (by decide) rfl (fun ls hl => ?_)
    refine lv_goto (tgt := 2) hx hb dX12_findTurns_65 (by decide) ?_
    exact hk2 _ _ _ _ _ hW hS (lv_sub hl [1, 0] rfl) hX
  have B_9 : ∀ (k2 : Int32 → Mem → Option Mem) (hk2 : ∀ (x1 : Int32) (y : Mem) (H : Heap) (locs : List Loc) (ls : Array Slot), Wh G x y H → va_S (gF G) s.heap H locs → lv_has ls 3 [(0, .ref (gA G 40 0 0)), (1, .int x1)] → k2 x1 y = some r → W p l e (headSpec WS_X12_findTurns RM_X12_findTurns).room s m ([.ref (gA G 40 0 0)] : List Value).toArray below meth c H locs 0 0 (MQ below (Qv G x r) ([.ref (gA G 40 0 0)] : List Value).toArray s 0 0 (gF G)) (F0 m 2 ls [])) (k9 : Int32 → Int32 → Mem → Option Mem) (hk9 : ∀ (x1 : Int32) (x2 : Int32) (y : Mem) (H : Heap) (locs : List Loc) (ls : Array Slot), Wh G x y H → va_S (gF G) s.heap H locs → lv_has ls 3 [(0, .ref (gA G 40 0 0)), (1, .int x1), (2, .int x2)] → k9 x1 x2 y = some r → W p l e (headSpec WS_X12_findTurns RM_X12_findTurns).room s m ([.ref (gA G 40 0 0)] : List Value).toArray below meth c H locs 0 0 (MQ below (Qv G x r) ([.ref (gA G 40 0 0)] : List Value).toArray s 0 0 (gF G)) (F0 m 9 ls [])), ∀ (x1 : Int32) (x2 : Int32) (y : Mem) (H : Heap) (locs : List Loc) (ls : Array Slot), Wh G x y H → va_S (gF G) s.heap H locs → lv_has ls 3 [(0, .ref (gA G 40 0 0)), (1, .int x1), (2, .int x2)] → m_X12_findTurns_b9 k2 k9 x1 x2 y = some r → W p l e (headSpec WS_X12_findTurns RM_X12_findTurns).room s m ([.ref (gA G 40 0 0)] : List Value).toArray below meth c H locs 0 0 (MQ below (Qv G x r) ([.ref (gA G 40 0 0)] : List Value).toArray s 0 0 (gF G)) (F0 m 9 ls []) := by
    intro k2 hk2 k9 hk9 x1 x2 y H locs ls hW hS hl hX
    unfold m_X12_findTurns_b9 at hX
    refine lv_iload_n hx hb dX12_findTurns_9 rfl (lv_at hl 2 rfl) ?_
    refine lv_if_le (tgt := 55) hx hb dX12_findTurns_10 (by decide) (fun c4 => ?_) (fun c4 => ?_)
    · have hX := it_t hX c4
      exact J_55 k2 hk2 _ _ _ _ _ _ hW hS (lv_sub hl [0, 1, 2] rfl) hX
    · have hX := it_f hX c4
      refine lv_aload_n hx hb dX12_findTurns_13 rfl (lv_at hl 0 rfl) ?_
      refine gf_40_17 hx hb htg hown hK hW q152 dX12_findTurns_14 ?_
      refine lv_aload_n hx hb dX12_findTurns_17 rfl (lv_at hl 0 rfl) ?_
      refine gf_40_47 hx hb htg hown hK hW q171 dX12_findTurns_18 ?_
      refine lv_iload_n hx hb dX12_findTurns_21 rfl (lv_at hl 2 rfl) ?_
      refine lv_iconst (v := (1 : Int32)) hx hb dX12_findTurns_22 (by decide) ?_
      refine lv_isub hx hb dX12_findTurns_23 ?_
      obtain ⟨g5, hX⟩ := gd_go hX
      refine al_147 hx hb hK hW g5 dX12_findTurns_24 ?_
      obtain ⟨g6, hX⟩ := gd_go hX
      refine al_117 hx hb hK hW g6 dX12_findTurns_25 ?_
      refine lv_aload_n hx hb dX12_findTurns_26 rfl (lv_at hl 0 rfl) ?_
      refine gf_40_17 hx hb htg hown hK hW q152 dX12_findTurns_27 ?_
      refine lv_iload_n hx hb dX12_findTurns_30 rfl (lv_at hl 1 rfl) ?_
      obtain ⟨g7, hX⟩ := gd_go hX
      refine al_117 hx hb hK hW g7 dX12_findTurns_31 ?_
      refine lv_icmp_ge (tgt := 55) hx hb dX12_findTurns_32 (by decide) (fun c8 => ?_) (fun c8 => ?_)
      · have hX := it_t hX c8
        exact J_55 k2 hk2 _ _ _ _ _ _ hW hS (lv_sub hl [0, 1, 2] rfl) hX
      · have hX := it_f hX c8
        refine lv_aload_n hx hb dX12_findTurns_35 rfl (lv_at hl 0 rfl) ?_
        refine gf_40_47 hx hb htg hown hK hW q171 dX12_findTurns_36 ?_
        refine lv_iload_n hx hb dX12_findTurns_39 rfl (lv_at hl 2 rfl) ?_
        refine lv_aload_n hx hb dX12_findTurns_40 rfl (lv_at hl 0 rfl) ?_
        refine gf_40_47 hx hb htg hown hK hW q171 dX12_findTurns_41 ?_
        refine lv_iload_n hx hb dX12_findTurns_44 rfl (lv_at hl 2 rfl) ?_
        refine lv_iconst (v := (1 : Int32)) hx hb dX12_findTurns_45 (by decide) ?_
        refine lv_isub hx hb dX12_findTurns_46 ?_
        refine al_147 hx hb hK hW g5 dX12_findTurns_47 ?_
        obtain ⟨g9, hX⟩ := gd_go hX
        refine as_147 hx hb hK hW hS g9 dX12_findTurns_48 (fun H locs hW hS => ?_)
        obtain ⟨y10, e9⟩ : ∃ w : Mem, w = (up4 y 147 0 0 x2.toNatClampNeg (y 147 0 0 (x2 - (1 : Int32)).toNatClampNeg)) := ⟨_, rfl⟩
        rw [← e9] at hW
        have hX := lt_go hX e9
        obtain ⟨x2_11, e9⟩ : ∃ w : Int32, w = (x2 + (-1 : Int32)) := ⟨_, rfl⟩
        have hX := lt_go hX e9
        refine lv_iinc (v := x2_11) (lv' := [(2, .int x2_11), (0, .ref (gA G 40 0 0)), (1, .int x1)]) hx hb dX12_findTurns_49 hl (k := 2) rfl (by rw [e9]; rfl) (by decide) rfl (fun ls hl => ?_)
        refine lv_goto (tgt := 9) hx hb dX12_findTurns_52 (by decide) ?_
        exact hk9 _ _ _ _ _ _ hW hS (lv_sub hl [1, 2, 0] rfl) hX
  have L_9 : ∀ (k2 : Int32 → Mem → Option Mem) (hk2 : ∀ (x1 : Int32) (y : Mem) (H : Heap) (locs : List Loc) (ls : Array Slot), Wh G x y H → va_S (gF G) s.heap H locs → lv_has ls 3 [(0, .ref (gA G 40 0 0)), (1, .int x1)] → k2 x1 y = some r → W p l e (headSpec WS_X12_findTurns RM_X12_findTurns).room s m ([.ref (gA G 40 0 0)] : List Value).toArray below meth c H locs 0 0 (MQ below (Qv G x r) ([.ref (gA G 40 0 0)] : List Value).toArray s 0 0 (gF G)) (F0 m 2 ls [])) (n : Nat), ∀ (x1 : Int32) (x2 : Int32) (y : Mem) (H : Heap) (locs : List Loc) (ls : Array Slot), Wh G x y H → va_S (gF G) s.heap H locs → lv_has ls 3 [(0, .ref (gA G 40 0 0)), (1, .int x1), (2, .int x2)] → m_X12_findTurns_l9 k2 n x1 x2 y = some r → W p l e (headSpec WS_X12_findTurns RM_X12_findTurns).room s m ([.ref (gA G 40 0 0)] : List Value).toArray below meth c H locs 0 0 (MQ below (Qv G x r) ([.ref (gA G 40 0 0)] : List Value).toArray s 0 0 (gF G)) (F0 m 9 ls []) := by
    intro k2 hk2 n
    induction n with
    | zero => intro x1 x2 y H locs ls hW hS hl hX; exact no_go hX
    | succ n ih => intro x1 x2 y H locs ls hW hS hl hX; exact B_9 k2 hk2 _ ih _ _ _ _ _ _ hW hS hl hX
  have B_2 : ∀ (k2 : Int32 → Mem → Option Mem) (hk2 : ∀ (x1 : Int32) (y : Mem) (H : Heap) (locs : List Loc) (ls : Array Slot), Wh G x y H → va_S (gF G) s.heap H locs → lv_has ls 3 [(0, .ref (gA G 40 0 0)), (1, .int x1)] → k2 x1 y = some r → W p l e (headSpec WS_X12_findTurns RM_X12_findTurns).room s m ([.ref (gA G 40 0 0)] : List Value).toArray below meth c H locs 0 0 (MQ below (Qv G x r) ([.ref (gA G 40 0 0)] : List Value).toArray s 0 0 (gF G)) (F0 m 2 ls [])), ∀ (x1 : Int32) (y : Mem) (H : Heap) (locs : List Loc) (ls : Array Slot), Wh G x y H → va_S (gF G) s.heap H locs → lv_has ls 3 [(0, .ref (gA G 40 0 0)), (1, .int x1)] → m_X12_findTurns_b2 k2 x1 y = some r → W p l e (headSpec WS_X12_findTurns RM_X12_findTurns).room s m ([.ref (gA G 40 0 0)] : List Value).toArray below meth c H locs 0 0 (MQ below (Qv G x r) ([.ref (gA G 40 0 0)] : List Value).toArray s 0 0 (gF G)) (F0 m 2 ls []) := by
    intro k2 hk2 x1 y H locs ls hW hS hl hX
    unfold m_X12_findTurns_b2 at hX
    refine lv_iload_n hx hb dX12_findTurns_2 rfl (lv_at hl 1 rfl) ?_
    refine lv_iconst (v := (3 : Int32)) hx hb dX12_findTurns_3 (by decide) ?_
    refine lv_icmp_ge (tgt := 68) hx hb dX12_findTurns_4 (by decide) (fun c2 => ?_) (fun c2 => ?_)
    · have hX := it_t hX c2
      have hX := Option.some.inj hX
      subst hX
      exact rt_v hx hb hr hlocks hW hS dX12_findTurns_68
    · have hX := it_f hX c2
      refine lv_iload_n hx hb dX12_findTurns_7 rfl (lv_at hl 1 rfl) ?_
      refine lv_topi (fun x2_3 e9 => ?_)
      have hX := lt_go hX e9
      refine lv_istore_n (lv' := [(2, .int x2_3), (0, .ref (gA G 40 0 0)), (1, .int x1)]) hx hb dX12_findTurns_8 rfl hl (by decide) rfl (fun ls hl => ?_)
      exact L_9 k2 hk2 FU _ _ _ _ _ _ hW hS (lv_sub hl [1, 2, 0] rfl) hX
  have L_2 : ∀ (n : Nat), ∀ (x1 : Int32) (y : Mem) (H : Heap) (locs : List Loc) (ls : Array Slot), Wh G x y H → va_S (gF G) s.heap H locs → lv_has ls 3 [(0, .ref (gA G 40 0 0)), (1, .int x1)] → m_X12_findTurns_l2 n x1 y = some r → W p l e (headSpec WS_X12_findTurns RM_X12_findTurns).room s m ([.ref (gA G 40 0 0)] : List Value).toArray below meth c H locs 0 0 (MQ below (Qv G x r) ([.ref (gA G 40 0 0)] : List Value).toArray s 0 0 (gF G)) (F0 m 2 ls []) := by
    intro n
    induction n with
    | zero => intro x1 y H locs ls hW hS hl hX; exact no_go hX
    | succ n ih => intro x1 y H locs ls hW hS hl hX; exact B_2 _ ih _ _ _ _ _ hW hS hl hX
  refine lv_iconst (v := (0 : Int32)) hx hb dX12_findTurns_0 (by decide) ?_
  refine lv_topi (fun x1_1 e9 => ?_)
  have hX := lt_go hX e9
  refine lv_istore_n (lv' := [(1, .int x1_1), (0, .ref (gA G 40 0 0))]) hx hb dX12_findTurns_1 rfl hl (by decide) rfl (fun ls hl => ?_)
  exact L_2 FU _ _ _ _ _ hW hS (lv_sub hl [1, 0] rfl) hX
set_option maxHeartbeats 4000000 in
theorem k_X12_findTurns {p : Program} {l : Launch} {e : Env} {R : Room} {s : State} {m : MethodId} {args : Array Value} {below : List Frame} {meth : Method} {c : Code} {H : Heap} {locs : List Loc} {cells slots : Nat} {Q : State → Prop} {cc : ByteArray} {pc nL idx : Nat} {own : String} {ls : Array Slot} {rest : List Value} {G : Geo} {x y : Mem} {H0 : Heap} {z : Mem} (hx : p.tables.exec = Jvm.exec) (hb : c.code = cc) (hml : c.maxLocals = nL) (hown : s.vm.findClass own = some m.cls) (htg : ∀ w ∈ wsG, w.before args s = true) (hK : Kt G s) (hW : Wh G x y H) (hS : va_S (gF G) H0 H locs) (h : m_X12_findTurns y = some z) (hlk : Cond.methodLink own idx yX12_findTurns ∈ wsG) (hn : ls.size = nL) (hr : (rest.map fun v => v.category).sum ≤ 8) (hR1 : 0 + 1 ≤ R.frames) (hR2 : 8 + (3 + 11) + 0 ≤ R.locals) (hf : cells ≤ R.cells ∧ slots ≤ R.slots) (hdg : decode cc pc = .ok (.invokevirtual idx, 3)) (kk : ∀ (H1 : Heap) (locs1 : List Loc), Wh G x z H1 → va_S (gF G) H0 H1 locs1 → W p l e R s m args below meth c H1 locs1 cells slots Q (F0 m (pc + 3) ls (rest))) : W p l e R s m args below meth c H locs cells slots Q (F0 m pc ls (.ref (gA G 40 0 0) :: rest)) := by
  refine va_callv (va_runV (As := []) (rest := rest) ⟨hx, hb, hml, hown, htg⟩ (c_X12_findTurns l G x y z h) (cwV 0 htg (gd_V hlk q846 q847 q5 q848) rfl rfl rfl (by decide +kernel) ⟨hR1, hR2⟩) ⟨fun a U g mk q => ⟨q.1, q.2.1.calling, q.2.2⟩, rc_40 hK hW, fun U hU hW9 => ⟨rfl, hK.warm hW9, by rw [hU]; exact hW⟩⟩ rfl rfl hn rfl (lv_room hr) hdg hf) hS (fun _ _ h9 => h9) (fun _ h9 => h9) ?_
  intro u t H1 locs1 ht hvm hw hB hz1 hk1 hS1
  replace hB : Wh G x z t.heap := hB
  rw [ht] at hB
  exact kk H1 locs1 hB hS1
/-! METHOD X12_ticks -/
def m_X12_ticks_b101 (k71 : Int32 → Mem → Option Mem) (k101 : Int32 → Int32 → Mem → Option Mem) (x1 : Int32) (x2 : Int32) (y : Mem) : Option Mem :=
  if (8 : Int32) ≤ x2 then (lt_ (x1 + (1 : Int32)) fun x1_26 => k71 x1_26 y) else (gd_ x2 8 (bd_ (m_X12_holds x1 y) fun r29 => lt_ (up4 y 102 0 0 x2.toNatClampNeg ((y 102 0 0 x2.toNatClampNeg) + ((sar32 r29 x2) &&& (1 : Int32)))) fun y30 => lt_ (x2 + (1 : Int32)) fun x2_31 => k101 x1 x2_31 y30))
def m_X12_ticks_l101 (k71 : Int32 → Mem → Option Mem) : Nat → Int32 → Int32 → Mem → Option Mem
  | 0, _, _, _ => none
  | n + 1, x1, x2, y => m_X12_ticks_b101 k71 (m_X12_ticks_l101 k71 n) x1 x2 y
def m_X12_ticks_j97 (k71 : Int32 → Mem → Option Mem) (x1 : Int32) (s0 : Int32) (s1 : Int32) (s2 : Int32) (y : Mem) : Option Mem :=
  gd_ s2 3 (lt_ (up4 y 121 0 0 s2.toNatClampNeg (s1 + s0)) fun y23 => lt_ (0 : Int32) fun x2_24 => m_X12_ticks_l101 k71 FU x1 x2_24 y23)
def m_X12_ticks_b71 (k71 : Int32 → Mem → Option Mem) (x1 : Int32) (y : Mem) : Option Mem :=
  if (3 : Int32) ≤ x1 then (some y) else (gd_ x1 3 (if (y 114 0 0 x1.toNatClampNeg) = 0 then (m_X12_ticks_j97 k71 x1 (0 : Int32) (y 121 0 0 x1.toNatClampNeg) x1 y) else (m_X12_ticks_j97 k71 x1 (1 : Int32) (y 121 0 0 x1.toNatClampNeg) x1 y)))
def m_X12_ticks_l71 : Nat → Int32 → Mem → Option Mem
  | 0, _, _ => none
  | n + 1, x1, y => m_X12_ticks_b71 (m_X12_ticks_l71 n) x1 y
def m_X12_ticks_j62 (k16 : Int32 → Mem → Option Mem) (x1 : Int32) (s0 : Int32) (s1 : Int32) (y : Mem) : Option Mem :=
  gd_ s1 3 (lt_ (up4 y 117 0 0 s1.toNatClampNeg s0) fun y20 => lt_ (x1 + (1 : Int32)) fun x1_21 => k16 x1_21 y20)
def m_X12_ticks_b16 (k16 : Int32 → Mem → Option Mem) (x1 : Int32) (y : Mem) : Option Mem :=
  if (3 : Int32) ≤ x1 then (lt_ (0 : Int32) fun x1_7 => m_X12_ticks_l71 FU x1_7 y) else (gd_ x1 3 (lt_ (y 147 0 0 x1.toNatClampNeg) fun x2_9 => lt_ (up4 y 40 0 0 46 (0 : Int32)) fun y10 => bd_ (m_X12_acts x2_9 y10) fun y13 => if (y13 40 0 0 46) = 0 then (m_X12_ticks_j62 k16 x1 (0 : Int32) x2_9 y13) else (gd_ x2_9 3 (m_X12_ticks_j62 k16 x1 ((y13 117 0 0 x2_9.toNatClampNeg) + (1 : Int32)) x2_9 y13))))
def m_X12_ticks_l16 : Nat → Int32 → Mem → Option Mem
  | 0, _, _ => none
  | n + 1, x1, y => m_X12_ticks_b16 (m_X12_ticks_l16 n) x1 y
def m_X12_ticks (y : Mem) : Option Mem :=
  lt_ (up4 y 40 0 0 33 ((y 40 0 0 33) + (1 : Int32))) fun y1 => bd_ (m_X12_findTurns y1) fun y4 => lt_ (0 : Int32) fun x1_5 => m_X12_ticks_l16 FU x1_5 y4
abbrev WS_X12_ticks : List Cond := .code yX12_ticks cX12_ticks 3 none :: wsG
abbrev RM_X12_ticks : Room := { frames := 8, cells := 0, slots := 0, locals := 184 }
set_option maxHeartbeats 4000000 in
set_option maxRecDepth 100000 in
theorem c_X12_ticks (l : Launch) (G : Geo) (x y : Mem) (r : Mem) (h : m_X12_ticks y = some r) : Met l yX12_ticks WS_X12_ticks RM_X12_ticks (Pw G x y [.ref (gA G 40 0 0)]) (Qv G x r) 0 0 (gF G) := by
  refine Met.ofW (cc := cX12_ticks) (maxL := 3) (ret := none) (by decide) rfl ?_
  intro p e s m args below meth c s₁ B hml hv
  obtain ⟨rfl, hK, hW⟩ := hv
  have hx := B.exec
  have hb := B.bytes
  have hr := B.returns
  have hts := atoms_spec (ws := WS_X12_ticks) B.pre
  have htg : ∀ w ∈ wsG, w.before _ s = true := fun w h => hts w (List.mem_cons_of_mem _ h)
  have hown : s.vm.findClass RX12 = some m.cls := findClass_of_methodNamed B.named
  have hlocks := B.notSynchronized
  have hS : va_S (gF G) s.heap s.heap [] := va_S.rf
  have hl := lv_entry ([.ref (gA G 40 0 0)]) (n := 3) (Nat.le_of_ble_eq_true rfl)
  rw [lg_entry_eq]
  generalize (lg_sl ([.ref (gA G 40 0 0)]) ++ List.replicate (3 - (lg_sl ([.ref (gA G 40 0 0)])).length) Slot.unset).toArray = ls at hl ⊢
  have hl : lv_has ls 3 [(0, .ref (gA G 40 0 0))] := hl
  have hX := h
  unfold m_X12_ticks at hX
  have B_101 : ∀ (k71 : Int32 → Mem → Option Mem) (hk71 : ∀ (x1 : Int32) (y : Mem) (H : Heap) (locs : List Loc) (ls : Array Slot), Wh G x y H → va_S (gF G) s.heap H locs → lv_has ls 3 [(0, .ref (gA G 40 0 0)), (1, .int x1)] → k71 x1 y = some r → W p l e (headSpec WS_X12_ticks RM_X12_ticks).room s m ([.ref (gA G 40 0 0)] : List Value).toArray below meth c H locs 0 0 (MQ below (Qv G x r) ([.ref (gA G 40 0 0)] : List Value).toArray s 0 0 (gF G)) (F0 m 71 ls [])) (k101 : Int32 → Int32 → Mem → Option Mem) (hk101 : ∀ (x1 : Int32) (x2 : Int32) (y : Mem) (H : Heap) (locs : List Loc) (ls : Array Slot), Wh G x y H → va_S (gF G) s.heap H locs → lv_has ls 3 [(0, .ref (gA G 40 0 0)), (1, .int x1), (2, .int x2)] → k101 x1 x2 y = some r → W p l e (headSpec WS_X12_ticks RM_X12_ticks).room s m ([.ref (gA G 40 0 0)] : List Value).toArray below meth c H locs 0 0 (MQ below (Qv G x r) ([.ref (gA G 40 0 0)] : List Value).toArray s 0 0 (gF G)) (F0 m 101 ls [])), ∀ (x1 : Int32) (x2 : Int32) (y : Mem) (H : Heap) (locs : List Loc) (ls : Array Slot), Wh G x y H → va_S (gF G) s.heap H locs → lv_has ls 3 [(0, .ref (gA G 40 0 0)), (1, .int x1), (2, .int x2)] → m_X12_ticks_b101 k71 k101 x1 x2 y = some r → W p l e (headSpec WS_X12_ticks RM_X12_ticks).room s m ([.ref (gA G 40 0 0)] : List Value).toArray below meth c H locs 0 0 (MQ below (Qv G x r) ([.ref (gA G 40 0 0)] : List Value).toArray s 0 0 (gF G)) (F0 m 101 ls []) := by
    intro k71 hk71 k101 hk101 x1 x2 y H locs ls hW hS hl hX
    unfold m_X12_ticks_b101 at hX
    refine lv_iload_n hx hb dX12_ticks_101 rfl (lv_at hl 2 rfl) ?_
    refine lv_bipush (v := (8 : Int32)) hx hb dX12_ticks_102 (by decide) ?_
    refine lv_icmp_ge (tgt := 131) hx hb dX12_ticks_104 (by decide) (fun c25 => ?_) (fun c25 => ?_)
    · have hX := it_t hX c25
      obtain ⟨x1_26, e9⟩ : ∃ w : Int32, w = (x1 + (1 : Int32)) := ⟨_, rfl⟩
      have hX := lt_go hX e9
      refine lv_iinc (v := x1_26) (lv' := [(1, .int x1_26), (0, .ref (gA G 40 0 0)), (2, .int x2)]) hx hb dX12_ticks_131 hl (k := 1) rfl (by rw [e9]; rfl) (by decide) rfl (fun ls hl => ?_)
      refine lv_goto (tgt := 71) hx hb dX12_ticks_134 (by decide) ?_
      exact hk71 _ _ _ _ _ hW hS (lv_sub hl [1, 0] rfl) hX
    · have hX := it_f hX c25
      refine lv_aload_n hx hb dX12_ticks_107 rfl (lv_at hl 0 rfl) ?_
      refine gf_40_2 hx hb htg hown hK hW q137 dX12_ticks_108 ?_
      refine lv_iload_n hx hb dX12_ticks_111 rfl (lv_at hl 2 rfl) ?_
      refine lv_dup2_11 hx hb dX12_ticks_112 rfl rfl ?_
      obtain ⟨g27, hX⟩ := gd_go hX
      refine al_102 hx hb hK hW g27 dX12_ticks_113 ?_
      refine lv_aload_n hx hb dX12_ticks_114 rfl (lv_at hl 0 rfl) ?_
      refine lv_iload_n hx hb dX12_ticks_115 rfl (lv_at hl 1 rfl) ?_
      obtain ⟨r29, h28, hX⟩ := bd_go hX
      refine k_X12_holds hx hb hml hown htg hK hW hS h28 q326 hl.1 (Nat.le_of_ble_eq_true rfl) (Nat.le_of_ble_eq_true rfl) (Nat.le_of_ble_eq_true rfl) ⟨Nat.zero_le _, Nat.zero_le _⟩ dX12_ticks_116 (fun H locs hW hS => ?_)
      refine lv_iload_n hx hb dX12_ticks_119 rfl (lv_at hl 2 rfl) ?_
      refine lv_ishr_ hx hb dX12_ticks_120 ?_
      refine lv_iconst (v := (1 : Int32)) hx hb dX12_ticks_121 (by decide) ?_
      refine lv_iand hx hb dX12_ticks_122 ?_
      refine lv_iadd hx hb dX12_ticks_123 ?_
      refine as_102 hx hb hK hW hS g27 dX12_ticks_124 (fun H locs hW hS => ?_)
      obtain ⟨y30, e9⟩ : ∃ w : Mem, w = (up4 y 102 0 0 x2.toNatClampNeg ((y 102 0 0 x2.toNatClampNeg) + ((sar32 r29 x2) &&& (1 : Int32)))) := ⟨_, rfl⟩
      rw [← e9] at hW
      have hX := lt_go hX e9
      obtain ⟨x2_31, e9⟩ : ∃ w : Int32, w = (x2 + (1 : Int32)) := ⟨_, rfl⟩
      have hX := lt_go hX e9
      refine lv_iinc (v := x2_31) (lv' := [(2, .int x2_31), (0, .ref (gA G 40 0 0)), (1, .int x1)]) hx hb dX12_ticks_125 hl (k := 2) rfl (by rw [e9]; rfl) (by decide) rfl (fun ls hl => ?_)
      refine lv_goto (tgt := 101) hx hb dX12_ticks_128 (by decide) ?_
      exact hk101 _ _ _ _ _ _ hW hS (lv_sub hl [1, 2, 0] rfl) hX
  have L_101 : ∀ (k71 : Int32 → Mem → Option Mem) (hk71 : ∀ (x1 : Int32) (y : Mem) (H : Heap) (locs : List Loc) (ls : Array Slot), Wh G x y H → va_S (gF G) s.heap H locs → lv_has ls 3 [(0, .ref (gA G 40 0 0)), (1, .int x1)] → k71 x1 y = some r → W p l e (headSpec WS_X12_ticks RM_X12_ticks).room s m ([.ref (gA G 40 0 0)] : List Value).toArray below meth c H locs 0 0 (MQ below (Qv G x r) ([.ref (gA G 40 0 0)] : List Value).toArray s 0 0 (gF G)) (F0 m 71 ls [])) (n : Nat), ∀ (x1 : Int32) (x2 : Int32) (y : Mem) (H : Heap) (locs : List Loc) (ls : Array Slot), Wh G x y H → va_S (gF G) s.heap H locs → lv_has ls 3 [(0, .ref (gA G 40 0 0)), (1, .int x1), (2, .int x2)] → m_X12_ticks_l101 k71 n x1 x2 y = some r → W p l e (headSpec WS_X12_ticks RM_X12_ticks).room s m ([.ref (gA G 40 0 0)] : List Value).toArray below meth c H locs 0 0 (MQ below (Qv G x r) ([.ref (gA G 40 0 0)] : List Value).toArray s 0 0 (gF G)) (F0 m 101 ls []) := by
    intro k71 hk71 n
    induction n with
    | zero => intro x1 x2 y H locs ls hW hS hl hX; exact no_go hX
    | succ n ih => intro x1 x2 y H locs ls hW hS hl hX; exact B_101 k71 hk71 _ ih _ _ _ _ _ _ hW hS hl hX
  have J_97 : ∀ (k71 : Int32 → Mem → Option Mem) (hk71 : ∀ (x1 : Int32) (y : Mem) (H : Heap) (locs : List Loc) (ls : Array Slot), Wh G x y H → va_S (gF G) s.heap H locs → lv_has ls 3 [(0, .ref (gA G 40 0 0)), (1, .int x1)] → k71 x1 y = some r → W p l e (headSpec WS_X12_ticks RM_X12_ticks).room s m ([.ref (gA G 40 0 0)] : List Value).toArray below meth c H locs 0 0 (MQ below (Qv G x r) ([.ref (gA G 40 0 0)] : List Value).toArray s 0 0 (gF G)) (F0 m 71 ls [])), ∀ (x1 : Int32) (s0 : Int32) (s1 : Int32) (s2 : Int32) (y : Mem) (H : Heap) (locs : List Loc) (ls : Array Slot), Wh G x y H → va_S (gF G) s.heap H locs → lv_has ls 3 [(0, .ref (gA G 40 0 0)), (1, .int x1)] → m_X12_ticks_j97 k71 x1 s0 s1 s2 y = some r → W p l e (headSpec WS_X12_ticks RM_X12_ticks).room s m ([.ref (gA G 40 0 0)] : List Value).toArray below meth c H locs 0 0 (MQ below (Qv G x r) ([.ref (gA G 40 0 0)] : List Value).toArray s 0 0 (gF G)) (F0 m 97 ls [.int s0, .int s1, .int s2, .ref (gA G 121 0 0)]) := by
    intro k71 hk71 x1 s0 s1 s2 y H locs ls hW hS hl hX
    unfold m_X12_ticks_j97 at hX
    refine lv_iadd hx hb dX12_ticks_97 ?_
    obtain ⟨g22, hX⟩ := gd_go hX
    refine as_121 hx hb hK hW hS g22 dX12_ticks_98 (fun H locs hW hS => ?_)
    obtain ⟨y23, e9⟩ : ∃ w : Mem, w = (up4 y 121 0 0 s2.toNatClampNeg (s1 + s0)) := ⟨_, rfl⟩
    rw [← e9] at hW
    have hX := lt_go hX e9
    refine lv_iconst (v := (0 : Int32)) hx hb dX12_ticks_99 (by decide) ?_
    refine lv_topi (fun x2_24 e9 => ?_)
    have hX := lt_go hX e9
    refine lv_istore_n (lv' := [(2, .int x2_24), (0, .ref (gA G 40 0 0)), (1, .int x1)]) hx hb dX12_ticks_100 rfl hl (by decide) rfl (fun ls hl => ?_)
    exact L_101 k71 hk71 FU _ _ _ _ _ _ hW hS (lv_sub hl [1, 2, 0] rfl) hX
  have B_71 : ∀ (k71 : Int32 → Mem → Option Mem) (hk71 : ∀ (x1 : Int32) (y : Mem) (H : Heap) (locs : List Loc) (ls : Array Slot), Wh G x y H → va_S (gF G) s.heap H locs → lv_has ls 3 [(0, .ref (gA G 40 0 0)), (1, .int x1)] → k71 x1 y = some r → W p l e (headSpec WS_X12_ticks RM_X12_ticks).room s m ([.ref (gA G 40 0 0)] : List Value).toArray below meth c H locs 0 0 (MQ below (Qv G x r) ([.ref (gA G 40 0 0)] : List Value).toArray s 0 0 (gF G)) (F0 m 71 ls [])), ∀ (x1 : Int32) (y : Mem) (H : Heap) (locs : List Loc) (ls : Array Slot), Wh G x y H → va_S (gF G) s.heap H locs → lv_has ls 3 [(0, .ref (gA G 40 0 0)), (1, .int x1)] → m_X12_ticks_b71 k71 x1 y = some r → W p l e (headSpec WS_X12_ticks RM_X12_ticks).room s m ([.ref (gA G 40 0 0)] : List Value).toArray below meth c H locs 0 0 (MQ below (Qv G x r) ([.ref (gA G 40 0 0)] : List Value).toArray s 0 0 (gF G)) (F0 m 71 ls []) := by
    intro k71 hk71 x1 y H locs ls hW hS hl hX
    unfold m_X12_ticks_b71 at hX
    refine lv_iload_n hx hb dX12_ticks_71 rfl (lv_at hl 1 rfl) ?_
    refine lv_iconst (v := (3 : Int32)) hx hb dX12_ticks_72 (by decide) ?_
    refine lv_icmp_ge (tgt := 137) hx hb dX12_ticks_73 (by decide) (fun c16 => ?_) (fun c16 => ?_)
    · have hX := it_t hX c16
      have hX := Option.some.inj hX
      subst hX
      exact rt_v hx hb hr hlocks hW hS dX12_ticks_137
    · have hX := it_f hX c16
      refine lv_aload_n hx hb dX12_ticks_76 rfl (lv_at hl 0 rfl) ?_
      refine gf_40_21 hx hb htg hown hK hW q156 dX12_ticks_77 ?_
      refine lv_iload_n hx hb dX12_ticks_80 rfl (lv_at hl 1 rfl) ?_
      refine lv_dup2_11 hx hb dX12_ticks_81 rfl rfl ?_
      obtain ⟨g17, hX⟩ := gd_go hX
      refine al_121 hx hb hK hW g17 dX12_ticks_82 ?_
      refine lv_aload_n hx hb dX12_ticks_83 rfl (lv_at hl 0 rfl) ?_
      refine gf_40_14 hx hb htg hown hK hW q149 dX12_ticks_84 ?_
      refine lv_iload_n hx hb dX12_ticks_87 rfl (lv_at hl 1 rfl) ?_
      refine al_114 hx hb hK hW g17 dX12_ticks_88 ?_
      refine lv_if_ne (tgt := 96) hx hb dX12_ticks_89 (by decide) (fun c18 => ?_) (fun c18 => ?_)
      · have hX := it_f hX c18
        refine lv_iconst (v := (1 : Int32)) hx hb dX12_ticks_96 (by decide) ?_
        exact J_97 k71 hk71 _ _ _ _ _ _ _ _ hW hS (lv_sub hl [0, 1] rfl) hX
      · have hX := it_t hX c18
        refine lv_iconst (v := (0 : Int32)) hx hb dX12_ticks_92 (by decide) ?_
        refine lv_goto (tgt := 97) hx hb dX12_ticks_93 (by decide) ?_
        exact J_97 k71 hk71 _ _ _ _ _ _ _ _ hW hS (lv_sub hl [0, 1] rfl) hX
  have L_71 : ∀ (n : Nat), ∀ (x1 : Int32) (y : Mem) (H : Heap) (locs : List Loc) (ls : Array Slot), Wh G x y H → va_S (gF G) s.heap H locs → lv_has ls 3 [(0, .ref (gA G 40 0 0)), (1, .int x1)] → m_X12_ticks_l71 n x1 y = some r → W p l e (headSpec WS_X12_ticks RM_X12_ticks).room s m ([.ref (gA G 40 0 0)] : List Value).toArray below meth c H locs 0 0 (MQ below (Qv G x r) ([.ref (gA G 40 0 0)] : List Value).toArray s 0 0 (gF G)) (F0 m 71 ls []) := by
    intro n
    induction n with
    | zero => intro x1 y H locs ls hW hS hl hX; exact no_go hX
    | succ n ih => intro x1 y H locs ls hW hS hl hX; exact B_71 _ ih _ _ _ _ _ hW hS hl hX
  have J_62 : ∀ (k16 : Int32 → Mem → Option Mem) (hk16 : ∀ (x1 : Int32) (y : Mem) (H : Heap) (locs : List Loc) (ls : Array Slot), Wh G x y H → va_S (gF G) s.heap H locs → lv_has ls 3 [(0, .ref (gA G 40 0 0)), (1, .int x1)] → k16 x1 y = some r → W p l e (headSpec WS_X12_ticks RM_X12_ticks).room s m ([.ref (gA G 40 0 0)] : List Value).toArray below meth c H locs 0 0 (MQ below (Qv G x r) ([.ref (gA G 40 0 0)] : List Value).toArray s 0 0 (gF G)) (F0 m 16 ls [])), ∀ (x1 : Int32) (s0 : Int32) (s1 : Int32) (y : Mem) (H : Heap) (locs : List Loc) (ls : Array Slot), Wh G x y H → va_S (gF G) s.heap H locs → lv_has ls 3 [(0, .ref (gA G 40 0 0)), (1, .int x1)] → m_X12_ticks_j62 k16 x1 s0 s1 y = some r → W p l e (headSpec WS_X12_ticks RM_X12_ticks).room s m ([.ref (gA G 40 0 0)] : List Value).toArray below meth c H locs 0 0 (MQ below (Qv G x r) ([.ref (gA G 40 0 0)] : List Value).toArray s 0 0 (gF G)) (F0 m 62 ls [.int s0, .int s1, .ref (gA G 117 0 0)]) := by
    intro k16 hk16 x1 s0 s1 y H locs ls hW hS hl hX
    unfold m_X12_ticks_j62 at hX
    obtain ⟨g19, hX⟩ := gd_go hX
    refine as_117 hx hb hK hW hS g19 dX12_ticks_62 (fun H locs hW hS => ?_)
    obtain ⟨y20, e9⟩ : ∃ w : Mem, w = (up4 y 117 0 0 s1.toNatClampNeg s0) := ⟨_, rfl⟩
    rw [← e9] at hW
    have hX := lt_go hX e9
    obtain ⟨x1_21, e9⟩ : ∃ w : Int32, w = (x1 + (1 : Int32)) := ⟨_, rfl⟩
    have hX := lt_go hX e9
    refine lv_iinc (v := x1_21) (lv' := [(1, .int x1_21), (0, .ref (gA G 40 0 0))]) hx hb dX12_ticks_63 hl (k := 1) rfl (by rw [e9]; rfl) (by decide) rfl (fun ls hl => ?_)
    refine lv_goto (tgt := 16) hx hb dX12_ticks_66 (by decide) ?_
    exact hk16 _ _ _ _ _ hW hS (lv_sub hl [1, 0] rfl) hX
  have B_16 : ∀ (k16 : Int32 → Mem → Option Mem) (hk16 : ∀ (x1 : Int32) (y : Mem) (H : Heap) (locs : List Loc) (ls : Array Slot), Wh G x y H → va_S (gF G) s.heap H locs → lv_has ls 3 [(0, .ref (gA G 40 0 0)), (1, .int x1)] → k16 x1 y = some r → W p l e (headSpec WS_X12_ticks RM_X12_ticks).room s m ([.ref (gA G 40 0 0)] : List Value).toArray below meth c H locs 0 0 (MQ below (Qv G x r) ([.ref (gA G 40 0 0)] : List Value).toArray s 0 0 (gF G)) (F0 m 16 ls [])), ∀ (x1 : Int32) (y : Mem) (H : Heap) (locs : List Loc) (ls : Array Slot), Wh G x y H → va_S (gF G) s.heap H locs → lv_has ls 3 [(0, .ref (gA G 40 0 0)), (1, .int x1)] → m_X12_ticks_b16 k16 x1 y = some r → W p l e (headSpec WS_X12_ticks RM_X12_ticks).room s m ([.ref (gA G 40 0 0)] : List Value).toArray below meth c H locs 0 0 (MQ below (Qv G x r) ([.ref (gA G 40 0 0)] : List Value).toArray s 0 0 (gF G)) (F0 m 16 ls []) := by
    intro k16 hk16 x1 y H locs ls hW hS hl hX
    unfold m_X12_ticks_b16 at hX
    refine lv_iload_n hx hb dX12_ticks_16 rfl (lv_at hl 1 rfl) ?_
    refine lv_iconst (v := (3 : Int32)) hx hb dX12_ticks_17 (by decide) ?_
    refine lv_icmp_ge (tgt := 69) hx hb dX12_ticks_18 (by decide) (fun c6 => ?_) (fun c6 => ?_)
    · have hX := it_t hX c6
      refine lv_iconst (v := (0 : Int32)) hx hb dX12_ticks_69 (by decide) ?_
      refine lv_topi (fun x1_7 e9 => ?_)
      have hX := lt_go hX e9
      refine lv_istore_n (lv' := [(1, .int x1_7), (0, .ref (gA G 40 0 0))]) hx hb dX12_ticks_70 rfl hl (by decide) rfl (fun ls hl => ?_)
      exact L_71 FU _ _ _ _ _ hW hS (lv_sub hl [1, 0] rfl) hX
    · have hX := it_f hX c6
      refine lv_aload_n hx hb dX12_ticks_21 rfl (lv_at hl 0 rfl) ?_
      refine gf_40_47 hx hb htg hown hK hW q171 dX12_ticks_22 ?_
      refine lv_iload_n hx hb dX12_ticks_25 rfl (lv_at hl 1 rfl) ?_
      obtain ⟨g8, hX⟩ := gd_go hX
      refine al_147 hx hb hK hW g8 dX12_ticks_26 ?_
      refine lv_topi (fun x2_9 e9 => ?_)
      have hX := lt_go hX e9
      refine lv_istore_n (lv' := [(2, .int x2_9), (0, .ref (gA G 40 0 0)), (1, .int x1)]) hx hb dX12_ticks_27 rfl hl (by decide) rfl (fun ls hl => ?_)
      refine lv_aload_n hx hb dX12_ticks_28 rfl (lv_at hl 1 rfl) ?_
      refine lv_iconst (v := (0 : Int32)) hx hb dX12_ticks_29 (by decide) ?_
      refine pf_40_46 hx hb htg hown hK hW hS q844 (by decide) dX12_ticks_30 (fun H locs hW hS => ?_)
      obtain ⟨y10, e9⟩ : ∃ w : Mem, w = (up4 y 40 0 0 46 (0 : Int32)) := ⟨_, rfl⟩
      rw [← e9] at hW
      have hX := lt_go hX e9
      refine lv_aload_n hx hb dX12_ticks_33 rfl (lv_at hl 1 rfl) ?_
      refine lv_iload_n hx hb dX12_ticks_34 rfl (lv_at hl 0 rfl) ?_
      obtain ⟨y13, h11, hX⟩ := bd_go hX
      refine k_X12_acts hx hb hml hown htg hK hW hS h11 q849 hl.1 (Nat.le_of_ble_eq_true rfl) (Nat.le_of_ble_eq_true rfl) (Nat.le_of_ble_eq_true rfl) ⟨Nat.zero_le _, Nat.zero_le _⟩ dX12_ticks_35 (fun H locs hW hS => ?_)
      refine lv_aload_n hx hb dX12_ticks_38 rfl (lv_at hl 1 rfl) ?_
      refine gf_40_17 hx hb htg hown hK hW q152 dX12_ticks_39 ?_
      refine lv_iload_n hx hb dX12_ticks_42 rfl (lv_at hl 0 rfl) ?_
      refine lv_aload_n hx hb dX12_ticks_43 rfl (lv_at hl 1 rfl) ?_
      refine gf_40_46 hx hb htg hown hK hW q844 dX12_ticks_44 ?_
      refine lv_if_eq (tgt := 61) hx hb dX12_ticks_47 (by decide) (fun c14 => ?_) (fun c14 => ?_)
      · have hX := it_t hX c14
        refine lv_iconst (v := (0 : Int32)) hx hb dX12_ticks_61 (by decide) ?_
        exact J_62 k16 hk16 _ _ _ _ _ _ _ hW hS (lv_sub hl [1, 2] rfl) hX
      · have hX := it_f hX c14
        refine lv_aload_n hx hb dX12_ticks_50 rfl (lv_at hl 1 rfl) ?_
        refine gf_40_17 hx hb htg hown hK hW q152 dX12_ticks_51 ?_
        refine lv_iload_n hx hb dX12_ticks_54 rfl (lv_at hl 0 rfl) ?_
        obtain ⟨g15, hX⟩ := gd_go hX
        refine al_117 hx hb hK hW g15 dX12_ticks_55 ?_
        refine lv_iconst (v := (1 : Int32)) hx hb dX12_ticks_56 (by decide) ?_
        refine lv_iadd hx hb dX12_ticks_57 ?_
        refine lv_goto (tgt := 62) hx hb dX12_ticks_58 (by decide) ?_
        exact J_62 k16 hk16 _ _ _ _ _ _ _ hW hS (lv_sub hl [1, 2] rfl) hX
  have L_16 : ∀ (n : Nat), ∀ (x1 : Int32) (y : Mem) (H : Heap) (locs : List Loc) (ls : Array Slot), Wh G x y H → va_S (gF G) s.heap H locs → lv_has ls 3 [(0, .ref (gA G 40 0 0)), (1, .int x1)] → m_X12_ticks_l16 n x1 y = some r → W p l e (headSpec WS_X12_ticks RM_X12_ticks).room s m ([.ref (gA G 40 0 0)] : List Value).toArray below meth c H locs 0 0 (MQ below (Qv G x r) ([.ref (gA G 40 0 0)] : List Value).toArray s 0 0 (gF G)) (F0 m 16 ls []) := by
    intro n
    induction n with
    | zero => intro x1 y H locs ls hW hS hl hX; exact no_go hX
    | succ n ih => intro x1 y H locs ls hW hS hl hX; exact B_16 _ ih _ _ _ _ _ hW hS hl hX
  refine lv_aload_n hx hb dX12_ticks_0 rfl (lv_at hl 0 rfl) ?_
  refine lv_dup hx hb dX12_ticks_1 rfl ?_
  refine gf_40_33 hx hb htg hown hK hW q352 dX12_ticks_2 ?_
  refine lv_iconst (v := (1 : Int32)) hx hb dX12_ticks_5 (by decide) ?_
  refine lv_iadd hx hb dX12_ticks_6 ?_
  refine pf_40_33 hx hb htg hown hK hW hS q352 dX12_ticks_7 (fun H locs hW hS => ?_)
  obtain ⟨y1, e9⟩ : ∃ w : Mem, w = (up4 y 40 0 0 33 ((y 40 0 0 33) + (1 : Int32))) := ⟨_, rfl⟩
  rw [← e9] at hW
  have hX := lt_go hX e9
  refine lv_aload_n hx hb dX12_ticks_10 rfl (lv_at hl 0 rfl) ?_
  obtain ⟨y4, h2, hX⟩ := bd_go hX
  refine k_X12_findTurns hx hb hml hown htg hK hW hS h2 q845 hl.1 (Nat.le_of_ble_eq_true rfl) (Nat.le_of_ble_eq_true rfl) (Nat.le_of_ble_eq_true rfl) ⟨Nat.zero_le _, Nat.zero_le _⟩ dX12_ticks_11 (fun H locs hW hS => ?_)
  refine lv_iconst (v := (0 : Int32)) hx hb dX12_ticks_14 (by decide) ?_
  refine lv_topi (fun x1_5 e9 => ?_)
  have hX := lt_go hX e9
  refine lv_istore_n (lv' := [(1, .int x1_5), (0, .ref (gA G 40 0 0))]) hx hb dX12_ticks_15 rfl hl (by decide) rfl (fun ls hl => ?_)
  exact L_16 FU _ _ _ _ _ hW hS (lv_sub hl [1, 0] rfl) hX
set_option maxHeartbeats 4000000 in
theorem k_X12_ticks {p : Program} {l : Launch} {e : Env} {R : Room} {s : State} {m : MethodId} {args : Array Value} {below : List Frame} {meth : Method} {c : Code} {H : Heap} {locs : List Loc} {cells slots : Nat} {Q : State → Prop} {cc : ByteArray} {pc nL idx : Nat} {own : String} {ls : Array Slot} {rest : List Value} {G : Geo} {x y : Mem} {H0 : Heap} {z : Mem} (hx : p.tables.exec = Jvm.exec) (hb : c.code = cc) (hml : c.maxLocals = nL) (hown : s.vm.findClass own = some m.cls) (htg : ∀ w ∈ wsG, w.before args s = true) (hK : Kt G s) (hW : Wh G x y H) (hS : va_S (gF G) H0 H locs) (h : m_X12_ticks y = some z) (hlk : Cond.methodLink own idx yX12_ticks ∈ wsG) (hn : ls.size = nL) (hr : (rest.map fun v => v.category).sum ≤ 8) (hR1 : 8 + 1 ≤ R.frames) (hR2 : 8 + (3 + 11) + 184 ≤ R.locals) (hf : cells ≤ R.cells ∧ slots ≤ R.slots) (hdg : decode cc pc = .ok (.invokevirtual idx, 3)) (kk : ∀ (H1 : Heap) (locs1 : List Loc), Wh G x z H1 → va_S (gF G) H0 H1 locs1 → W p l e R s m args below meth c H1 locs1 cells slots Q (F0 m (pc + 3) ls (rest))) : W p l e R s m args below meth c H locs cells slots Q (F0 m pc ls (.ref (gA G 40 0 0) :: rest)) := by
  refine va_callv (va_runV (As := []) (rest := rest) ⟨hx, hb, hml, hown, htg⟩ (c_X12_ticks l G x y z h) (cwV 0 htg (gd_V hlk q841 q842 q5 q843) rfl rfl rfl (by decide +kernel) ⟨hR1, hR2⟩) ⟨fun a U g mk q => ⟨q.1, q.2.1.calling, q.2.2⟩, rc_40 hK hW, fun U hU hW9 => ⟨rfl, hK.warm hW9, by rw [hU]; exact hW⟩⟩ rfl rfl hn rfl (lv_room hr) hdg hf) hS (fun _ _ h9 => h9) (fun _ h9 => h9) ?_
  intro u t H1 locs1 ht hvm hw hB hz1 hk1 hS1
  replace hB : Wh G x z t.heap := hB
  rw [ht] at hB
  exact kk H1 locs1 hB hS1
