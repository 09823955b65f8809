/-! METHOD X3_readJob -/
def m_X3_readJob (p0 : Fin 28) (x : Mem) : Option (Int32 × Mem) :=
  bd2_ (m_X3_takeDigit x) fun r2 x3 => if r2 = 0 then (some ((0 : Int32), x3)) else (lt_ (up4 x3 25 0 ↑p0 1 (x3 22 0 0 4)) fun x5 => bd2_ (m_X3_take (58 : Int32) x5) fun r7 x8 => if r7 = 0 then (some ((0 : Int32), x8)) else (bd2_ (m_X3_readPath p0 x8) fun r11 x12 => if r11 = 0 then (some ((0 : Int32), x12)) else (bd2_ (m_X3_take (47 : Int32) x12) fun r15 x16 => if r15 = 0 then (some ((0 : Int32), x16)) else (bd2_ (m_X3_takeDigit x16) fun r19 x20 => if r19 = 0 then (some ((0 : Int32), x20)) else (lt_ (up4 x20 25 0 ↑p0 3 (x20 22 0 0 4)) fun x22 => bd2_ (m_X3_take (119 : Int32) x22) fun r24 x25 => if r24 = 0 then (some ((0 : Int32), x25)) else (bd2_ (m_X3_takeDigit x25) fun r28 x29 => if r28 = 0 then (some ((0 : Int32), x29)) else (lt_ (up4 x29 25 0 ↑p0 4 (x29 22 0 0 4)) fun x31 => bd2_ (m_X3_readBuffers p0 x31) fun r33 x34 => gb_ r33 (some (r33, x34)))))))))
abbrev WS_X3_readJob : List Cond := .code yX3_readJob cX3_readJob 2 (some .boolean) :: wsG
abbrev RM_X3_readJob : Room := { frames := 2, cells := 0, slots := 0, locals := 43 }
set_option maxHeartbeats 4000000 in
set_option maxRecDepth 100000 in
theorem c_X3_readJob (l : Launch) (G : Geo) (x y : Mem) (p0 : Fin 28) (r : (Int32 × Mem)) (h : m_X3_readJob p0 x = some r) : Met l yX3_readJob WS_X3_readJob RM_X3_readJob (Pw G x y [.ref (gA G 22 0 0), .ref (gA G 25 0 ↑p0)]) (Qi G r.2 y r.1) 0 0 (gF G) := by
  refine Met.ofW (cc := cX3_readJob) (maxL := 2) (ret := (some .boolean)) (by decide) rfl ?_
  intro p e s m args below meth c s₁ B hml hv
  obtain ⟨rfl, hK, hW⟩ := hv
  have hx := B.exec
  have hb := B.bytes
  have hr := B.returns
  have hts := atoms_spec (ws := WS_X3_readJob) B.pre
  have htg : ∀ w ∈ wsG, w.before _ s = true := fun w h => hts w (List.mem_cons_of_mem _ h)
  have hown : s.vm.findClass RX3 = some m.cls := findClass_of_methodNamed B.named
  have hlocks := B.notSynchronized
  have hS : va_S (gF G) s.heap s.heap [] := va_S.rf
  have hl := lv_entry ([.ref (gA G 22 0 0), .ref (gA G 25 0 ↑p0)]) (n := 2) (Nat.le_of_ble_eq_true rfl)
  rw [lg_entry_eq]
  generalize (lg_sl ([.ref (gA G 22 0 0), .ref (gA G 25 0 ↑p0)]) ++ List.replicate (2 - (lg_sl ([.ref (gA G 22 0 0), .ref (gA G 25 0 ↑p0)])).length) Slot.unset).toArray = ls at hl ⊢
  have hl : lv_has ls 2 [(0, .ref (gA G 22 0 0)), (1, .ref (gA G 25 0 ↑p0))] := hl
  have hX := h
  unfold m_X3_readJob at hX
  refine lv_aload_n hx hb dX3_readJob_0 rfl (lv_at hl 0 rfl) ?_
  obtain ⟨r2, x3, h1, hX⟩ := bd2_go hX
  refine k_X3_takeDigit hx hb hml hown htg hK hW hS h1 q1125 hl.1 (Nat.le_of_ble_eq_true rfl) (Nat.le_of_ble_eq_true rfl) (Nat.le_of_ble_eq_true rfl) ⟨Nat.zero_le _, Nat.zero_le _⟩ dX3_readJob_1 (fun H locs hW hS => ?_)
  refine lv_if_ne (tgt := 9) hx hb dX3_readJob_4 (by decide) (fun c4 => ?_) (fun c4 => ?_)
  · have hX := it_f hX c4
    refine lv_aload_n hx hb dX3_readJob_9 rfl (lv_at hl 1 rfl) ?_
    refine lv_aload_n hx hb dX3_readJob_10 rfl (lv_at hl 0 rfl) ?_
    refine gf_22_4 hx hb htg hown hK hW q1121 dX3_readJob_11 ?_
    refine pf_25_1 hx hb htg hown hK hW hS p0 q1122 dX3_readJob_14 (fun H locs hW hS => ?_)
    obtain ⟨x5, e9⟩ : ∃ w : Mem, w = (up4 x3 25 0 ↑p0 1 (x3 22 0 0 4)) := ⟨_, rfl⟩
    rw [← e9] at hW
    have hX := lt_go hX e9
    refine lv_aload_n hx hb dX3_readJob_17 rfl (lv_at hl 0 rfl) ?_
    refine lv_bipush (v := (58 : Int32)) hx hb dX3_readJob_18 (by decide) ?_
    obtain ⟨r7, x8, h6, hX⟩ := bd2_go hX
    refine k_X3_take hx hb hml hown htg hK hW hS h6 q1113 hl.1 (Nat.le_of_ble_eq_true rfl) (Nat.le_of_ble_eq_true rfl) (Nat.le_of_ble_eq_true rfl) ⟨Nat.zero_le _, Nat.zero_le _⟩ dX3_readJob_20 (fun H locs hW hS => ?_)
    refine lv_if_eq (tgt := 50) hx hb dX3_readJob_23 (by decide) (fun c9 => ?_) (fun c9 => ?_)
    · have hX := it_t hX c9
      refine lv_iconst (v := (0 : Int32)) hx hb dX3_readJob_50 (by decide) ?_
      have hX := Option.some.inj hX
      subst hX
      exact rt_z hx hb hr hlocks hW hS nb0 dX3_readJob_51
    · have hX := it_f hX c9
      refine lv_aload_n hx hb dX3_readJob_26 rfl (lv_at hl 0 rfl) ?_
      refine lv_aload_n hx hb dX3_readJob_27 rfl (lv_at hl 1 rfl) ?_
      obtain ⟨r11, x12, h10, hX⟩ := bd2_go hX
      refine k_X3_readPath hx hb hml hown htg hK hW hS h10 q1129 hl.1 (Nat.le_of_ble_eq_true rfl) (Nat.le_of_ble_eq_true rfl) (Nat.le_of_ble_eq_true rfl) ⟨Nat.zero_le _, Nat.zero_le _⟩ dX3_readJob_28 (fun H locs hW hS => ?_)
      refine lv_if_eq (tgt := 50) hx hb dX3_readJob_31 (by decide) (fun c13 => ?_) (fun c13 => ?_)
      · have hX := it_t hX c13
        refine lv_iconst (v := (0 : Int32)) hx hb dX3_readJob_50 (by decide) ?_
        have hX := Option.some.inj hX
        subst hX
        exact rt_z hx hb hr hlocks hW hS nb0 dX3_readJob_51
      · have hX := it_f hX c13
        refine lv_aload_n hx hb dX3_readJob_34 rfl (lv_at hl 0 rfl) ?_
        refine lv_bipush (v := (47 : Int32)) hx hb dX3_readJob_35 (by decide) ?_
        obtain ⟨r15, x16, h14, hX⟩ := bd2_go hX
        refine k_X3_take hx hb hml hown htg hK hW hS h14 q1113 hl.1 (Nat.le_of_ble_eq_true rfl) (Nat.le_of_ble_eq_true rfl) (Nat.le_of_ble_eq_true rfl) ⟨Nat.zero_le _, Nat.zero_le _⟩ dX3_readJob_37 (fun H locs hW hS => ?_)
        refine lv_if_eq (tgt := 50) hx hb dX3_readJob_40 (by decide) (fun c17 => ?_) (fun c17 => ?_)
        · have hX := it_t hX c17
          refine lv_iconst (v := (0 : Int32)) hx hb dX3_readJob_50 (by decide) ?_
          have hX := Option.some.inj hX
          subst hX
          exact rt_z hx hb hr hlocks hW hS nb0 dX3_readJob_51
        · have hX := it_f hX c17
          refine lv_aload_n hx hb dX3_readJob_43 rfl (lv_at hl 0 rfl) ?_
          obtain ⟨r19, x20, h18, hX⟩ := bd2_go hX
          refine k_X3_takeDigit hx hb hml hown htg hK hW hS h18 q1125 hl.1 (Nat.le_of_ble_eq_true rfl) (Nat.le_of_ble_eq_true rfl) (Nat.le_of_ble_eq_true rfl) ⟨Nat.zero_le _, Nat.zero_le _⟩ dX3_readJob_44 (fun H locs hW hS => ?_)
          refine lv_if_ne (tgt := 52) hx hb dX3_readJob_47 (by decide) (fun c21 => ?_) (fun c21 => ?_)
          · have hX := it_f hX c21
            refine lv_aload_n hx hb dX3_readJob_52 rfl (lv_at hl 1 rfl) ?_
            refine lv_aload_n hx hb dX3_readJob_53 rfl (lv_at hl 0 rfl) ?_
            refine gf_22_4 hx hb htg hown hK hW q1121 dX3_readJob_54 ?_
            refine pf_25_3 hx hb htg hown hK hW hS p0 q1123 dX3_readJob_57 (fun H locs hW hS => ?_)
            obtain ⟨x22, e9⟩ : ∃ w : Mem, w = (up4 x20 25 0 ↑p0 3 (x20 22 0 0 4)) := ⟨_, rfl⟩
            rw [← e9] at hW
            have hX := lt_go hX e9
            refine lv_aload_n hx hb dX3_readJob_60 rfl (lv_at hl 0 rfl) ?_
            refine lv_bipush (v := (119 : Int32)) hx hb dX3_readJob_61 (by decide) ?_
            obtain ⟨r24, x25, h23, hX⟩ := bd2_go hX
            refine k_X3_take hx hb hml hown htg hK hW hS h23 q1113 hl.1 (Nat.le_of_ble_eq_true rfl) (Nat.le_of_ble_eq_true rfl) (Nat.le_of_ble_eq_true rfl) ⟨Nat.zero_le _, Nat.zero_le _⟩ dX3_readJob_63 (fun H locs hW hS => ?_)
            refine lv_if_eq (tgt := 76) hx hb dX3_readJob_66 (by decide) (fun c26 => ?_) (fun c26 => ?_)
            · have hX := it_t hX c26
              refine lv_iconst (v := (0 : Int32)) hx hb dX3_readJob_76 (by decide) ?_
              have hX := Option.some.inj hX
              subst hX
              exact rt_z hx hb hr hlocks hW hS nb0 dX3_readJob_77
            · have hX := it_f hX c26
              refine lv_aload_n hx hb dX3_readJob_69 rfl (lv_at hl 0 rfl) ?_
              obtain ⟨r28, x29, h27, hX⟩ := bd2_go hX
              refine k_X3_takeDigit hx hb hml hown htg hK hW hS h27 q1125 hl.1 (Nat.le_of_ble_eq_true rfl) (Nat.le_of_ble_eq_true rfl) (Nat.le_of_ble_eq_true rfl) ⟨Nat.zero_le _, Nat.zero_le _⟩ dX3_readJob_70 (fun H locs hW hS => ?_)
              refine lv_if_ne (tgt := 78) hx hb dX3_readJob_73 (by decide) (fun c30 => ?_) (fun c30 => ?_)
              · have hX := it_f hX c30
                refine lv_aload_n hx hb dX3_readJob_78 rfl (lv_at hl 1 rfl) ?_
                refine lv_aload_n hx hb dX3_readJob_79 rfl (lv_at hl 0 rfl) ?_
                refine gf_22_4 hx hb htg hown hK hW q1121 dX3_readJob_80 ?_
                refine pf_25_4 hx hb htg hown hK hW hS p0 q1124 dX3_readJob_83 (fun H locs hW hS => ?_)
                obtain ⟨x31, e9⟩ : ∃ w : Mem, w = (up4 x29 25 0 ↑p0 4 (x29 22 0 0 4)) := ⟨_, rfl⟩
                rw [← e9] at hW
                have hX := lt_go hX e9
                refine lv_aload_n hx hb dX3_readJob_86 rfl (lv_at hl 0 rfl) ?_
                refine lv_aload_n hx hb dX3_readJob_87 rfl (lv_at hl 1 rfl) ?_
                obtain ⟨r33, x34, h32, hX⟩ := bd2_go hX
                refine k_X3_readBuffers hx hb hml hown htg hK hW hS h32 q1139 hl.1 (Nat.le_of_ble_eq_true rfl) (Nat.le_of_ble_eq_true rfl) (Nat.le_of_ble_eq_true rfl) ⟨Nat.zero_le _, Nat.zero_le _⟩ dX3_readJob_88 (fun H locs hW hS => ?_)
                obtain ⟨g9, hX⟩ := gb_go hX
                have hX := Option.some.inj hX
                subst hX
                exact rt_z hx hb hr hlocks hW hS (isB_n g9) dX3_readJob_91
              · have hX := it_t hX c30
                refine lv_iconst (v := (0 : Int32)) hx hb dX3_readJob_76 (by decide) ?_
                have hX := Option.some.inj hX
                subst hX
                exact rt_z hx hb hr hlocks hW hS nb0 dX3_readJob_77
          · have hX := it_t hX c21
            refine lv_iconst (v := (0 : Int32)) hx hb dX3_readJob_50 (by decide) ?_
            have hX := Option.some.inj hX
            subst hX
            exact rt_z hx hb hr hlocks hW hS nb0 dX3_readJob_51
  · have hX := it_t hX c4
    refine lv_iconst (v := (0 : Int32)) hx hb dX3_readJob_7 (by decide) ?_
    have hX := Option.some.inj hX
    subst hX
    exact rt_z hx hb hr hlocks hW hS nb0 dX3_readJob_8
set_option maxHeartbeats 4000000 in
theorem k_X3_readJob {p : Program} {l : Launch} {e : Env} {R : Room} {s : State} {m : MethodId} {args : Array Value} {below : List Frame} {meth : Method} {c : Code} {H : Heap} {locs : List Loc} {cells slots : Nat} {Q : State → Prop} {cc : ByteArray} {pc nL idx : Nat} {own : String} {ls : Array Slot} {rest : List Value} {G : Geo} {x y : Mem} {H0 : Heap} {p0 : Fin 28} {v : Int32} {z : Mem} (hx : p.tables.exec = Jvm.exec) (hb : c.code = cc) (hml : c.maxLocals = nL) (hown : s.vm.findClass own = some m.cls) (htg : ∀ w ∈ wsG, w.before args s = true) (hK : Kt G s) (hW : Wh G x y H) (hS : va_S (gF G) H0 H locs) (h : m_X3_readJob p0 x = some (v, z)) (hlk : Cond.methodLink own idx yX3_readJob ∈ wsG) (hn : ls.size = nL) (hr : (rest.map fun v => v.category).sum ≤ 8) (hR1 : 2 + 1 ≤ R.frames) (hR2 : 8 + (2 + 11) + 43 ≤ R.locals) (hf : cells ≤ R.cells ∧ slots ≤ R.slots) (hdg : decode cc pc = .ok (.invokevirtual idx, 3)) (kk : ∀ (H1 : Heap) (locs1 : List Loc), Wh G z y H1 → va_S (gF G) H0 H1 locs1 → W p l e R s m args below meth c H1 locs1 cells slots Q (F0 m (pc + 3) ls (.int v :: rest))) : W p l e R s m args below meth c H locs cells slots Q (F0 m pc ls (.ref (gA G 25 0 ↑p0) :: .ref (gA G 22 0 0) :: rest)) := by
  refine va_calli (va_runV (As := [.ref (gA G 25 0 ↑p0)]) (rest := rest) ⟨hx, hb, hml, hown, htg⟩ (c_X3_readJob l G x y p0 (v, z) h) (cwV 1 htg (gd_V hlk q1118 q1119 q31 q1120) rfl rfl rfl (by decide +kernel) ⟨hR1, hR2⟩) ⟨fun a U g mk q => ⟨q.1, q.2.1.calling, q.2.2⟩, rc_22 hK hW, fun U hU hW9 => ⟨rfl, hK.warm hW9, by rw [hU]; exact hW⟩⟩ rfl rfl hn rfl (lv_room hr) hdg hf) hS (fun _ _ h9 => h9) (fun _ h9 => h9) ?_
  intro r9 u t H1 locs1 ht hvm hw hB hz1 hk1 hS1
  replace hB : Wh G z y t.heap := hB
  rw [ht] at hB
  replace hw : r9 = v := hw
  subst hw
  exact kk H1 locs1 hB hS1
/-! METHOD X3_readTicks -/
def m_X3_readTicks (p0 : Fin 28) (x : Mem) : Option (Int32 × Mem) :=
  bd2_ (m_X3_takeDigit x) fun r2 x3 => if r2 = 0 then (some ((0 : Int32), x3)) else (lt_ (up4 x3 25 0 ↑p0 7 (x3 22 0 0 4)) fun x5 => bd2_ (m_X3_takeDigit x5) fun r7 x8 => if r7 = 0 then (some ((1 : Int32), x8)) else (lt_ (up4 x8 25 0 ↑p0 7 (((x8 25 0 ↑p0 7) * (10 : Int32)) + (x8 22 0 0 4))) fun x10 => some ((1 : Int32), x10)))
abbrev WS_X3_readTicks : List Cond := .code yX3_readTicks cX3_readTicks 2 (some .boolean) :: wsG
abbrev RM_X3_readTicks : Room := { frames := 1, cells := 0, slots := 0, locals := 20 }
set_option maxHeartbeats 4000000 in
set_option maxRecDepth 100000 in
theorem c_X3_readTicks (l : Launch) (G : Geo) (x y : Mem) (p0 : Fin 28) (r : (Int32 × Mem)) (h : m_X3_readTicks p0 x = some r) : Met l yX3_readTicks WS_X3_readTicks RM_X3_readTicks (Pw G x y [.ref (gA G 22 0 0), .ref (gA G 25 0 ↑p0)]) (Qi G r.2 y r.1) 0 0 (gF G) := by
  refine Met.ofW (cc := cX3_readTicks) (maxL := 2) (ret := (some .boolean)) (by decide) rfl ?_
  intro p e s m args below meth c s₁ B hml hv
  obtain ⟨rfl, hK, hW⟩ := hv
  have hx := B.exec
  have hb := B.bytes
  have hr := B.returns
  have hts := atoms_spec (ws := WS_X3_readTicks) B.pre
  have htg : ∀ w ∈ wsG, w.before _ s = true := fun w h => hts w (List.mem_cons_of_mem _ h)
  have hown : s.vm.findClass RX3 = some m.cls := findClass_of_methodNamed B.named
  have hlocks := B.notSynchronized
  have hS : va_S (gF G) s.heap s.heap [] := va_S.rf
  have hl := lv_entry ([.ref (gA G 22 0 0), .ref (gA G 25 0 ↑p0)]) (n := 2) (Nat.le_of_ble_eq_true rfl)
  rw [lg_entry_eq]
  generalize (lg_sl ([.ref (gA G 22 0 0), .ref (gA G 25 0 ↑p0)]) ++ List.replicate (2 - (lg_sl ([.ref (gA G 22 0 0), .ref (gA G 25 0 ↑p0)])).length) Slot.unset).toArray = ls at hl ⊢
  have hl : lv_has ls 2 [(0, .ref (gA G 22 0 0)), (1, .ref (gA G 25 0 ↑p0))] := hl
  have hX := h
  unfold m_X3_readTicks at hX
  refine lv_aload_n hx hb dX3_readTicks_0 rfl (lv_at hl 0 rfl) ?_
  obtain ⟨r2, x3, h1, hX⟩ := bd2_go hX
  refine k_X3_takeDigit hx hb hml hown htg hK hW hS h1 q1125 hl.1 (Nat.le_of_ble_eq_true rfl) (Nat.le_of_ble_eq_true rfl) (Nat.le_of_ble_eq_true rfl) ⟨Nat.zero_le _, Nat.zero_le _⟩ dX3_readTicks_1 (fun H locs hW hS => ?_)
  refine lv_if_ne (tgt := 9) hx hb dX3_readTicks_4 (by decide) (fun c4 => ?_) (fun c4 => ?_)
  · have hX := it_f hX c4
    refine lv_aload_n hx hb dX3_readTicks_9 rfl (lv_at hl 1 rfl) ?_
    refine lv_aload_n hx hb dX3_readTicks_10 rfl (lv_at hl 0 rfl) ?_
    refine gf_22_4 hx hb htg hown hK hW q1121 dX3_readTicks_11 ?_
    refine pf_25_7 hx hb htg hown hK hW hS p0 q1149 dX3_readTicks_14 (fun H locs hW hS => ?_)
    obtain ⟨x5, e9⟩ : ∃ w : Mem, w = (up4 x3 25 0 ↑p0 7 (x3 22 0 0 4)) := ⟨_, rfl⟩
    rw [← e9] at hW
    have hX := lt_go hX e9
    refine lv_aload_n hx hb dX3_readTicks_17 rfl (lv_at hl 0 rfl) ?_
    obtain ⟨r7, x8, h6, hX⟩ := bd2_go hX
    refine k_X3_takeDigit hx hb hml hown htg hK hW hS h6 q1125 hl.1 (Nat.le_of_ble_eq_true rfl) (Nat.le_of_ble_eq_true rfl) (Nat.le_of_ble_eq_true rfl) ⟨Nat.zero_le _, Nat.zero_le _⟩ dX3_readTicks_18 (fun H locs hW hS => ?_)
    refine lv_if_eq (tgt := 40) hx hb dX3_readTicks_21 (by decide) (fun c9 => ?_) (fun c9 => ?_)
    · have hX := it_t hX c9
      refine lv_iconst (v := (1 : Int32)) hx hb dX3_readTicks_40 (by decide) ?_
      have hX := Option.some.inj hX
      subst hX
      exact rt_z hx hb hr hlocks hW hS nb1 dX3_readTicks_41
    · have hX := it_f hX c9
      refine lv_aload_n hx hb dX3_readTicks_24 rfl (lv_at hl 1 rfl) ?_
      refine lv_aload_n hx hb dX3_readTicks_25 rfl (lv_at hl 1 rfl) ?_
      refine gf_25_7 hx hb htg hown hK hW p0 q1149 dX3_readTicks_26 ?_
      refine lv_bipush (v := (10 : Int32)) hx hb dX3_readTicks_29 (by decide) ?_
      refine lv_imul hx hb dX3_readTicks_31 ?_
      refine lv_aload_n hx hb dX3_readTicks_32 rfl (lv_at hl 0 rfl) ?_
      refine gf_22_4 hx hb htg hown hK hW q1121 dX3_readTicks_33 ?_
      refine lv_iadd hx hb dX3_readTicks_36 ?_
      refine pf_25_7 hx hb htg hown hK hW hS p0 q1149 dX3_readTicks_37 (fun H locs hW hS => ?_)
      obtain ⟨x10, e9⟩ : ∃ w : Mem, w = (up4 x8 25 0 ↑p0 7 (((x8 25 0 ↑p0 7) * (10 : Int32)) + (x8 22 0 0 4))) := ⟨_, rfl⟩
      rw [← e9] at hW
      have hX := lt_go hX e9
      refine lv_iconst (v := (1 : Int32)) hx hb dX3_readTicks_40 (by decide) ?_
      have hX := Option.some.inj hX
      subst hX
      exact rt_z hx hb hr hlocks hW hS nb1 dX3_readTicks_41
  · have hX := it_t hX c4
    refine lv_iconst (v := (0 : Int32)) hx hb dX3_readTicks_7 (by decide) ?_
    have hX := Option.some.inj hX
    subst hX
    exact rt_z hx hb hr hlocks hW hS nb0 dX3_readTicks_8
set_option maxHeartbeats 4000000 in
theorem k_X3_readTicks {p : Program} {l : Launch} {e : Env} {R : Room} {s : State} {m : MethodId} {args : Array Value} {below : List Frame} {meth : Method} {c : Code} {H : Heap} {locs : List Loc} {cells slots : Nat} {Q : State → Prop} {cc : ByteArray} {pc nL idx : Nat} {own : String} {ls : Array Slot} {rest : List Value} {G : Geo} {x y : Mem} {H0 : Heap} {p0 : Fin 28} {v : Int32} {z : Mem} (hx : p.tables.exec = Jvm.exec) (hb : c.code = cc) (hml : c.maxLocals = nL) (hown : s.vm.findClass own = some m.cls) (htg : ∀ w ∈ wsG, w.before args s = true) (hK : Kt G s) (hW : Wh G x y H) (hS : va_S (gF G) H0 H locs) (h : m_X3_readTicks p0 x = some (v, z)) (hlk : Cond.methodLink own idx yX3_readTicks ∈ wsG) (hn : ls.size = nL) (hr : (rest.map fun v => v.category).sum ≤ 8) (hR1 : 1 + 1 ≤ R.frames) (hR2 : 8 + (2 + 11) + 20 ≤ R.locals) (hf : cells ≤ R.cells ∧ slots ≤ R.slots) (hdg : decode cc pc = .ok (.invokevirtual idx, 3)) (kk : ∀ (H1 : Heap) (locs1 : List Loc), Wh G z y H1 → va_S (gF G) H0 H1 locs1 → W p l e R s m args below meth c H1 locs1 cells slots Q (F0 m (pc + 3) ls (.int v :: rest))) : W p l e R s m args below meth c H locs cells slots Q (F0 m pc ls (.ref (gA G 25 0 ↑p0) :: .ref (gA G 22 0 0) :: rest)) := by
  refine va_calli (va_runV (As := [.ref (gA G 25 0 ↑p0)]) (rest := rest) ⟨hx, hb, hml, hown, htg⟩ (c_X3_readTicks l G x y p0 (v, z) h) (cwV 1 htg (gd_V hlk q1146 q1147 q31 q1148) rfl rfl rfl (by decide +kernel) ⟨hR1, hR2⟩) ⟨fun a U g mk q => ⟨q.1, q.2.1.calling, q.2.2⟩, rc_22 hK hW, fun U hU hW9 => ⟨rfl, hK.warm hW9, by rw [hU]; exact hW⟩⟩ rfl rfl hn rfl (lv_room hr) hdg hf) hS (fun _ _ h9 => h9) (fun _ h9 => h9) ?_
  intro r9 u t H1 locs1 ht hvm hw hB hz1 hk1 hS1
  replace hB : Wh G z y t.heap := hB
  rw [ht] at hB
  replace hw : r9 = v := hw
  subst hw
  exact kk H1 locs1 hB hS1
/-! METHOD X3_readInterlock -/
def m_X3_readInterlock (p0 : Fin 28) (x : Mem) : Option (Int32 × Mem) :=
  bd2_ (m_X3_takeDigit x) fun r2 x3 => if r2 = 0 then (some ((0 : Int32), x3)) else (lt_ (up4 x3 25 0 ↑p0 8 (x3 22 0 0 4)) fun x5 => bd2_ (m_X3_takeDigit x5) fun r7 x8 => if r7 = 0 then (some ((0 : Int32), x8)) else (lt_ (up4 x8 25 0 ↑p0 9 (x8 22 0 0 4)) fun x10 => some ((1 : Int32), x10)))
abbrev WS_X3_readInterlock : List Cond := .code yX3_readInterlock cX3_readInterlock 2 (some .boolean) :: wsG
abbrev RM_X3_readInterlock : Room := { frames := 1, cells := 0, slots := 0, locals := 20 }
set_option maxHeartbeats 4000000 in
set_option maxRecDepth 100000 in
theorem c_X3_readInterlock (l : Launch) (G : Geo) (x y : Mem) (p0 : Fin 28) (r : (Int32 × Mem)) (h : m_X3_readInterlock p0 x = some r) : Met l yX3_readInterlock WS_X3_readInterlock RM_X3_readInterlock (Pw G x y [.ref (gA G 22 0 0), .ref (gA G 25 0 ↑p0)]) (Qi G r.2 y r.1) 0 0 (gF G) := by
  refine Met.ofW (cc := cX3_readInterlock) (maxL := 2) (ret := (some .boolean)) (by decide) rfl ?_
  intro p e s m args below meth c s₁ B hml hv
  obtain ⟨rfl, hK, hW⟩ := hv
  have hx := B.exec
  have hb := B.bytes
  have hr := B.returns
  have hts := atoms_spec (ws := WS_X3_readInterlock) B.pre
  have htg : ∀ w ∈ wsG, w.before _ s = true := fun w h => hts w (List.mem_cons_of_mem _ h)
  have hown : s.vm.findClass RX3 = some m.cls := findClass_of_methodNamed B.named
  have hlocks := B.notSynchronized
  have hS : va_S (gF G) s.heap s.heap [] := va_S.rf
  have hl := lv_entry ([.ref (gA G 22 0 0), .ref (gA G 25 0 ↑p0)]) (n := 2) (Nat.le_of_ble_eq_true rfl)
  rw [lg_entry_eq]
  generalize (lg_sl ([.ref (gA G 22 0 0), .ref (gA G 25 0 ↑p0)]) ++ List.replicate (2 - (lg_sl ([.ref (gA G 22 0 0), .ref (gA G 25 0 ↑p0)])).length) Slot.unset).toArray = ls at hl ⊢
  have hl : lv_has ls 2 [(0, .ref (gA G 22 0 0)), (1, .ref (gA G 25 0 ↑p0))] := hl
  have hX := h
  unfold m_X3_readInterlock at hX
  refine lv_aload_n hx hb dX3_readInterlock_0 rfl (lv_at hl 0 rfl) ?_
  obtain ⟨r2, x3, h1, hX⟩ := bd2_go hX
  refine k_X3_takeDigit hx hb hml hown htg hK hW hS h1 q1125 hl.1 (Nat.le_of_ble_eq_true rfl) (Nat.le_of_ble_eq_true rfl) (Nat.le_of_ble_eq_true rfl) ⟨Nat.zero_le _, Nat.zero_le _⟩ dX3_readInterlock_1 (fun H locs hW hS => ?_)
  refine lv_if_ne (tgt := 9) hx hb dX3_readInterlock_4 (by decide) (fun c4 => ?_) (fun c4 => ?_)
  · have hX := it_f hX c4
    refine lv_aload_n hx hb dX3_readInterlock_9 rfl (lv_at hl 1 rfl) ?_
    refine lv_aload_n hx hb dX3_readInterlock_10 rfl (lv_at hl 0 rfl) ?_
    refine gf_22_4 hx hb htg hown hK hW q1121 dX3_readInterlock_11 ?_
    refine pf_25_8 hx hb htg hown hK hW hS p0 q1154 dX3_readInterlock_14 (fun H locs hW hS => ?_)
    obtain ⟨x5, e9⟩ : ∃ w : Mem, w = (up4 x3 25 0 ↑p0 8 (x3 22 0 0 4)) := ⟨_, rfl⟩
    rw [← e9] at hW
    have hX := lt_go hX e9
    refine lv_aload_n hx hb dX3_readInterlock_17 rfl (lv_at hl 0 rfl) ?_
    obtain ⟨r7, x8, h6, hX⟩ := bd2_go hX
    refine k_X3_takeDigit hx hb hml hown htg hK hW hS h6 q1125 hl.1 (Nat.le_of_ble_eq_true rfl) (Nat.le_of_ble_eq_true rfl) (Nat.le_of_ble_eq_true rfl) ⟨Nat.zero_le _, Nat.zero_le _⟩ dX3_readInterlock_18 (fun H locs hW hS => ?_)
    refine lv_if_ne (tgt := 26) hx hb dX3_readInterlock_21 (by decide) (fun c9 => ?_) (fun c9 => ?_)
    · have hX := it_f hX c9
      refine lv_aload_n hx hb dX3_readInterlock_26 rfl (lv_at hl 1 rfl) ?_
      refine lv_aload_n hx hb dX3_readInterlock_27 rfl (lv_at hl 0 rfl) ?_
      refine gf_22_4 hx hb htg hown hK hW q1121 dX3_readInterlock_28 ?_
      refine pf_25_9 hx hb htg hown hK hW hS p0 q1155 dX3_readInterlock_31 (fun H locs hW hS => ?_)
      obtain ⟨x10, e9⟩ : ∃ w : Mem, w = (up4 x8 25 0 ↑p0 9 (x8 22 0 0 4)) := ⟨_, rfl⟩
      rw [← e9] at hW
      have hX := lt_go hX e9
      refine lv_iconst (v := (1 : Int32)) hx hb dX3_readInterlock_34 (by decide) ?_
      have hX := Option.some.inj hX
      subst hX
      exact rt_z hx hb hr hlocks hW hS nb1 dX3_readInterlock_35
    · have hX := it_t hX c9
      refine lv_iconst (v := (0 : Int32)) hx hb dX3_readInterlock_24 (by decide) ?_
      have hX := Option.some.inj hX
      subst hX
      exact rt_z hx hb hr hlocks hW hS nb0 dX3_readInterlock_25
  · have hX := it_t hX c4
    refine lv_iconst (v := (0 : Int32)) hx hb dX3_readInterlock_7 (by decide) ?_
    have hX := Option.some.inj hX
    subst hX
    exact rt_z hx hb hr hlocks hW hS nb0 dX3_readInterlock_8
set_option maxHeartbeats 4000000 in
theorem k_X3_readInterlock {p : Program} {l : Launch} {e : Env} {R : Room} {s : State} {m : MethodId} {args : Array Value} {below : List Frame} {meth : Method} {c : Code} {H : Heap} {locs : List Loc} {cells slots : Nat} {Q : State → Prop} {cc : ByteArray} {pc nL idx : Nat} {own : String} {ls : Array Slot} {rest : List Value} {G : Geo} {x y : Mem} {H0 : Heap} {p0 : Fin 28} {v : Int32} {z : Mem} (hx : p.tables.exec = Jvm.exec) (hb : c.code = cc) (hml : c.maxLocals = nL) (hown : s.vm.findClass own = some m.cls) (htg : ∀ w ∈ wsG, w.before args s = true) (hK : Kt G s) (hW : Wh G x y H) (hS : va_S (gF G) H0 H locs) (h : m_X3_readInterlock p0 x = some (v, z)) (hlk : Cond.methodLink own idx yX3_readInterlock ∈ wsG) (hn : ls.size = nL) (hr : (rest.map fun v => v.category).sum ≤ 8) (hR1 : 1 + 1 ≤ R.frames) (hR2 : 8 + (2 + 11) + 20 ≤ R.locals) (hf : cells ≤ R.cells ∧ slots ≤ R.slots) (hdg : decode cc pc = .ok (.invokevirtual idx, 3)) (kk : ∀ (H1 : Heap) (locs1 : List Loc), Wh G z y H1 → va_S (gF G) H0 H1 locs1 → W p l e R s m args below meth c H1 locs1 cells slots Q (F0 m (pc + 3) ls (.int v :: rest))) : W p l e R s m args below meth c H locs cells slots Q (F0 m pc ls (.ref (gA G 25 0 ↑p0) :: .ref (gA G 22 0 0) :: rest)) := by
  refine va_calli (va_runV (As := [.ref (gA G 25 0 ↑p0)]) (rest := rest) ⟨hx, hb, hml, hown, htg⟩ (c_X3_readInterlock l G x y p0 (v, z) h) (cwV 1 htg (gd_V hlk q1151 q1152 q31 q1153) rfl rfl rfl (by decide +kernel) ⟨hR1, hR2⟩) ⟨fun a U g mk q => ⟨q.1, q.2.1.calling, q.2.2⟩, rc_22 hK hW, fun U hU hW9 => ⟨rfl, hK.warm hW9, by rw [hU]; exact hW⟩⟩ rfl rfl hn rfl (lv_room hr) hdg hf) hS (fun _ _ h9 => h9) (fun _ h9 => h9) ?_
  intro r9 u t H1 locs1 ht hvm hw hB hz1 hk1 hS1
  replace hB : Wh G z y t.heap := hB
  rw [ht] at hB
  replace hw : r9 = v := hw
  subst hw
  exact kk H1 locs1 hB hS1
/-! METHOD X3_readCommand -/
def m_X3_readCommand (p0 : Fin 28) (x : Mem) : Option (Int32 × Mem) :=
  bd2_ (m_X3_take (106 : Int32) x) fun r2 x3 => if r2 = 0 then (bd2_ (m_X3_take (116 : Int32) x3) fun r6 x7 => if r6 = 0 then (bd2_ (m_X3_take (105 : Int32) x7) fun r10 x11 => if r10 = 0 then (some ((0 : Int32), x11)) else (lt_ (up4 x11 25 0 ↑p0 0 (2 : Int32)) fun x13 => bd2_ (m_X3_readInterlock p0 x13) fun r15 x16 => gb_ r15 (some (r15, x16)))) else (lt_ (up4 x7 25 0 ↑p0 0 (1 : Int32)) fun x17 => bd2_ (m_X3_readTicks p0 x17) fun r19 x20 => gb_ r19 (some (r19, x20)))) else (lt_ (up4 x3 25 0 ↑p0 0 (0 : Int32)) fun x21 => bd2_ (m_X3_readJob p0 x21) fun r23 x24 => gb_ r23 (some (r23, x24)))
abbrev WS_X3_readCommand : List Cond := .code yX3_readCommand cX3_readCommand 2 (some .boolean) :: wsG
abbrev RM_X3_readCommand : Room := { frames := 3, cells := 0, slots := 0, locals := 64 }
set_option maxHeartbeats 4000000 in
set_option maxRecDepth 100000 in
theorem c_X3_readCommand (l : Launch) (G : Geo) (x y : Mem) (p0 : Fin 28) (r : (Int32 × Mem)) (h : m_X3_readCommand p0 x = some r) : Met l yX3_readCommand WS_X3_readCommand RM_X3_readCommand (Pw G x y [.ref (gA G 22 0 0), .ref (gA G 25 0 ↑p0)]) (Qi G r.2 y r.1) 0 0 (gF G) := by
  refine Met.ofW (cc := cX3_readCommand) (maxL := 2) (ret := (some .boolean)) (by decide) rfl ?_
  intro p e s m args below meth c s₁ B hml hv
  obtain ⟨rfl, hK, hW⟩ := hv
  have hx := B.exec
  have hb := B.bytes
  have hr := B.returns
  have hts := atoms_spec (ws := WS_X3_readCommand) B.pre
  have htg : ∀ w ∈ wsG, w.before _ s = true := fun w h => hts w (List.mem_cons_of_mem _ h)
  have hown : s.vm.findClass RX3 = some m.cls := findClass_of_methodNamed B.named
  have hlocks := B.notSynchronized
  have hS : va_S (gF G) s.heap s.heap [] := va_S.rf
  have hl := lv_entry ([.ref (gA G 22 0 0), .ref (gA G 25 0 ↑p0)]) (n := 2) (Nat.le_of_ble_eq_true rfl)
  rw [lg_entry_eq]
  generalize (lg_sl ([.ref (gA G 22 0 0), .ref (gA G 25 0 ↑p0)]) ++ List.replicate (2 - (lg_sl ([.ref (gA G 22 0 0), .ref (gA G 25 0 ↑p0)])).length) Slot.unset).toArray = ls at hl ⊢
  have hl : lv_has ls 2 [(0, .ref (gA G 22 0 0)), (1, .ref (gA G 25 0 ↑p0))] := hl
  have hX := h
  unfold m_X3_readCommand at hX
  refine lv_aload_n hx hb dX3_readCommand_0 rfl (lv_at hl 0 rfl) ?_
  refine lv_bipush (v := (106 : Int32)) hx hb dX3_readCommand_1 (by decide) ?_
  obtain ⟨r2, x3, h1, hX⟩ := bd2_go hX
  refine k_X3_take hx hb hml hown htg hK hW hS h1 q1113 hl.1 (Nat.le_of_ble_eq_true rfl) (Nat.le_of_ble_eq_true rfl) (Nat.le_of_ble_eq_true rfl) ⟨Nat.zero_le _, Nat.zero_le _⟩ dX3_readCommand_3 (fun H locs hW hS => ?_)
  refine lv_if_eq (tgt := 20) hx hb dX3_readCommand_6 (by decide) (fun c4 => ?_) (fun c4 => ?_)
  · have hX := it_t hX c4
    refine lv_aload_n hx hb dX3_readCommand_20 rfl (lv_at hl 0 rfl) ?_
    refine lv_bipush (v := (116 : Int32)) hx hb dX3_readCommand_21 (by decide) ?_
    obtain ⟨r6, x7, h5, hX⟩ := bd2_go hX
    refine k_X3_take hx hb hml hown htg hK hW hS h5 q1113 hl.1 (Nat.le_of_ble_eq_true rfl) (Nat.le_of_ble_eq_true rfl) (Nat.le_of_ble_eq_true rfl) ⟨Nat.zero_le _, Nat.zero_le _⟩ dX3_readCommand_23 (fun H locs hW hS => ?_)
    refine lv_if_eq (tgt := 40) hx hb dX3_readCommand_26 (by decide) (fun c8 => ?_) (fun c8 => ?_)
    · have hX := it_t hX c8
      refine lv_aload_n hx hb dX3_readCommand_40 rfl (lv_at hl 0 rfl) ?_
      refine lv_bipush (v := (105 : Int32)) hx hb dX3_readCommand_41 (by decide) ?_
      obtain ⟨r10, x11, h9, hX⟩ := bd2_go hX
      refine k_X3_take hx hb hml hown htg hK hW hS h9 q1113 hl.1 (Nat.le_of_ble_eq_true rfl) (Nat.le_of_ble_eq_true rfl) (Nat.le_of_ble_eq_true rfl) ⟨Nat.zero_le _, Nat.zero_le _⟩ dX3_readCommand_43 (fun H locs hW hS => ?_)
      refine lv_if_eq (tgt := 60) hx hb dX3_readCommand_46 (by decide) (fun c12 => ?_) (fun c12 => ?_)
      · have hX := it_t hX c12
        refine lv_iconst (v := (0 : Int32)) hx hb dX3_readCommand_60 (by decide) ?_
        have hX := Option.some.inj hX
        subst hX
        exact rt_z hx hb hr hlocks hW hS nb0 dX3_readCommand_61
      · have hX := it_f hX c12
        refine lv_aload_n hx hb dX3_readCommand_49 rfl (lv_at hl 1 rfl) ?_
        refine lv_iconst (v := (2 : Int32)) hx hb dX3_readCommand_50 (by decide) ?_
        refine pf_25_0 hx hb htg hown hK hW hS p0 q1112 dX3_readCommand_51 (fun H locs hW hS => ?_)
        obtain ⟨x13, e9⟩ : ∃ w : Mem, w = (up4 x11 25 0 ↑p0 0 (2 : Int32)) := ⟨_, rfl⟩
        rw [← e9] at hW
        have hX := lt_go hX e9
        refine lv_aload_n hx hb dX3_readCommand_54 rfl (lv_at hl 0 rfl) ?_
        refine lv_aload_n hx hb dX3_readCommand_55 rfl (lv_at hl 1 rfl) ?_
        obtain ⟨r15, x16, h14, hX⟩ := bd2_go hX
        refine k_X3_readInterlock hx hb hml hown htg hK hW hS h14 q1150 hl.1 (Nat.le_of_ble_eq_true rfl) (Nat.le_of_ble_eq_true rfl) (Nat.le_of_ble_eq_true rfl) ⟨Nat.zero_le _, Nat.zero_le _⟩ dX3_readCommand_56 (fun H locs hW hS => ?_)
        obtain ⟨g9, hX⟩ := gb_go hX
        have hX := Option.some.inj hX
        subst hX
        exact rt_z hx hb hr hlocks hW hS (isB_n g9) dX3_readCommand_59
    · have hX := it_f hX c8
      refine lv_aload_n hx hb dX3_readCommand_29 rfl (lv_at hl 1 rfl) ?_
      refine lv_iconst (v := (1 : Int32)) hx hb dX3_readCommand_30 (by decide) ?_
      refine pf_25_0 hx hb htg hown hK hW hS p0 q1112 dX3_readCommand_31 (fun H locs hW hS => ?_)
      obtain ⟨x17, e9⟩ : ∃ w : Mem, w = (up4 x7 25 0 ↑p0 0 (1 : Int32)) := ⟨_, rfl⟩
      rw [← e9] at hW
      have hX := lt_go hX e9
      refine lv_aload_n hx hb dX3_readCommand_34 rfl (lv_at hl 0 rfl) ?_
      refine lv_aload_n hx hb dX3_readCommand_35 rfl (lv_at hl 1 rfl) ?_
      obtain ⟨r19, x20, h18, hX⟩ := bd2_go hX
      refine k_X3_readTicks hx hb hml hown htg hK hW hS h18 q1145 hl.1 (Nat.le_of_ble_eq_true rfl) (Nat.le_of_ble_eq_true rfl) (Nat.le_of_ble_eq_true rfl) ⟨Nat.zero_le _, Nat.zero_le _⟩ dX3_readCommand_36 (fun H locs hW hS => ?_)
      obtain ⟨g9, hX⟩ := gb_go hX
      have hX := Option.some.inj hX
      subst hX
      exact rt_z hx hb hr hlocks hW hS (isB_n g9) dX3_readCommand_39
  · have hX := it_f hX c4
    refine lv_aload_n hx hb dX3_readCommand_9 rfl (lv_at hl 1 rfl) ?_
    refine lv_iconst (v := (0 : Int32)) hx hb dX3_readCommand_10 (by decide) ?_
    refine pf_25_0 hx hb htg hown hK hW hS p0 q1112 dX3_readCommand_11 (fun H locs hW hS => ?_)
    obtain ⟨x21, e9⟩ : ∃ w : Mem, w = (up4 x3 25 0 ↑p0 0 (0 : Int32)) := ⟨_, rfl⟩
    rw [← e9] at hW
    have hX := lt_go hX e9
    refine lv_aload_n hx hb dX3_readCommand_14 rfl (lv_at hl 0 rfl) ?_
    refine lv_aload_n hx hb dX3_readCommand_15 rfl (lv_at hl 1 rfl) ?_
    obtain ⟨r23, x24, h22, hX⟩ := bd2_go hX
    refine k_X3_readJob hx hb hml hown htg hK hW hS h22 q1117 hl.1 (Nat.le_of_ble_eq_true rfl) (Nat.le_of_ble_eq_true rfl) (Nat.le_of_ble_eq_true rfl) ⟨Nat.zero_le _, Nat.zero_le _⟩ dX3_readCommand_16 (fun H locs hW hS => ?_)
    obtain ⟨g9, hX⟩ := gb_go hX
    have hX := Option.some.inj hX
    subst hX
    exact rt_z hx hb hr hlocks hW hS (isB_n g9) dX3_readCommand_19
set_option maxHeartbeats 4000000 in
theorem k_X3_readCommand {p : Program} {l : Launch} {e : Env} {R : Room} {s : State} {m : MethodId} {args : Array Value} {below : List Frame} {meth : Method} {c : Code} {H : Heap} {locs : List Loc} {cells slots : Nat} {Q : State → Prop} {cc : ByteArray} {pc nL idx : Nat} {own : String} {ls : Array Slot} {rest : List Value} {G : Geo} {x y : Mem} {H0 : Heap} {p0 : Fin 28} {v : Int32} {z : Mem} (hx : p.tables.exec = Jvm.exec) (hb : c.code = cc) (hml : c.maxLocals = nL) (hown : s.vm.findClass own = some m.cls) (htg : ∀ w ∈ wsG, w.before args s = true) (hK : Kt G s) (hW : Wh G x y H) (hS : va_S (gF G) H0 H locs) (h : m_X3_readCommand p0 x = some (v, z)) (hlk : Cond.methodLink own idx yX3_readCommand ∈ wsG) (hn : ls.size = nL) (hr : (rest.map fun v => v.category).sum ≤ 8) (hR1 : 3 + 1 ≤ R.frames) (hR2 : 8 + (2 + 11) + 64 ≤ R.locals) (hf : cells ≤ R.cells ∧ slots ≤ R.slots) (hdg : decode cc pc = .ok (.invokevirtual idx, 3)) (kk : ∀ (H1 : Heap) (locs1 : List Loc), Wh G z y H1 → va_S (gF G) H0 H1 locs1 → W p l e R s m args below meth c H1 locs1 cells slots Q (F0 m (pc + 3) ls (.int v :: rest))) : W p l e R s m args below meth c H locs cells slots Q (F0 m pc ls (.ref (gA G 25 0 ↑p0) :: .ref (gA G 22 0 0) :: rest)) := by
  refine va_calli (va_runV (As := [.ref (gA G 25 0 ↑p0)]) (rest := rest) ⟨hx, hb, hml, hown, htg⟩ (c_X3_readCommand l G x y p0 (v, z) h) (cwV 1 htg (gd_V hlk q1109 q1110 q31 q1111) rfl rfl rfl (by decide +kernel) ⟨hR1, hR2⟩) ⟨fun a U g mk q => ⟨q.1, q.2.1.calling, q.2.2⟩, rc_22 hK hW, fun U hU hW9 => ⟨rfl, hK.warm hW9, by rw [hU]; exact hW⟩⟩ rfl rfl hn rfl (lv_room hr) hdg hf) hS (fun _ _ h9 => h9) (fun _ h9 => h9) ?_
  intro r9 u t H1 locs1 ht hvm hw hB hz1 hk1 hS1
  replace hB : Wh G z y t.heap := hB
  rw [ht] at hB
  replace hw : r9 = v := hw
  subst hw
  exact kk H1 locs1 hB hS1
/-! METHOD X3_readText -/
def m_X3_readText_b2 (k2 : Int32 → Mem → Option (Int32 × Mem)) (x1 : Int32) (x : Mem) : Option (Int32 × Mem) :=
  if (27 : Int32) ≤ x1 then (some ((0 : Int32), x)) else (bd_ (m_X3_commandAt x1) fun r4 => bd2_ (m_X3_readCommand r4 x) fun r6 x7 => if r6 = 0 then (some ((0 : Int32), x7)) else (lt_ (up4 x7 22 0 0 0 (x1 + (1 : Int32))) fun x9 => bd2_ (m_X3_take (59 : Int32) x9) fun r11 x12 => if r11 = 0 then (if (x12 22 0 0 3) = (x12 22 0 0 2) then (some ((1 : Int32), x12)) else (some ((0 : Int32), x12))) else (lt_ (x1 + (1 : Int32)) fun x1_14 => k2 x1_14 x12)))
def m_X3_readText_l2 : Nat → Int32 → Mem → Option (Int32 × Mem)
  | 0, _, _ => none
  | n + 1, x1, x => m_X3_readText_b2 (m_X3_readText_l2 n) x1 x
def m_X3_readText (x : Mem) : Option (Int32 × Mem) :=
  lt_ (0 : Int32) fun x1_1 => m_X3_readText_l2 FU x1_1 x
abbrev WS_X3_readText : List Cond := .code yX3_readText cX3_readText 2 (some .boolean) :: wsG
abbrev RM_X3_readText : Room := { frames := 4, cells := 0, slots := 0, locals := 85 }
set_option maxHeartbeats 4000000 in
set_option maxRecDepth 100000 in
theorem c_X3_readText (l : Launch) (G : Geo) (x y : Mem) (r : (Int32 × Mem)) (h : m_X3_readText x = some r) : Met l yX3_readText WS_X3_readText RM_X3_readText (Pw G x y [.ref (gA G 22 0 0)]) (Qi G r.2 y r.1) 0 0 (gF G) := by
  refine Met.ofW (cc := cX3_readText) (maxL := 2) (ret := (some .boolean)) (by decide) rfl ?_
  intro p e s m args below meth c s₁ B hml hv
  obtain ⟨rfl, hK, hW⟩ := hv
  have hx := B.exec
  have hb := B.bytes
  have hr := B.returns
  have hts := atoms_spec (ws := WS_X3_readText) B.pre
  have htg : ∀ w ∈ wsG, w.before _ s = true := fun w h => hts w (List.mem_cons_of_mem _ h)
  have hown : s.vm.findClass RX3 = some m.cls := findClass_of_methodNamed B.named
  have hlocks := B.notSynchronized
  have hS : va_S (gF G) s.heap s.heap [] := va_S.rf
  have hl := lv_entry ([.ref (gA G 22 0 0)]) (n := 2) (Nat.le_of_ble_eq_true rfl)
  rw [lg_entry_eq]
  generalize (lg_sl ([.ref (gA G 22 0 0)]) ++ List.replicate (2 - (lg_sl ([.ref (gA G 22 0 0)])).length) Slot.unset).toArray = ls at hl ⊢
  have hl : lv_has ls 2 [(0, .ref (gA G 22 0 0))] := hl
  have hX := h
  unfold m_X3_readText at hX
  have B_2 : ∀ (k2 : Int32 → Mem → Option (Int32 × Mem)) (hk2 : ∀ (x1 : Int32) (x : Mem) (H : Heap) (locs : List Loc) (ls : Array Slot), Wh G x y H → va_S (gF G) s.heap H locs → lv_has ls 2 [(0, .ref (gA G 22 0 0)), (1, .int x1)] → k2 x1 x = some r → W p l e (headSpec WS_X3_readText RM_X3_readText).room s m ([.ref (gA G 22 0 0)] : List Value).toArray below meth c H locs 0 0 (MQ below (Qi G r.2 y r.1) ([.ref (gA G 22 0 0)] : List Value).toArray s 0 0 (gF G)) (F0 m 2 ls [])), ∀ (x1 : Int32) (x : Mem) (H : Heap) (locs : List Loc) (ls : Array Slot), Wh G x y H → va_S (gF G) s.heap H locs → lv_has ls 2 [(0, .ref (gA G 22 0 0)), (1, .int x1)] → m_X3_readText_b2 k2 x1 x = some r → W p l e (headSpec WS_X3_readText RM_X3_readText).room s m ([.ref (gA G 22 0 0)] : List Value).toArray below meth c H locs 0 0 (MQ below (Qi G r.2 y r.1) ([.ref (gA G 22 0 0)] : List Value).toArray s 0 0 (gF G)) (F0 m 2 ls []) := by
    intro k2 hk2 x1 x H locs ls hW hS hl hX
    unfold m_X3_readText_b2 at hX
    refine lv_iload_n hx hb dX3_readText_2 rfl (lv_at hl 1 rfl) ?_
    refine lv_aload_n hx hb dX3_readText_3 rfl (lv_at hl 0 rfl) ?_
    refine gf_22_5 hx hb htg hown hK hW q128 dX3_readText_4 ?_
    refine an_24 hx hb hK hW dX3_readText_7 ?_
    refine lv_icmp_ge (tgt := 64) hx hb dX3_readText_8 (by decide) (fun c2 => ?_) (fun c2 => ?_)
    · have hX := it_t hX c2
      refine lv_iconst (v := (0 : Int32)) hx hb dX3_readText_64 (by decide) ?_
      have hX := Option.some.inj hX
      subst hX
      exact rt_z hx hb hr hlocks hW hS nb0 dX3_readText_65
    · have hX := it_f hX c2
      refine lv_aload_n hx hb dX3_readText_11 rfl (lv_at hl 0 rfl) ?_
      refine lv_aload_n hx hb dX3_readText_12 rfl (lv_at hl 0 rfl) ?_
      refine lv_iload_n hx hb dX3_readText_13 rfl (lv_at hl 1 rfl) ?_
      obtain ⟨r4, h3, hX⟩ := bd_go hX
      refine k_X3_commandAt hx hb hml hown htg hK hW hS h3 q1104 hl.1 (Nat.le_of_ble_eq_true rfl) (Nat.le_of_ble_eq_true rfl) (Nat.le_of_ble_eq_true rfl) ⟨Nat.zero_le _, Nat.zero_le _⟩ dX3_readText_14 (fun H locs hW hS => ?_)
      obtain ⟨r6, x7, h5, hX⟩ := bd2_go hX
      refine k_X3_readCommand hx hb hml hown htg hK hW hS h5 q1108 hl.1 (Nat.le_of_ble_eq_true rfl) (Nat.le_of_ble_eq_true rfl) (Nat.le_of_ble_eq_true rfl) ⟨Nat.zero_le _, Nat.zero_le _⟩ dX3_readText_17 (fun H locs hW hS => ?_)
      refine lv_if_ne (tgt := 25) hx hb dX3_readText_20 (by decide) (fun c8 => ?_) (fun c8 => ?_)
      · have hX := it_f hX c8
        refine lv_aload_n hx hb dX3_readText_25 rfl (lv_at hl 0 rfl) ?_
        refine lv_iload_n hx hb dX3_readText_26 rfl (lv_at hl 1 rfl) ?_
        refine lv_iconst (v := (1 : Int32)) hx hb dX3_readText_27 (by decide) ?_
        refine lv_iadd hx hb dX3_readText_28 ?_
        refine pf_22_0 hx hb htg hown hK hW hS q1103 dX3_readText_29 (fun H locs hW hS => ?_)
        obtain ⟨x9, e9⟩ : ∃ w : Mem, w = (up4 x7 22 0 0 0 (x1 + (1 : Int32))) := ⟨_, rfl⟩
        rw [← e9] at hW
        have hX := lt_go hX e9
        refine lv_aload_n hx hb dX3_readText_32 rfl (lv_at hl 0 rfl) ?_
        refine lv_bipush (v := (59 : Int32)) hx hb dX3_readText_33 (by decide) ?_
        obtain ⟨r11, x12, h10, hX⟩ := bd2_go hX
        refine k_X3_take hx hb hml hown htg hK hW hS h10 q1113 hl.1 (Nat.le_of_ble_eq_true rfl) (Nat.le_of_ble_eq_true rfl) (Nat.le_of_ble_eq_true rfl) ⟨Nat.zero_le _, Nat.zero_le _⟩ dX3_readText_35 (fun H locs hW hS => ?_)
        refine lv_if_ne (tgt := 58) hx hb dX3_readText_38 (by decide) (fun c13 => ?_) (fun c13 => ?_)
        · have hX := it_f hX c13
          obtain ⟨x1_14, e9⟩ : ∃ w : Int32, w = (x1 + (1 : Int32)) := ⟨_, rfl⟩
          have hX := lt_go hX e9
          refine lv_iinc (v := x1_14) (lv' := [(1, .int x1_14), (0, .ref (gA G 22 0 0))]) hx hb dX3_readText_58 hl (k := 1) rfl (by rw [e9]; rfl) (by decide) rfl (fun ls hl => ?_)
          refine lv_goto (tgt := 2) hx hb dX3_readText_61 (by decide) ?_
          exact hk2 _ _ _ _ _ hW hS (lv_sub hl [1, 0] rfl) hX
        · have hX := it_t hX c13
          refine lv_aload_n hx hb dX3_readText_41 rfl (lv_at hl 0 rfl) ?_
          refine gf_22_3 hx hb htg hown hK hW q1098 dX3_readText_42 ?_
          refine lv_aload_n hx hb dX3_readText_45 rfl (lv_at hl 0 rfl) ?_
          refine gf_22_2 hx hb htg hown hK hW q1076 dX3_readText_46 ?_
          refine lv_icmp_ne (tgt := 56) hx hb dX3_readText_49 (by decide) (fun c15 => ?_) (fun c15 => ?_)
          · have hX := it_f hX c15
            refine lv_iconst (v := (0 : Int32)) hx hb dX3_readText_56 (by decide) ?_
            have hX := Option.some.inj hX
            subst hX
            exact rt_z hx hb hr hlocks hW hS nb0 dX3_readText_57
          · have hX := it_t hX c15
            refine lv_iconst (v := (1 : Int32)) hx hb dX3_readText_52 (by decide) ?_
            refine lv_goto (tgt := 57) hx hb dX3_readText_53 (by decide) ?_
            have hX := Option.some.inj hX
            subst hX
            exact rt_z hx hb hr hlocks hW hS nb1 dX3_readText_57
      · have hX := it_t hX c8
        refine lv_iconst (v := (0 : Int32)) hx hb dX3_readText_23 (by decide) ?_
        have hX := Option.some.inj hX
        subst hX
        exact rt_z hx hb hr hlocks hW hS nb0 dX3_readText_24
  have L_2 : ∀ (n : Nat), ∀ (x1 : Int32) (x : Mem) (H : Heap) (locs : List Loc) (ls : Array Slot), Wh G x y H → va_S (gF G) s.heap H locs → lv_has ls 2 [(0, .ref (gA G 22 0 0)), (1, .int x1)] → m_X3_readText_l2 n x1 x = some r → W p l e (headSpec WS_X3_readText RM_X3_readText).room s m ([.ref (gA G 22 0 0)] : List Value).toArray below meth c H locs 0 0 (MQ below (Qi G r.2 y r.1) ([.ref (gA G 22 0 0)] : List Value).toArray s 0 0 (gF G)) (F0 m 2 ls []) := by
    intro n
    induction n with
    | zero => intro x1 x H locs ls hW hS hl hX; exact no_go hX
    | succ n ih => intro x1 x H locs ls hW hS hl hX; exact B_2 _ ih _ _ _ _ _ hW hS hl hX
  refine lv_iconst (v := (0 : Int32)) hx hb dX3_readText_0 (by decide) ?_
  refine lv_topi (fun x1_1 e9 => ?_)
  have hX := lt_go hX e9
  refine lv_istore_n (lv' := [(1, .int x1_1), (0, .ref (gA G 22 0 0))]) hx hb dX3_readText_1 rfl hl (by decide) rfl (fun ls hl => ?_)
  exact L_2 FU _ _ _ _ _ hW hS (lv_sub hl [1, 0] rfl) hX
set_option maxHeartbeats 4000000 in
theorem k_X3_readText {p : Program} {l : Launch} {e : Env} {R : Room} {s : State} {m : MethodId} {args : Array Value} {below : List Frame} {meth : Method} {c : Code} {H : Heap} {locs : List Loc} {cells slots : Nat} {Q : State → Prop} {cc : ByteArray} {pc nL idx : Nat} {own : String} {ls : Array Slot} {rest : List Value} {G : Geo} {x y : Mem} {H0 : Heap} {v : Int32} {z : Mem} (hx : p.tables.exec = Jvm.exec) (hb : c.code = cc) (hml : c.maxLocals = nL) (hown : s.vm.findClass own = some m.cls) (htg : ∀ w ∈ wsG, w.before args s = true) (hK : Kt G s) (hW : Wh G x y H) (hS : va_S (gF G) H0 H locs) (h : m_X3_readText x = some (v, z)) (hlk : Cond.methodLink own idx yX3_readText ∈ wsG) (hn : ls.size = nL) (hr : (rest.map fun v => v.category).sum ≤ 8) (hR1 : 4 + 1 ≤ R.frames) (hR2 : 8 + (2 + 11) + 85 ≤ R.locals) (hf : cells ≤ R.cells ∧ slots ≤ R.slots) (hdg : decode cc pc = .ok (.invokevirtual idx, 3)) (kk : ∀ (H1 : Heap) (locs1 : List Loc), Wh G z y H1 → va_S (gF G) H0 H1 locs1 → W p l e R s m args below meth c H1 locs1 cells slots Q (F0 m (pc + 3) ls (.int v :: rest))) : W p l e R s m args below meth c H locs cells slots Q (F0 m pc ls (.ref (gA G 22 0 0) :: rest)) := by
  refine va_calli (va_runV (As := []) (rest := rest) ⟨hx, hb, hml, hown, htg⟩ (c_X3_readText l G x y (v, z) h) (cwV 0 htg (gd_V hlk q1100 q1101 q31 q1102) rfl rfl rfl (by decide +kernel) ⟨hR1, hR2⟩) ⟨fun a U g mk q => ⟨q.1, q.2.1.calling, q.2.2⟩, rc_22 hK hW, fun U hU hW9 => ⟨rfl, hK.warm hW9, by rw [hU]; exact hW⟩⟩ rfl rfl hn rfl (lv_room hr) hdg hf) hS (fun _ _ h9 => h9) (fun _ h9 => h9) ?_
  intro r9 u t H1 locs1 ht hvm hw hB hz1 hk1 hS1
  replace hB : Wh G z y t.heap := hB
  rw [ht] at hB
  replace hw : r9 = v := hw
  subst hw
  exact kk H1 locs1 hB hS1
/-! METHOD X3_readCommands -/
def m_X3_readCommands (x : Mem) : Option (Int32 × Mem) :=
  lt_ (up4 x 22 0 0 3 (0 : Int32)) fun x1 => bd2_ (m_X3_readText x1) fun r3 x4 => lt_ r3 fun x1_5 => lt_ (up4 x4 22 0 0 2 (0 : Int32)) fun x6 => if x1_5 = 0 then (some ((x6 22 0 0 3), x6)) else (some ((-1 : Int32), x6))
abbrev WS_X3_readCommands : List Cond := .code yX3_readCommands cX3_readCommands 2 (some .int) :: wsG
abbrev RM_X3_readCommands : Room := { frames := 5, cells := 0, slots := 0, locals := 106 }
set_option maxHeartbeats 4000000 in
set_option maxRecDepth 100000 in
theorem c_X3_readCommands (l : Launch) (G : Geo) (x y : Mem) (r : (Int32 × Mem)) (h : m_X3_readCommands x = some r) : Met l yX3_readCommands WS_X3_readCommands RM_X3_readCommands (Pw G x y [.ref (gA G 22 0 0)]) (Qi G r.2 y r.1) 0 0 (gF G) := by
  refine Met.ofW (cc := cX3_readCommands) (maxL := 2) (ret := (some .int)) (by decide) rfl ?_
  intro p e s m args below meth c s₁ B hml hv
  obtain ⟨rfl, hK, hW⟩ := hv
  have hx := B.exec
  have hb := B.bytes
  have hr := B.returns
  have hts := atoms_spec (ws := WS_X3_readCommands) B.pre
  have htg : ∀ w ∈ wsG, w.before _ s = true := fun w h => hts w (List.mem_cons_of_mem _ h)
  have hown : s.vm.findClass RX3 = some m.cls := findClass_of_methodNamed B.named
  have hlocks := B.notSynchronized
  have hS : va_S (gF G) s.heap s.heap [] := va_S.rf
  have hl := lv_entry ([.ref (gA G 22 0 0)]) (n := 2) (Nat.le_of_ble_eq_true rfl)
  rw [lg_entry_eq]
  generalize (lg_sl ([.ref (gA G 22 0 0)]) ++ List.replicate (2 - (lg_sl ([.ref (gA G 22 0 0)])).length) Slot.unset).toArray = ls at hl ⊢
  have hl : lv_has ls 2 [(0, .ref (gA G 22 0 0))] := hl
  have hX := h
  unfold m_X3_readCommands at hX
  refine lv_aload_n hx hb dX3_readCommands_0 rfl (lv_at hl 0 rfl) ?_
  refine lv_iconst (v := (0 : Int32)) hx hb dX3_readCommands_1 (by decide) ?_
  refine pf_22_3 hx hb htg hown hK hW hS q1098 dX3_readCommands_2 (fun H locs hW hS => ?_)
  obtain ⟨x1, e9⟩ : ∃ w : Mem, w = (up4 x 22 0 0 3 (0 : Int32)) := ⟨_, rfl⟩
  rw [← e9] at hW
  have hX := lt_go hX e9
  refine lv_aload_n hx hb dX3_readCommands_5 rfl (lv_at hl 0 rfl) ?_
  obtain ⟨r3, x4, h2, hX⟩ := bd2_go hX
  refine k_X3_readText hx hb hml hown htg hK hW hS h2 q1099 hl.1 (Nat.le_of_ble_eq_true rfl) (Nat.le_of_ble_eq_true rfl) (Nat.le_of_ble_eq_true rfl) ⟨Nat.zero_le _, Nat.zero_le _⟩ dX3_readCommands_6 (fun H locs hW hS => ?_)
  refine lv_topi (fun x1_5 e9 => ?_)
  have hX := lt_go hX e9
  refine lv_istore_n (lv' := [(1, .int x1_5), (0, .ref (gA G 22 0 0))]) hx hb dX3_readCommands_9 rfl hl (by decide) rfl (fun ls hl => ?_)
  refine lv_aload_n hx hb dX3_readCommands_10 rfl (lv_at hl 1 rfl) ?_
  refine lv_iconst (v := (0 : Int32)) hx hb dX3_readCommands_11 (by decide) ?_
  refine pf_22_2 hx hb htg hown hK hW hS q1076 dX3_readCommands_12 (fun H locs hW hS => ?_)
  obtain ⟨x6, e9⟩ : ∃ w : Mem, w = (up4 x4 22 0 0 2 (0 : Int32)) := ⟨_, rfl⟩
  rw [← e9] at hW
  have hX := lt_go hX e9
  refine lv_iload_n hx hb dX3_readCommands_15 rfl (lv_at hl 0 rfl) ?_
  refine lv_if_eq (tgt := 23) hx hb dX3_readCommands_16 (by decide) (fun c7 => ?_) (fun c7 => ?_)
  · have hX := it_t hX c7
    refine lv_aload_n hx hb dX3_readCommands_23 rfl (lv_at hl 1 rfl) ?_
    refine gf_22_3 hx hb htg hown hK hW q1098 dX3_readCommands_24 ?_
    have hX := Option.some.inj hX
    subst hX
    exact rt_i hx hb hr hlocks hW hS dX3_readCommands_27
  · have hX := it_f hX c7
    refine lv_iconst (v := (-1 : Int32)) hx hb dX3_readCommands_19 (by decide) ?_
    refine lv_goto (tgt := 27) hx hb dX3_readCommands_20 (by decide) ?_
    have hX := Option.some.inj hX
    subst hX
    exact rt_i hx hb hr hlocks hW hS dX3_readCommands_27
set_option maxHeartbeats 4000000 in
theorem k_X3_readCommands {p : Program} {l : Launch} {e : Env} {R : Room} {s : State} {m : MethodId} {args : Array Value} {below : List Frame} {meth : Method} {c : Code} {H : Heap} {locs : List Loc} {cells slots : Nat} {Q : State → Prop} {cc : ByteArray} {pc nL idx : Nat} {own : String} {ls : Array Slot} {rest : List Value} {G : Geo} {x y : Mem} {H0 : Heap} {v : Int32} {z : Mem} (hx : p.tables.exec = Jvm.exec) (hb : c.code = cc) (hml : c.maxLocals = nL) (hown : s.vm.findClass own = some m.cls) (htg : ∀ w ∈ wsG, w.before args s = true) (hK : Kt G s) (hW : Wh G x y H) (hS : va_S (gF G) H0 H locs) (h : m_X3_readCommands x = some (v, z)) (hlk : Cond.methodLink own idx yX3_readCommands ∈ wsG) (hn : ls.size = nL) (hr : (rest.map fun v => v.category).sum ≤ 8) (hR1 : 5 + 1 ≤ R.frames) (hR2 : 8 + (2 + 11) + 106 ≤ R.locals) (hf : cells ≤ R.cells ∧ slots ≤ R.slots) (hdg : decode cc pc = .ok (.invokevirtual idx, 3)) (kk : ∀ (H1 : Heap) (locs1 : List Loc), Wh G z y H1 → va_S (gF G) H0 H1 locs1 → W p l e R s m args below meth c H1 locs1 cells slots Q (F0 m (pc + 3) ls (.int v :: rest))) : W p l e R s m args below meth c H locs cells slots Q (F0 m pc ls (.ref (gA G 22 0 0) :: rest)) := by
  refine va_calli (va_runV (As := []) (rest := rest) ⟨hx, hb, hml, hown, htg⟩ (c_X3_readCommands l G x y (v, z) h) (cwV 0 htg (gd_V hlk q1095 q1096 q31 q1097) rfl rfl rfl (by decide +kernel) ⟨hR1, hR2⟩) ⟨fun a U g mk q => ⟨q.1, q.2.1.calling, q.2.2⟩, rc_22 hK hW, fun U hU hW9 => ⟨rfl, hK.warm hW9, by rw [hU]; exact hW⟩⟩ rfl rfl hn rfl (lv_room hr) hdg hf) hS (fun _ _ h9 => h9) (fun _ h9 => h9) ?_
  intro r9 u t H1 locs1 ht hvm hw hB hz1 hk1 hS1
  replace hB : Wh G z y t.heap := hB
  rw [ht] at hB
  replace hw : r9 = v := hw
  subst hw
  exact kk H1 locs1 hB hS1
/-! METHOD X4_cellAt -/
def m_X4_cellAt (p0 : Int32) (x : Mem) : Option (Fin 10) :=
  lt_ (rem32 ((x 15 0 0 1) + p0) (6 : Int32)) fun x2_1 => if x2_1 < 0 then (some (3 : Fin 10)) else (if (6 : Int32) ≤ x2_1 then (some (3 : Fin 10)) else (gd_ x2_1 6 (lt_ (el_16 x2_1) fun o5 => lt_ (el_16 x2_1) fun o6 => some o6)))
abbrev WS_X4_cellAt : List Cond := .code yX4_cellAt cX4_cellAt 3 (some (.object "RobotCell$Cell")) :: wsG
abbrev RM_X4_cellAt : Room := { frames := 0, cells := 0, slots := 0, locals := 0 }
set_option maxHeartbeats 4000000 in
set_option maxRecDepth 100000 in
theorem c_X4_cellAt (l : Launch) (G : Geo) (x y : Mem) (p0 : Int32) (r : (Fin 10)) (h : m_X4_cellAt p0 x = some r) : Met l yX4_cellAt WS_X4_cellAt RM_X4_cellAt (Pw G x y [.ref (gA G 15 0 0), .int p0]) (Qr G x y (gA G 2 ↑r 0)) 0 0 (gF G) := by
  refine Met.ofW (cc := cX4_cellAt) (maxL := 3) (ret := (some (.object "RobotCell$Cell"))) (by decide) rfl ?_
  intro p e s m args below meth c s₁ B hml hv
  obtain ⟨rfl, hK, hW⟩ := hv
  have hx := B.exec
  have hb := B.bytes
  have hr := B.returns
  have hts := atoms_spec (ws := WS_X4_cellAt) B.pre
  have htg : ∀ w ∈ wsG, w.before _ s = true := fun w h => hts w (List.mem_cons_of_mem _ h)
  have hown : s.vm.findClass RX4 = some m.cls := findClass_of_methodNamed B.named
  have hlocks := B.notSynchronized
  have hS : va_S (gF G) s.heap s.heap [] := va_S.rf
  have hl := lv_entry ([.ref (gA G 15 0 0), .int p0]) (n := 3) (Nat.le_of_ble_eq_true rfl)
  rw [lg_entry_eq]
  generalize (lg_sl ([.ref (gA G 15 0 0), .int p0]) ++ List.replicate (3 - (lg_sl ([.ref (gA G 15 0 0), .int p0])).length) Slot.unset).toArray = ls at hl ⊢
  have hl : lv_has ls 3 [(0, .ref (gA G 15 0 0)), (1, .int p0)] := hl
  have hX := h
  unfold m_X4_cellAt at hX
  refine lv_aload_n hx hb dX4_cellAt_0 rfl (lv_at hl 0 rfl) ?_
  refine gf_15_1 hx hb htg hown hK hW q230 dX4_cellAt_1 ?_
  refine lv_iload_n hx hb dX4_cellAt_4 rfl (lv_at hl 1 rfl) ?_
  refine lv_iadd hx hb dX4_cellAt_5 ?_
  refine lv_bipush (v := (6 : Int32)) hx hb dX4_cellAt_6 (by decide) ?_
  refine lv_irem_ hx hb dX4_cellAt_8 (by decide) ?_
  refine lv_topi (fun x2_1 e9 => ?_)
  have hX := lt_go hX e9
  refine lv_istore_n (lv' := [(2, .int x2_1), (0, .ref (gA G 15 0 0)), (1, .int p0)]) hx hb dX4_cellAt_9 rfl hl (by decide) rfl (fun ls hl => ?_)
  refine lv_iload_n hx hb dX4_cellAt_10 rfl (lv_at hl 0 rfl) ?_
  refine lv_if_lt (tgt := 41) hx hb dX4_cellAt_11 (by decide) (fun c2 => ?_) (fun c2 => ?_)
  · have hX := it_t hX c2
    refine lv_aload_n hx hb dX4_cellAt_41 rfl (lv_at hl 1 rfl) ?_
    refine gf_15_3 hx hb htg hown hK hW q100 dX4_cellAt_42 ?_
    have hX := Option.some.inj hX
    subst hX
    exact rt_r hx hb hr hlocks hW hS dX4_cellAt_45
  · have hX := it_f hX c2
    refine lv_iload_n hx hb dX4_cellAt_14 rfl (lv_at hl 0 rfl) ?_
    refine lv_aload_n hx hb dX4_cellAt_15 rfl (lv_at hl 1 rfl) ?_
    refine gf_15_2 hx hb htg hown hK hW q101 dX4_cellAt_16 ?_
    refine an_16 hx hb hK hW dX4_cellAt_19 ?_
    refine lv_icmp_ge (tgt := 41) hx hb dX4_cellAt_20 (by decide) (fun c3 => ?_) (fun c3 => ?_)
    · have hX := it_t hX c3
      refine lv_aload_n hx hb dX4_cellAt_41 rfl (lv_at hl 1 rfl) ?_
      refine gf_15_3 hx hb htg hown hK hW q100 dX4_cellAt_42 ?_
      have hX := Option.some.inj hX
      subst hX
      exact rt_r hx hb hr hlocks hW hS dX4_cellAt_45
    · have hX := it_f hX c3
      refine lv_aload_n hx hb dX4_cellAt_23 rfl (lv_at hl 1 rfl) ?_
      refine gf_15_2 hx hb htg hown hK hW q101 dX4_cellAt_24 ?_
      refine lv_iload_n hx hb dX4_cellAt_27 rfl (lv_at hl 0 rfl) ?_
      obtain ⟨g4, hX⟩ := gd_go hX
      refine ae_16 hx hb hK hW g4 dX4_cellAt_28 ?_
      obtain ⟨o5, e9⟩ : ∃ w, w = (el_16 x2_1) := ⟨_, rfl⟩
      rw [← e9]
      have hX := lt_go hX e9
      refine lv_ifnull hx hb dX4_cellAt_29 ?_
      refine lv_aload_n hx hb dX4_cellAt_32 rfl (lv_at hl 1 rfl) ?_
      refine gf_15_2 hx hb htg hown hK hW q101 dX4_cellAt_33 ?_
      refine lv_iload_n hx hb dX4_cellAt_36 rfl (lv_at hl 0 rfl) ?_
      refine ae_16 hx hb hK hW g4 dX4_cellAt_37 ?_
      obtain ⟨o6, e9⟩ : ∃ w, w = (el_16 x2_1) := ⟨_, rfl⟩
      rw [← e9]
      have hX := lt_go hX e9
      refine lv_goto (tgt := 45) hx hb dX4_cellAt_38 (by decide) ?_
      have hX := Option.some.inj hX
      subst hX
      exact rt_r hx hb hr hlocks hW hS dX4_cellAt_45
set_option maxHeartbeats 4000000 in
theorem k_X4_cellAt {p : Program} {l : Launch} {e : Env} {R : Room} {s : State} {m : MethodId} {args : Array Value} {below : List Frame} {meth : Method} {c : Code} {H : Heap} {locs : List Loc} {cells slots : Nat} {Q : State → Prop} {cc : ByteArray} {pc nL idx : Nat} {own : String} {ls : Array Slot} {rest : List Value} {G : Geo} {x y : Mem} {H0 : Heap} {p0 : Int32} {v : (Fin 10)} (hx : p.tables.exec = Jvm.exec) (hb : c.code = cc) (hml : c.maxLocals = nL) (hown : s.vm.findClass own = some m.cls) (htg : ∀ w ∈ wsG, w.before args s = true) (hK : Kt G s) (hW : Wh G x y H) (hS : va_S (gF G) H0 H locs) (h : m_X4_cellAt p0 x = some v) (hlk : Cond.methodLink own idx yX4_cellAt ∈ wsG) (hn : ls.size = nL) (hr : (rest.map fun v => v.category).sum ≤ 8) (hR1 : 0 + 1 ≤ R.frames) (hR2 : 8 + (3 + 11) + 0 ≤ R.locals) (hf : cells ≤ R.cells ∧ slots ≤ R.slots) (hdg : decode cc pc = .ok (.invokevirtual idx, 3)) (kk : ∀ (H1 : Heap) (locs1 : List Loc), Wh G x y H1 → va_S (gF G) H0 H1 locs1 → W p l e R s m args below meth c H1 locs1 cells slots Q (F0 m (pc + 3) ls (.ref (gA G 2 ↑v 0) :: rest))) : W p l e R s m args below meth c H locs cells slots Q (F0 m pc ls (.int p0 :: .ref (gA G 15 0 0) :: rest)) := by
  refine va_callr (va_runV (As := [.int p0]) (rest := rest) ⟨hx, hb, hml, hown, htg⟩ (c_X4_cellAt l G x y p0 v h) (cwV 1 htg (gd_V hlk q232 q233 q23 q234) rfl rfl rfl (by decide +kernel) ⟨hR1, hR2⟩) ⟨fun a U g mk q => ⟨q.1, q.2.1.calling, q.2.2⟩, rc_15 hK hW, fun U hU hW9 => ⟨rfl, hK.warm hW9, by rw [hU]; exact hW⟩⟩ rfl rfl hn rfl (lv_room hr) hdg hf) hS (fun _ _ h9 => h9) (fun _ h9 => h9) ?_
  intro u a9 t H1 locs1 ht hvm hw hB hz1 hk1 hS1
  obtain ⟨ha9, hB⟩ := hB
  replace hB : Wh G x y t.heap := hB
  rw [ht] at hB
  replace ha9 : a9 = _ := ha9
  subst ha9
  exact kk H1 locs1 hB hS1
/-! METHOD X4_forget -/
def m_X4_forget (x : Mem) : Option Mem :=
  lt_ (up4 x 15 0 0 0 (0 : Int32)) fun x1 => some x1
abbrev WS_X4_forget : List Cond := .code yX4_forget cX4_forget 1 none :: wsG
abbrev RM_X4_forget : Room := { frames := 0, cells := 0, slots := 0, locals := 0 }
set_option maxHeartbeats 4000000 in
set_option maxRecDepth 100000 in
theorem c_X4_forget (l : Launch) (G : Geo) (x y : Mem) (r : Mem) (h : m_X4_forget x = some r) : Met l yX4_forget WS_X4_forget RM_X4_forget (Pw G x y [.ref (gA G 15 0 0)]) (Qv G r y) 0 0 (gF G) := by
  refine Met.ofW (cc := cX4_forget) (maxL := 1) (ret := none) (by decide) rfl ?_
  intro p e s m args below meth c s₁ B hml hv
  obtain ⟨rfl, hK, hW⟩ := hv
  have hx := B.exec
  have hb := B.bytes
  have hr := B.returns
  have hts := atoms_spec (ws := WS_X4_forget) B.pre
  have htg : ∀ w ∈ wsG, w.before _ s = true := fun w h => hts w (List.mem_cons_of_mem _ h)
  have hown : s.vm.findClass RX4 = some m.cls := findClass_of_methodNamed B.named
  have hlocks := B.notSynchronized
  have hS : va_S (gF G) s.heap s.heap [] := va_S.rf
  have hl := lv_entry ([.ref (gA G 15 0 0)]) (n := 1) (Nat.le_of_ble_eq_true rfl)
  rw [lg_entry_eq]
  generalize (lg_sl ([.ref (gA G 15 0 0)]) ++ List.replicate (1 - (lg_sl ([.ref (gA G 15 0 0)])).length) Slot.unset).toArray = ls at hl ⊢
  have hl : lv_has ls 1 [(0, .ref (gA G 15 0 0))] := hl
  have hX := h
  unfold m_X4_forget at hX
  refine lv_aload_n hx hb dX4_forget_0 rfl (lv_at hl 0 rfl) ?_
  refine lv_iconst (v := (0 : Int32)) hx hb dX4_forget_1 (by decide) ?_
  refine pf_15_0 hx hb htg hown hK hW hS q229 dX4_forget_2 (fun H locs hW hS => ?_)
  obtain ⟨x1, e9⟩ : ∃ w : Mem, w = (up4 x 15 0 0 0 (0 : Int32)) := ⟨_, rfl⟩
  rw [← e9] at hW
  have hX := lt_go hX e9
  have hX := Option.some.inj hX
  subst hX
  exact rt_v hx hb hr hlocks hW hS dX4_forget_5
set_option maxHeartbeats 4000000 in
theorem k_X4_forget {p : Program} {l : Launch} {e : Env} {R : Room} {s : State} {m : MethodId} {args : Array Value} {below : List Frame} {meth : Method} {c : Code} {H : Heap} {locs : List Loc} {cells slots : Nat} {Q : State → Prop} {cc : ByteArray} {pc nL idx : Nat} {own : String} {ls : Array Slot} {rest : List Value} {G : Geo} {x y : Mem} {H0 : Heap} {z : Mem} (hx : p.tables.exec = Jvm.exec) (hb : c.code = cc) (hml : c.maxLocals = nL) (hown : s.vm.findClass own = some m.cls) (htg : ∀ w ∈ wsG, w.before args s = true) (hK : Kt G s) (hW : Wh G x y H) (hS : va_S (gF G) H0 H locs) (h : m_X4_forget x = some z) (hlk : Cond.methodLink own idx yX4_forget ∈ wsG) (hn : ls.size = nL) (hr : (rest.map fun v => v.category).sum ≤ 8) (hR1 : 0 + 1 ≤ R.frames) (hR2 : 8 + (1 + 11) + 0 ≤ R.locals) (hf : cells ≤ R.cells ∧ slots ≤ R.slots) (hdg : decode cc pc = .ok (.invokevirtual idx, 3)) (kk : ∀ (H1 : Heap) (locs1 : List Loc), Wh G z y H1 → va_S (gF G) H0 H1 locs1 → W p l e R s m args below meth c H1 locs1 cells slots Q (F0 m (pc + 3) ls (rest))) : W p l e R s m args below meth c H locs cells slots Q (F0 m pc ls (.ref (gA G 15 0 0) :: rest)) := by
  refine va_callv (va_runV (As := []) (rest := rest) ⟨hx, hb, hml, hown, htg⟩ (c_X4_forget l G x y z h) (cwV 0 htg (gd_V hlk q1248 q1249 q23 q1250) rfl rfl rfl (by decide +kernel) ⟨hR1, hR2⟩) ⟨fun a U g mk q => ⟨q.1, q.2.1.calling, q.2.2⟩, rc_15 hK hW, fun U hU hW9 => ⟨rfl, hK.warm hW9, by rw [hU]; exact hW⟩⟩ rfl rfl hn rfl (lv_room hr) hdg hf) hS (fun _ _ h9 => h9) (fun _ h9 => h9) ?_
  intro u t H1 locs1 ht hvm hw hB hz1 hk1 hS1
  replace hB : Wh G z y t.heap := hB
  rw [ht] at hB
  exact kk H1 locs1 hB hS1
/-! METHOD X4_keep -/
def m_X4_keep_j32 (p0 : Fin 10) (x : Mem) : Option Mem :=
  bd_ (m_X4_cellAt (x 15 0 0 0) x) fun r5 => bd_ (m_X1_copyFrom r5 p0 x) fun x8 => lt_ (up4 x8 15 0 0 0 ((x8 15 0 0 0) + (1 : Int32))) fun x9 => some x9
def m_X4_keep (p0 : Fin 10) (x : Mem) : Option Mem :=
  if (x 15 0 0 0) = (6 : Int32) then (lt_ (up4 x 15 0 0 1 (rem32 ((x 15 0 0 1) + (1 : Int32)) (6 : Int32))) fun x2 => lt_ (up4 x2 15 0 0 0 ((x2 15 0 0 0) - (1 : Int32))) fun x3 => m_X4_keep_j32 p0 x3) else (m_X4_keep_j32 p0 x)
abbrev WS_X4_keep : List Cond := .code yX4_keep cX4_keep 2 none :: wsG
abbrev RM_X4_keep : Room := { frames := 3, cells := 0, slots := 0, locals := 65 }
set_option maxHeartbeats 4000000 in
set_option maxRecDepth 100000 in
theorem c_X4_keep (l : Launch) (G : Geo) (x y : Mem) (p0 : Fin 10) (r : Mem) (h : m_X4_keep p0 x = some r) : Met l yX4_keep WS_X4_keep RM_X4_keep (Pw G x y [.ref (gA G 15 0 0), .ref (gA G 2 ↑p0 0)]) (Qv G r y) 0 0 (gF G) := by
  refine Met.ofW (cc := cX4_keep) (maxL := 2) (ret := none) (by decide) rfl ?_
  intro p e s m args below meth c s₁ B hml hv
  obtain ⟨rfl, hK, hW⟩ := hv
  have hx := B.exec
  have hb := B.bytes
  have hr := B.returns
  have hts := atoms_spec (ws := WS_X4_keep) B.pre
  have htg : ∀ w ∈ wsG, w.before _ s = true := fun w h => hts w (List.mem_cons_of_mem _ h)
  have hown : s.vm.findClass RX4 = some m.cls := findClass_of_methodNamed B.named
  have hlocks := B.notSynchronized
  have hS : va_S (gF G) s.heap s.heap [] := va_S.rf
  have hl := lv_entry ([.ref (gA G 15 0 0), .ref (gA G 2 ↑p0 0)]) (n := 2) (Nat.le_of_ble_eq_true rfl)
  rw [lg_entry_eq]
  generalize (lg_sl ([.ref (gA G 15 0 0), .ref (gA G 2 ↑p0 0)]) ++ List.replicate (2 - (lg_sl ([.ref (gA G 15 0 0), .ref (gA G 2 ↑p0 0)])).length) Slot.unset).toArray = ls at hl ⊢
  have hl : lv_has ls 2 [(0, .ref (gA G 15 0 0)), (1, .ref (gA G 2 ↑p0 0))] := hl
  have hX := h
  unfold m_X4_keep at hX
  have J_32 : ∀ (x : Mem) (H : Heap) (locs : List Loc) (ls : Array Slot), Wh G x y H → va_S (gF G) s.heap H locs → lv_has ls 2 [(0, .ref (gA G 15 0 0)), (1, .ref (gA G 2 ↑p0 0))] → m_X4_keep_j32 p0 x = some r → W p l e (headSpec WS_X4_keep RM_X4_keep).room s m ([.ref (gA G 15 0 0), .ref (gA G 2 ↑p0 0)] : List Value).toArray below meth c H locs 0 0 (MQ below (Qv G r y) ([.ref (gA G 15 0 0), .ref (gA G 2 ↑p0 0)] : List Value).toArray s 0 0 (gF G)) (F0 m 32 ls []) := by
    intro x H locs ls hW hS hl hX
    unfold m_X4_keep_j32 at hX
    refine lv_aload_n hx hb dX4_keep_32 rfl (lv_at hl 0 rfl) ?_
    refine lv_aload_n hx hb dX4_keep_33 rfl (lv_at hl 0 rfl) ?_
    refine gf_15_0 hx hb htg hown hK hW q229 dX4_keep_34 ?_
    obtain ⟨r5, h4, hX⟩ := bd_go hX
    refine k_X4_cellAt hx hb hml hown htg hK hW hS h4 q231 hl.1 (Nat.le_of_ble_eq_true rfl) (Nat.le_of_ble_eq_true rfl) (Nat.le_of_ble_eq_true rfl) ⟨Nat.zero_le _, Nat.zero_le _⟩ dX4_keep_37 (fun H locs hW hS => ?_)
    refine lv_aload_n hx hb dX4_keep_40 rfl (lv_at hl 1 rfl) ?_
    obtain ⟨x8, h6, hX⟩ := bd_go hX
    refine k_X1_copyFrom hx hb hml hown htg hK hW hS h6 q235 hl.1 (Nat.le_of_ble_eq_true rfl) (Nat.le_of_ble_eq_true rfl) (Nat.le_of_ble_eq_true rfl) ⟨Nat.zero_le _, Nat.zero_le _⟩ dX4_keep_41 (fun H locs hW hS => ?_)
    refine lv_aload_n hx hb dX4_keep_44 rfl (lv_at hl 0 rfl) ?_
    refine lv_dup hx hb dX4_keep_45 rfl ?_
    refine gf_15_0 hx hb htg hown hK hW q229 dX4_keep_46 ?_
    refine lv_iconst (v := (1 : Int32)) hx hb dX4_keep_49 (by decide) ?_
    refine lv_iadd hx hb dX4_keep_50 ?_
    refine pf_15_0 hx hb htg hown hK hW hS q229 dX4_keep_51 (fun H locs hW hS => ?_)
    obtain ⟨x9, e9⟩ : ∃ w : Mem, w = (up4 x8 15 0 0 0 ((x8 15 0 0 0) + (1 : Int32))) := ⟨_, rfl⟩
    rw [← e9] at hW
    have hX := lt_go hX e9
    have hX := Option.some.inj hX
    subst hX
    exact rt_v hx hb hr hlocks hW hS dX4_keep_54
  refine lv_aload_n hx hb dX4_keep_0 rfl (lv_at hl 0 rfl) ?_
  refine gf_15_0 hx hb htg hown hK hW q229 dX4_keep_1 ?_
  refine lv_bipush (v := (6 : Int32)) hx hb dX4_keep_4 (by decide) ?_
  refine lv_icmp_ne (tgt := 32) hx hb dX4_keep_6 (by decide) (fun c1 => ?_) (fun c1 => ?_)
  · have hX := it_f hX c1
    exact J_32 _ _ _ _ hW hS (lv_sub hl [0, 1] rfl) hX
  · have hX := it_t hX c1
    refine lv_aload_n hx hb dX4_keep_9 rfl (lv_at hl 0 rfl) ?_
    refine lv_aload_n hx hb dX4_keep_10 rfl (lv_at hl 0 rfl) ?_
    refine gf_15_1 hx hb htg hown hK hW q230 dX4_keep_11 ?_
    refine lv_iconst (v := (1 : Int32)) hx hb dX4_keep_14 (by decide) ?_
    refine lv_iadd hx hb dX4_keep_15 ?_
    refine lv_bipush (v := (6 : Int32)) hx hb dX4_keep_16 (by decide) ?_
    refine lv_irem_ hx hb dX4_keep_18 (by decide) ?_
    refine pf_15_1 hx hb htg hown hK hW hS q230 dX4_keep_19 (fun H locs hW hS => ?_)
    obtain ⟨x2, e9⟩ : ∃ w : Mem, w = (up4 x 15 0 0 1 (rem32 ((x 15 0 0 1) + (1 : Int32)) (6 : Int32))) := ⟨_, rfl⟩
    rw [← e9] at hW
    have hX := lt_go hX e9
    refine lv_aload_n hx hb dX4_keep_22 rfl (lv_at hl 0 rfl) ?_
    refine lv_dup hx hb dX4_keep_23 rfl ?_
    refine gf_15_0 hx hb htg hown hK hW q229 dX4_keep_24 ?_
    refine lv_iconst (v := (1 : Int32)) hx hb dX4_keep_27 (by decide) ?_
    refine lv_isub hx hb dX4_keep_28 ?_
    refine pf_15_0 hx hb htg hown hK hW hS q229 dX4_keep_29 (fun H locs hW hS => ?_)
    obtain ⟨x3, e9⟩ : ∃ w : Mem, w = (up4 x2 15 0 0 0 ((x2 15 0 0 0) - (1 : Int32))) := ⟨_, rfl⟩
    rw [← e9] at hW
    have hX := lt_go hX e9
    exact J_32 _ _ _ _ hW hS (lv_sub hl [0, 1] rfl) hX
set_option maxHeartbeats 4000000 in
theorem k_X4_keep {p : Program} {l : Launch} {e : Env} {R : Room} {s : State} {m : MethodId} {args : Array Value} {below : List Frame} {meth : Method} {c : Code} {H : Heap} {locs : List Loc} {cells slots : Nat} {Q : State → Prop} {cc : ByteArray} {pc nL idx : Nat} {own : String} {ls : Array Slot} {rest : List Value} {G : Geo} {x y : Mem} {H0 : Heap} {p0 : Fin 10} {z : Mem} (hx : p.tables.exec = Jvm.exec) (hb : c.code = cc) (hml : c.maxLocals = nL) (hown : s.vm.findClass own = some m.cls) (htg : ∀ w ∈ wsG, w.before args s = true) (hK : Kt G s) (hW : Wh G x y H) (hS : va_S (gF G) H0 H locs) (h : m_X4_keep p0 x = some z) (hlk : Cond.methodLink own idx yX4_keep ∈ wsG) (hn : ls.size = nL) (hr : (rest.map fun v => v.category).sum ≤ 8) (hR1 : 3 + 1 ≤ R.frames) (hR2 : 8 + (2 + 11) + 65 ≤ R.locals) (hf : cells ≤ R.cells ∧ slots ≤ R.slots) (hdg : decode cc pc = .ok (.invokevirtual idx, 3)) (kk : ∀ (H1 : Heap) (locs1 : List Loc), Wh G z y H1 → va_S (gF G) H0 H1 locs1 → W p l e R s m args below meth c H1 locs1 cells slots Q (F0 m (pc + 3) ls (rest))) : W p l e R s m args below meth c H locs cells slots Q (F0 m pc ls (.ref (gA G 2 ↑p0 0) :: .ref (gA G 15 0 0) :: rest)) := by
  refine va_callv (va_runV (As := [.ref (gA G 2 ↑p0 0)]) (rest := rest) ⟨hx, hb, hml, hown, htg⟩ (c_X4_keep l G x y p0 z h) (cwV 1 htg (gd_V hlk q226 q227 q23 q228) rfl rfl rfl (by decide +kernel) ⟨hR1, hR2⟩) ⟨fun a U g mk q => ⟨q.1, q.2.1.calling, q.2.2⟩, rc_15 hK hW, fun U hU hW9 => ⟨rfl, hK.warm hW9, by rw [hU]; exact hW⟩⟩ rfl rfl hn rfl (lv_room hr) hdg hf) hS (fun _ _ h9 => h9) (fun _ h9 => h9) ?_
  intro u t H1 locs1 ht hvm hw hB hz1 hk1 hS1
  replace hB : Wh G z y t.heap := hB
  rw [ht] at hB
  exact kk H1 locs1 hB hS1
